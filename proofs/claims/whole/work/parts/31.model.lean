set_option maxHeartbeats 4000000 in
set_option maxRecDepth 100000 in
theorem c_X9_in (l : Launch) (D : va_G) (cI cL : ClassId) (v a b : Int32) : Met l yX9_in wsX9_in ({ frames := 0, cells := 0, slots := 0, locals := 0 }) (t_rPc D cI cL [.int v, .int a, .int b] []) (vp_Si (fun r => r = t_b (t_inb v a b))) 0 0 (fun _ => False) := by
  refine t_ofR (by decide) rfl (Nat.le_of_ble_eq_true rfl) ?_
  intro p e s m below meth c ls hx hb hml hown hts hr hlocks hK hP hl
  have hown : s.vm.findClass RX9 = some m.cls := hown
  have hl : lv_has ls 3 [(0, .int v), (1, .int a), (2, .int b)] := hl
  refine lv_iload_n hx hb dX9_in_0 rfl (lv_at hl 0 rfl) ?_
  refine lv_iload_n hx hb dX9_in_1 rfl (lv_at hl 1 rfl) ?_
  refine lv_icmp_lt (tgt := 14) hx hb dX9_in_2 (by decide) (fun q2_1 => ?_) (fun q2_1 => ?_)
  · refine lv_iconst (v := ((nI 0) : Int32)) hx hb dX9_in_14 (by decide +kernel) ?_
    exact W.zret (v := (nI 0)) hx hb hr rfl (fun t ht hW => ⟨_, rfl, (t_b_f (t_inb_lo q2_1)), ht⟩) (fun q h => by cases h) dX9_in_15 hlocks
  · refine lv_iload_n hx hb dX9_in_5 rfl (lv_at hl 0 rfl) ?_
    refine lv_iload_n hx hb dX9_in_6 rfl (lv_at hl 2 rfl) ?_
    refine lv_icmp_gt (tgt := 14) hx hb dX9_in_7 (by decide) (fun q7_2 => ?_) (fun q7_2 => ?_)
    · refine lv_iconst (v := ((nI 0) : Int32)) hx hb dX9_in_14 (by decide +kernel) ?_
      exact W.zret (v := (nI 0)) hx hb hr rfl (fun t ht hW => ⟨_, rfl, (t_b_f (t_inb_hi q7_2)), ht⟩) (fun q h => by cases h) dX9_in_15 hlocks
    · refine lv_iconst (v := ((nI 1) : Int32)) hx hb dX9_in_10 (by decide +kernel) ?_
      refine lv_goto (tgt := 15) hx hb dX9_in_11 (by decide) ?_
      exact W.zret (v := (nI 1)) hx hb hr rfl (fun t ht hW => ⟨_, rfl, (t_b_t (t_inb_y q2_1 q7_2)), ht⟩) (fun q h => by cases h) dX9_in_15 hlocks

set_option maxHeartbeats 4000000 in
set_option maxRecDepth 100000 in
theorem c_X9_manyFrames (l : Launch) (D : va_G) (cI cL : ClassId) (h m1 m2 m3 m4 m5 m6 m7 m8 m9 m10 m11 n tm : Nat) (thr th un ju ch ba nm oc ct : Int32) (x dd ss cn la co le fr tr no : Nat → Int32) (hsn : n ≤ 1024) : Met l yX9_manyFrames wsX9_manyFrames ({ frames := 0, cells := 0, slots := 0, locals := 0 }) (t_rPc D cI cL [.ref h] [(h, .inr (9, [.int thr, .int (nI n), .ref m1, .int th, .int un, .int ju, .int ch, .int (nI tm), .int ba, .ref m2, .ref m3, .ref m4, .ref m5, .ref m6, .ref m7, .ref m8, .ref m9, .ref m10, .int nm, .int oc, .ref m11, .int ct])), (m1, .inl (cI, 1024, .inl x)), (m2, .inl (cI, 36, .inl t_parts)), (m3, .inl (cI, 65, .inl dd)), (m4, .inl (cI, 65, .inl ss)), (m5, .inl (cI, 29, .inl cn)), (m6, .inl (cI, 261, .inl la)), (m7, .inl (cI, 261, .inl co)), (m8, .inl (cI, 261, .inl le)), (m9, .inl (cI, 261, .inl fr)), (m10, .inl (cI, 29, .inl tr)), (m11, .inl (cI, 29, .inl no))]) (vp_Si (fun r => r = (nI (t_F n)))) 0 0 (fun _ => False) := by
  refine t_ofR (by decide) rfl (Nat.le_of_ble_eq_true rfl) ?_
  intro p e s m below meth c ls hx hb hml hown hts hr hlocks hK hP hl
  have hown : s.vm.findClass RX9 = some m.cls := hown
  have hl : lv_has ls 1 [(0, .ref h)] := hl
  refine lv_aload_n hx hb dX9_manyFrames_0 rfl (lv_at hl 0 rfl) ?_
  refine va_get (D := D) (ci := 9) (v := .int (nI n)) (C := RX9) (T := TX9) (N := 22) hx hb hts (fun _ h => List.mem_cons_of_mem _ (List.mem_append_right _ h)) hown hK hP 0 rfl rfl 1 (by decide) (hts (.fieldLink RX9 62 "PitchTrackerModel" "samples" "I") (List.mem_of_getElem? (i := 1) rfl)) (fun _ h9 => h9) rfl dX9_manyFrames_1 ?_
  refine lv_sipush (v := ((nI 128) : Int32)) hx hb dX9_manyFrames_4 (by decide +kernel) ?_
  refine tv_icmp_ge (tgt := 14) hx hb dX9_manyFrames_7 (by decide) (by omega) (by omega) (fun q7_1 => ?_) (fun q7_1 => ?_)
  · refine lv_aload_n hx hb dX9_manyFrames_14 rfl (lv_at hl 0 rfl) ?_
    refine va_get (D := D) (ci := 9) (v := .int (nI n)) (C := RX9) (T := TX9) (N := 22) hx hb hts (fun _ h => List.mem_cons_of_mem _ (List.mem_append_right _ h)) hown hK hP 0 rfl rfl 1 (by decide) (hts (.fieldLink RX9 62 "PitchTrackerModel" "samples" "I") (List.mem_of_getElem? (i := 1) rfl)) (fun _ h9 => h9) rfl dX9_manyFrames_15 ?_
    refine lv_sipush (v := ((nI 128) : Int32)) hx hb dX9_manyFrames_18 (by decide +kernel) ?_
    refine tv_isub (a := n) (b := 128) hx hb dX9_manyFrames_21 (by omega) ?_
    refine lv_bipush (v := ((nI 32) : Int32)) hx hb dX9_manyFrames_22 (by decide +kernel) ?_
    refine lv_idiv hx hb dX9_manyFrames_24 (by decide) ?_
    refine tv_re (y := (nI ((n - 128) / 32))) (pk_div (by omega) (by omega) (by omega)) ?_
    refine lv_iconst (v := ((nI 1) : Int32)) hx hb dX9_manyFrames_25 (by decide +kernel) ?_
    refine tv_iadd (a := (n - 128) / 32) (b := 1) hx hb dX9_manyFrames_26 ?_
    exact W.iret (v := (nI (((n - 128) / 32) + 1))) hx hb hr (fun t ht hW => ⟨_, rfl, (by rw [t_F_hi (by omega)]), ht⟩) (fun q h => by cases h) dX9_manyFrames_27 hlocks
  · refine lv_iconst (v := ((nI 0) : Int32)) hx hb dX9_manyFrames_10 (by decide +kernel) ?_
    refine lv_goto (tgt := 27) hx hb dX9_manyFrames_11 (by decide) ?_
    exact W.iret (v := (nI 0)) hx hb hr (fun t ht hW => ⟨_, rfl, (by rw [t_F_lo (by omega)]), ht⟩) (fun q h => by cases h) dX9_manyFrames_27 hlocks

set_option maxHeartbeats 4000000 in
set_option maxRecDepth 100000 in
theorem c_X9_isFrame (l : Launch) (D : va_G) (cI cL : ClassId) (h m1 m2 m3 m4 m5 m6 m7 m8 m9 m10 m11 n tm : Nat) (thr th un ju ch ba nm oc ct : Int32) (x dd ss cn la co le fr tr no : Nat → Int32) (v : Int32) (hsn : n ≤ 1024) : Met l yX9_isFrame wsX9_isFrame ({ frames := 1, cells := 0, slots := 0, locals := 40 }) (t_rPc D cI cL [.ref h, .int v] [(h, .inr (9, [.int thr, .int (nI n), .ref m1, .int th, .int un, .int ju, .int ch, .int (nI tm), .int ba, .ref m2, .ref m3, .ref m4, .ref m5, .ref m6, .ref m7, .ref m8, .ref m9, .ref m10, .int nm, .int oc, .ref m11, .int ct])), (m1, .inl (cI, 1024, .inl x)), (m2, .inl (cI, 36, .inl t_parts)), (m3, .inl (cI, 65, .inl dd)), (m4, .inl (cI, 65, .inl ss)), (m5, .inl (cI, 29, .inl cn)), (m6, .inl (cI, 261, .inl la)), (m7, .inl (cI, 261, .inl co)), (m8, .inl (cI, 261, .inl le)), (m9, .inl (cI, 261, .inl fr)), (m10, .inl (cI, 29, .inl tr)), (m11, .inl (cI, 29, .inl no))]) (vp_Si (fun r => r = t_b (t_isF (t_F n) v))) 0 0 (fun _ => False) := by
  refine t_ofR (by decide) rfl (Nat.le_of_ble_eq_true rfl) ?_
  intro p e s m below meth c ls hx hb hml hown hts hr hlocks hK hP hl
  have hown : s.vm.findClass RX9 = some m.cls := hown
  have hl : lv_has ls 2 [(0, .ref h), (1, .int v)] := hl
  have hF := t_F_le hsn
  refine lv_iload_n hx hb dX9_isFrame_0 rfl (lv_at hl 1 rfl) ?_
  refine lv_iconst (v := ((nI 0) : Int32)) hx hb dX9_isFrame_1 (by decide +kernel) ?_
  refine lv_aload_n hx hb dX9_isFrame_2 rfl (lv_at hl 0 rfl) ?_
  have hPc := hP.sub (ws' := [(h, .inr (9, [.int thr, .int (nI n), .ref m1, .int th, .int un, .int ju, .int ch, .int (nI tm), .int ba, .ref m2, .ref m3, .ref m4, .ref m5, .ref m6, .ref m7, .ref m8, .ref m9, .ref m10, .int nm, .int oc, .ref m11, .int ct])), (m1, .inl (cI, 1024, .inl x)), (m2, .inl (cI, 36, .inl t_parts)), (m3, .inl (cI, 65, .inl dd)), (m4, .inl (cI, 65, .inl ss)), (m5, .inl (cI, 29, .inl cn)), (m6, .inl (cI, 261, .inl la)), (m7, .inl (cI, 261, .inl co)), (m8, .inl (cI, 261, .inl le)), (m9, .inl (cI, 261, .inl fr)), (m10, .inl (cI, 29, .inl tr)), (m11, .inl (cI, 29, .inl no))]) [0, 1, 2, 3, 4, 5, 6, 7, 8, 9, 10, 11] rfl
  refine vp_callSi (W.runV (As := []) (rest := [.int (nI 0), .int v]) ⟨hx, hb, hml, hown, hts⟩ (c_X9_manyFrames l D cI cL h m1 m2 m3 m4 m5 m6 m7 m8 m9 m10 m11 n tm thr th un ju ch ba nm oc ct x dd ss cn la co le fr tr no hsn) (cwV 0 hts gX9_isFrame_X9_manyFrames rfl rfl rfl (by decide +kernel) ⟨Nat.le_of_ble_eq_true rfl, Nat.le_of_ble_eq_true rfl⟩) ⟨t_rPc_blind, va_recv hK hPc (ci := 9) (q0 := 0) rfl rfl, fun U hU hW => ⟨rfl, by rw [hU]; exact hPc, va_K.moved hW.alike hK⟩⟩ rfl rfl hl.1 rfl (lv_room (Nat.le_of_ble_eq_true rfl)) dX9_isFrame_3 ⟨Nat.le_of_ble_eq_true rfl, Nat.le_of_ble_eq_true rfl⟩) (fun r_1 hr_1 => ?_)
  subst hr_1
  refine lv_iconst (v := ((nI 1) : Int32)) hx hb dX9_isFrame_6 (by decide +kernel) ?_
  refine lv_isub hx hb dX9_isFrame_7 ?_
  have hPc := hP.sub (ws' := []) [] rfl
  refine vp_callSi (W.runS (As := [.int v, .int (nI 0), .int ((nI (t_F n)) - (nI 1))]) (rest := []) ⟨hx, hb, hml, hown, hts⟩ (c_X9_in l D cI cL v ((nI 0)) (((nI (t_F n)) - (nI 1)))) (va_cwS 3 hts gX9_isFrame_X9_in rfl rfl rfl (by decide +kernel) ⟨Nat.le_of_ble_eq_true rfl, Nat.le_of_ble_eq_true rfl⟩) ⟨t_rPc_blind, fun U hU hW => ⟨rfl, by rw [hU]; exact hPc, va_K.moved hW.alike hK⟩⟩ rfl rfl hl.1 rfl (lv_room (Nat.le_of_ble_eq_true rfl)) dX9_isFrame_8 ⟨Nat.le_of_ble_eq_true rfl, Nat.le_of_ble_eq_true rfl⟩) (fun r_2 hr_2 => ?_)
  subst hr_2
  exact W.zret (v := t_b (t_inb v ((nI 0)) (((nI (t_F n)) - (nI 1))))) hx hb hr (t_b_n _) (fun t ht hW => ⟨_, rfl, (congrArg t_b (t_inb_F (by omega))), ht⟩) (fun q h => by cases h) dX9_isFrame_11 hlocks

set_option maxHeartbeats 4000000 in
set_option maxRecDepth 100000 in
theorem c_X9_energyOf (l : Launch) (D : va_G) (cI cL : ClassId) (h m1 m2 m3 m4 m5 m6 m7 m8 m9 m10 m11 n tm : Nat) (thr th un ju ch ba nm oc ct : Int32) (x dd ss cn la co le fr tr no : Nat → Int32) (j a : Nat) (hj : j * 32 + 128 ≤ 1024) (ha : a ≤ 64) : Met l yX9_energyOf wsX9_energyOf ({ frames := 0, cells := 0, slots := 0, locals := 0 }) (t_rPc D cI cL [.ref h, .int (nI j), .int (nI a)] [(h, .inr (9, [.int thr, .int (nI n), .ref m1, .int th, .int un, .int ju, .int ch, .int (nI tm), .int ba, .ref m2, .ref m3, .ref m4, .ref m5, .ref m6, .ref m7, .ref m8, .ref m9, .ref m10, .int nm, .int oc, .ref m11, .int ct])), (m1, .inl (cI, 1024, .inl x)), (m2, .inl (cI, 36, .inl t_parts)), (m3, .inl (cI, 65, .inl dd)), (m4, .inl (cI, 65, .inl ss)), (m5, .inl (cI, 29, .inl cn)), (m6, .inl (cI, 261, .inl la)), (m7, .inl (cI, 261, .inl co)), (m8, .inl (cI, 261, .inl le)), (m9, .inl (cI, 261, .inl fr)), (m10, .inl (cI, 29, .inl tr)), (m11, .inl (cI, 29, .inl no))]) (vp_Si (fun r => r = (t_ps x (j * 32 + a) 0))) 0 0 (fun _ => False) := by
  refine t_ofR (by decide) rfl (Nat.le_of_ble_eq_true rfl) ?_
  intro p e s m below meth c ls hx hb hml hown hts hr hlocks hK hP hl
  have hown : s.vm.findClass RX9 = some m.cls := hown
  have hl : lv_has ls 6 [(0, .ref h), (1, .int (nI j)), (2, .int (nI a))] := hl
  refine lv_iconst (v := ((nI 0) : Int32)) hx hb dX9_energyOf_0 (by decide +kernel) ?_
  refine lv_istore_n (lv' := [(3, .int (nI 0)), (0, .ref h), (1, .int (nI j)), (2, .int (nI a))]) hx hb dX9_energyOf_1 rfl hl (by decide) rfl (fun ls hl => ?_)
  refine lv_iconst (v := ((nI 0) : Int32)) hx hb dX9_energyOf_2 (by decide +kernel) ?_
  refine lv_istore (lv' := [(4, .int (nI 0)), (3, .int (nI 0)), (0, .ref h), (1, .int (nI j)), (2, .int (nI a))]) hx hb dX9_energyOf_3 hl (by decide) rfl (fun ls hl => ?_)
  have loop_1 : ∀ (n_3 : Nat) (i : Nat) (hm_4 : 64 - i < n_3) (hi : i ≤ 64) (ls : Array Slot) (hl : lv_has ls 6 [(4, .int (nI i)), (3, .int (t_sum (fun q => x (j * 32 + a + q) * x (j * 32 + a + q)) i)), (0, .ref h), (1, .int (nI j)), (2, .int (nI a))]), W p l e ({ frames := 0, cells := 0, slots := 0, locals := 0 }) s m ([.ref h, .int (nI j), .int (nI a)] : List Value).toArray below meth c s.heap [] 0 0 (MQ below (vp_Si (fun r => r = (t_ps x (j * 32 + a) 0))) ([.ref h, .int (nI j), .int (nI a)] : List Value).toArray s 0 0 (fun _ => False)) (F0 m 5 ls []) := by
    intro n_3
    induction n_3 with
    | zero => intro i hm_4; exact absurd hm_4 (Nat.not_lt_zero _)
    | succ n_3 ih_2 =>
      intro i hm_4 hi ls hl
      refine lv_iload hx hb dX9_energyOf_5 (lv_at hl 0 rfl) ?_
      refine lv_bipush (v := ((nI 64) : Int32)) hx hb dX9_energyOf_7 (by decide +kernel) ?_
      refine tv_icmp_ge (tgt := 42) hx hb dX9_energyOf_9 (by decide) (by omega) (by omega) (fun q9_5 => ?_) (fun q9_5 => ?_)
      · refine lv_iload_n hx hb dX9_energyOf_42 rfl (lv_at hl 1 rfl) ?_
        exact W.iret (v := (t_sum (fun q => x (j * 32 + a + q) * x (j * 32 + a + q)) i)) hx hb hr (fun t ht hW => ⟨_, rfl, (by obtain rfl : i = 64 := (by omega); rfl), ht⟩) (fun q h => by cases h) dX9_energyOf_43 hlocks
      · refine lv_aload_n hx hb dX9_energyOf_12 rfl (lv_at hl 2 rfl) ?_
        refine va_get (D := D) (ci := 9) (v := .ref m1) (C := RX9) (T := TX9) (N := 22) hx hb hts (fun _ h => List.mem_cons_of_mem _ (List.mem_append_right _ h)) hown hK hP 0 rfl rfl 2 (by decide) (hts (.fieldLink RX9 7 "PitchTrackerModel" "x" "[I") (List.mem_of_getElem? (i := 1) rfl)) (fun _ h9 => h9) rfl dX9_energyOf_13 ?_
        refine lv_bipush (v := ((nI 32) : Int32)) hx hb dX9_energyOf_16 (by decide +kernel) ?_
        refine lv_iload_n hx hb dX9_energyOf_18 rfl (lv_at hl 3 rfl) ?_
        refine tv_imul (a := 32) (b := j) hx hb dX9_energyOf_19 ?_
        refine lv_iload hx hb dX9_energyOf_20 (lv_at hl 0 rfl) ?_
        refine tv_iadd (a := 32 * j) (b := i) hx hb dX9_energyOf_22 ?_
        refine lv_iload_n hx hb dX9_energyOf_23 rfl (lv_at hl 4 rfl) ?_
        refine tv_iadd (a := (32 * j) + i) (b := a) hx hb dX9_energyOf_24 ?_
        refine tv_iald hx hb hK hP 1 0 rfl rfl (by omega) (by omega) dX9_energyOf_25 ?_
        refine tv_re (y := (x (j * 32 + a + i))) (congrArg x (by omega)) ?_
        refine lv_istore (lv' := [(5, .int (x (j * 32 + a + i))), (4, .int (nI i)), (3, .int (t_sum (fun q => x (j * 32 + a + q) * x (j * 32 + a + q)) i)), (0, .ref h), (1, .int (nI j)), (2, .int (nI a))]) hx hb dX9_energyOf_26 hl (by decide) rfl (fun ls hl => ?_)
        refine lv_iload_n hx hb dX9_energyOf_28 rfl (lv_at hl 2 rfl) ?_
        refine lv_iload hx hb dX9_energyOf_29 (lv_at hl 0 rfl) ?_
        refine lv_iload hx hb dX9_energyOf_31 (lv_at hl 0 rfl) ?_
        refine lv_imul hx hb dX9_energyOf_33 ?_
        refine lv_iadd hx hb dX9_energyOf_34 ?_
        refine lv_istore_n (lv' := [(3, .int ((t_sum (fun q => x (j * 32 + a + q) * x (j * 32 + a + q)) i) + ((x (j * 32 + a + i)) * (x (j * 32 + a + i))))), (5, .int (x (j * 32 + a + i))), (4, .int (nI i)), (0, .ref h), (1, .int (nI j)), (2, .int (nI a))]) hx hb dX9_energyOf_35 rfl hl (by decide) rfl (fun ls hl => ?_)
        refine lv_iinc (v := (nI (i + 1))) (lv' := [(4, .int (nI (i + 1))), (3, .int ((t_sum (fun q => x (j * 32 + a + q) * x (j * 32 + a + q)) i) + ((x (j * 32 + a + i)) * (x (j * 32 + a + i))))), (5, .int (x (j * 32 + a + i))), (0, .ref h), (1, .int (nI j)), (2, .int (nI a))]) hx hb dX9_energyOf_36 hl (k := 2) rfl (nI_add i 1) (by decide) rfl (fun ls hl => ?_)
        refine lv_goto (tgt := 5) hx hb dX9_energyOf_39 (by decide) ?_
        exact ih_2 (i + 1) (by omega) (by omega) _ (lv_sub hl [0, 1, 3, 4, 5] rfl)
  exact loop_1 (64 - 0 + 1) 0 (Nat.lt_succ_self _) (Nat.zero_le _) _ (lv_sub hl [0, 1, 2, 3, 4] rfl)

set_option maxHeartbeats 4000000 in
set_option maxRecDepth 100000 in
theorem c_X9_correlation (l : Launch) (D : va_G) (cI cL : ClassId) (h m1 m2 m3 m4 m5 m6 m7 m8 m9 m10 m11 n tm : Nat) (thr th un ju ch ba nm oc ct : Int32) (x dd ss cn la co le fr tr no : Nat → Int32) (j a : Nat) (hj : j * 32 + 128 ≤ 1024) (ha : a ≤ 64) : Met l yX9_correlation wsX9_correlation ({ frames := 0, cells := 0, slots := 0, locals := 0 }) (t_rPc D cI cL [.ref h, .int (nI j), .int (nI a)] [(h, .inr (9, [.int thr, .int (nI n), .ref m1, .int th, .int un, .int ju, .int ch, .int (nI tm), .int ba, .ref m2, .ref m3, .ref m4, .ref m5, .ref m6, .ref m7, .ref m8, .ref m9, .ref m10, .int nm, .int oc, .ref m11, .int ct])), (m1, .inl (cI, 1024, .inl x)), (m2, .inl (cI, 36, .inl t_parts)), (m3, .inl (cI, 65, .inl dd)), (m4, .inl (cI, 65, .inl ss)), (m5, .inl (cI, 29, .inl cn)), (m6, .inl (cI, 261, .inl la)), (m7, .inl (cI, 261, .inl co)), (m8, .inl (cI, 261, .inl le)), (m9, .inl (cI, 261, .inl fr)), (m10, .inl (cI, 29, .inl tr)), (m11, .inl (cI, 29, .inl no))]) (vp_Si (fun r => r = (t_ps x (j * 32) a))) 0 0 (fun _ => False) := by
  refine t_ofR (by decide) rfl (Nat.le_of_ble_eq_true rfl) ?_
  intro p e s m below meth c ls hx hb hml hown hts hr hlocks hK hP hl
  have hown : s.vm.findClass RX9 = some m.cls := hown
  have hl : lv_has ls 5 [(0, .ref h), (1, .int (nI j)), (2, .int (nI a))] := hl
  refine lv_iconst (v := ((nI 0) : Int32)) hx hb dX9_correlation_0 (by decide +kernel) ?_
  refine lv_istore_n (lv' := [(3, .int (nI 0)), (0, .ref h), (1, .int (nI j)), (2, .int (nI a))]) hx hb dX9_correlation_1 rfl hl (by decide) rfl (fun ls hl => ?_)
  refine lv_iconst (v := ((nI 0) : Int32)) hx hb dX9_correlation_2 (by decide +kernel) ?_
  refine lv_istore (lv' := [(4, .int (nI 0)), (3, .int (nI 0)), (0, .ref h), (1, .int (nI j)), (2, .int (nI a))]) hx hb dX9_correlation_3 hl (by decide) rfl (fun ls hl => ?_)
  have loop_1 : ∀ (n_3 : Nat) (i : Nat) (hm_4 : 64 - i < n_3) (hi : i ≤ 64) (ls : Array Slot) (hl : lv_has ls 5 [(4, .int (nI i)), (3, .int (t_sum (fun q => x (j * 32 + q) * x (j * 32 + q + a)) i)), (0, .ref h), (1, .int (nI j)), (2, .int (nI a))]), W p l e ({ frames := 0, cells := 0, slots := 0, locals := 0 }) s m ([.ref h, .int (nI j), .int (nI a)] : List Value).toArray below meth c s.heap [] 0 0 (MQ below (vp_Si (fun r => r = (t_ps x (j * 32) a))) ([.ref h, .int (nI j), .int (nI a)] : List Value).toArray s 0 0 (fun _ => False)) (F0 m 5 ls []) := by
    intro n_3
    induction n_3 with
    | zero => intro i hm_4; exact absurd hm_4 (Nat.not_lt_zero _)
    | succ n_3 ih_2 =>
      intro i hm_4 hi ls hl
      refine lv_iload hx hb dX9_correlation_5 (lv_at hl 0 rfl) ?_
      refine lv_bipush (v := ((nI 64) : Int32)) hx hb dX9_correlation_7 (by decide +kernel) ?_
      refine tv_icmp_ge (tgt := 48) hx hb dX9_correlation_9 (by decide) (by omega) (by omega) (fun q9_5 => ?_) (fun q9_5 => ?_)
      · refine lv_iload_n hx hb dX9_correlation_48 rfl (lv_at hl 1 rfl) ?_
        exact W.iret (v := (t_sum (fun q => x (j * 32 + q) * x (j * 32 + q + a)) i)) hx hb hr (fun t ht hW => ⟨_, rfl, (by obtain rfl : i = 64 := (by omega); rfl), ht⟩) (fun q h => by cases h) dX9_correlation_49 hlocks
      · refine lv_iload_n hx hb dX9_correlation_12 rfl (lv_at hl 1 rfl) ?_
        refine lv_aload_n hx hb dX9_correlation_13 rfl (lv_at hl 2 rfl) ?_
        refine va_get (D := D) (ci := 9) (v := .ref m1) (C := RX9) (T := TX9) (N := 22) hx hb hts (fun _ h => List.mem_cons_of_mem _ (List.mem_append_right _ h)) hown hK hP 0 rfl rfl 2 (by decide) (hts (.fieldLink RX9 7 "PitchTrackerModel" "x" "[I") (List.mem_of_getElem? (i := 1) rfl)) (fun _ h9 => h9) rfl dX9_correlation_14 ?_
        refine lv_bipush (v := ((nI 32) : Int32)) hx hb dX9_correlation_17 (by decide +kernel) ?_
        refine lv_iload_n hx hb dX9_correlation_19 rfl (lv_at hl 3 rfl) ?_
        refine tv_imul (a := 32) (b := j) hx hb dX9_correlation_20 ?_
        refine lv_iload hx hb dX9_correlation_21 (lv_at hl 0 rfl) ?_
        refine tv_iadd (a := 32 * j) (b := i) hx hb dX9_correlation_23 ?_
        refine tv_iald hx hb hK hP 1 0 rfl rfl (by omega) (by omega) dX9_correlation_24 ?_
        refine tv_re (y := (x (j * 32 + i))) (congrArg x (by omega)) ?_
        refine lv_aload_n hx hb dX9_correlation_25 rfl (lv_at hl 2 rfl) ?_
        refine va_get (D := D) (ci := 9) (v := .ref m1) (C := RX9) (T := TX9) (N := 22) hx hb hts (fun _ h => List.mem_cons_of_mem _ (List.mem_append_right _ h)) hown hK hP 0 rfl rfl 2 (by decide) (hts (.fieldLink RX9 7 "PitchTrackerModel" "x" "[I") (List.mem_of_getElem? (i := 1) rfl)) (fun _ h9 => h9) rfl dX9_correlation_26 ?_
        refine lv_bipush (v := ((nI 32) : Int32)) hx hb dX9_correlation_29 (by decide +kernel) ?_
        refine lv_iload_n hx hb dX9_correlation_31 rfl (lv_at hl 3 rfl) ?_
        refine tv_imul (a := 32) (b := j) hx hb dX9_correlation_32 ?_
        refine lv_iload hx hb dX9_correlation_33 (lv_at hl 0 rfl) ?_
        refine tv_iadd (a := 32 * j) (b := i) hx hb dX9_correlation_35 ?_
        refine lv_iload_n hx hb dX9_correlation_36 rfl (lv_at hl 4 rfl) ?_
        refine tv_iadd (a := (32 * j) + i) (b := a) hx hb dX9_correlation_37 ?_
        refine tv_iald hx hb hK hP 1 0 rfl rfl (by omega) (by omega) dX9_correlation_38 ?_
        refine tv_re (y := (x (j * 32 + i + a))) (congrArg x (by omega)) ?_
        refine lv_imul hx hb dX9_correlation_39 ?_
        refine lv_iadd hx hb dX9_correlation_40 ?_
        refine lv_istore_n (lv' := [(3, .int ((t_sum (fun q => x (j * 32 + q) * x (j * 32 + q + a)) i) + ((x (j * 32 + i)) * (x (j * 32 + i + a))))), (4, .int (nI i)), (0, .ref h), (1, .int (nI j)), (2, .int (nI a))]) hx hb dX9_correlation_41 rfl hl (by decide) rfl (fun ls hl => ?_)
        refine lv_iinc (v := (nI (i + 1))) (lv' := [(4, .int (nI (i + 1))), (3, .int ((t_sum (fun q => x (j * 32 + q) * x (j * 32 + q + a)) i) + ((x (j * 32 + i)) * (x (j * 32 + i + a))))), (0, .ref h), (1, .int (nI j)), (2, .int (nI a))]) hx hb dX9_correlation_42 hl (k := 1) rfl (nI_add i 1) (by decide) rfl (fun ls hl => ?_)
        refine lv_goto (tgt := 5) hx hb dX9_correlation_45 (by decide) ?_
        exact ih_2 (i + 1) (by omega) (by omega) _ (lv_sub hl [0, 1, 2, 3, 4] rfl)
  exact loop_1 (64 - 0 + 1) 0 (Nat.lt_succ_self _) (Nat.zero_le _) _ (lv_sub hl [0, 1, 2, 3, 4] rfl)

set_option maxHeartbeats 4000000 in
set_option maxRecDepth 100000 in
theorem c_X9_differenceOf (l : Launch) (D : va_G) (cI cL : ClassId) (h m1 m2 m3 m4 m5 m6 m7 m8 m9 m10 m11 n tm : Nat) (thr th un ju ch ba nm oc ct : Int32) (x dd ss cn la co le fr tr no : Nat → Int32) (j a : Nat) (hj : j * 32 + 128 ≤ 1024) (ha : a ≤ 64) : Met l yX9_differenceOf wsX9_differenceOf ({ frames := 0, cells := 0, slots := 0, locals := 0 }) (t_rPc D cI cL [.ref h, .int (nI j), .int (nI a)] [(h, .inr (9, [.int thr, .int (nI n), .ref m1, .int th, .int un, .int ju, .int ch, .int (nI tm), .int ba, .ref m2, .ref m3, .ref m4, .ref m5, .ref m6, .ref m7, .ref m8, .ref m9, .ref m10, .int nm, .int oc, .ref m11, .int ct])), (m1, .inl (cI, 1024, .inl x)), (m2, .inl (cI, 36, .inl t_parts)), (m3, .inl (cI, 65, .inl dd)), (m4, .inl (cI, 65, .inl ss)), (m5, .inl (cI, 29, .inl cn)), (m6, .inl (cI, 261, .inl la)), (m7, .inl (cI, 261, .inl co)), (m8, .inl (cI, 261, .inl le)), (m9, .inl (cI, 261, .inl fr)), (m10, .inl (cI, 29, .inl tr)), (m11, .inl (cI, 29, .inl no))]) (vp_Si (fun r => r = (t_df x j a))) 0 0 (fun _ => False) := by
  refine t_ofR (by decide) rfl (Nat.le_of_ble_eq_true rfl) ?_
  intro p e s m below meth c ls hx hb hml hown hts hr hlocks hK hP hl
  have hown : s.vm.findClass RX9 = some m.cls := hown
  have hl : lv_has ls 6 [(0, .ref h), (1, .int (nI j)), (2, .int (nI a))] := hl
  refine lv_iconst (v := ((nI 0) : Int32)) hx hb dX9_differenceOf_0 (by decide +kernel) ?_
  refine lv_istore_n (lv' := [(3, .int (nI 0)), (0, .ref h), (1, .int (nI j)), (2, .int (nI a))]) hx hb dX9_differenceOf_1 rfl hl (by decide) rfl (fun ls hl => ?_)
  refine lv_iconst (v := ((nI 0) : Int32)) hx hb dX9_differenceOf_2 (by decide +kernel) ?_
  refine lv_istore (lv' := [(4, .int (nI 0)), (3, .int (nI 0)), (0, .ref h), (1, .int (nI j)), (2, .int (nI a))]) hx hb dX9_differenceOf_3 hl (by decide) rfl (fun ls hl => ?_)
  have loop_1 : ∀ (n_3 : Nat) (i : Nat) (hm_4 : 64 - i < n_3) (hi : i ≤ 64) (ls : Array Slot) (hl : lv_has ls 6 [(4, .int (nI i)), (3, .int (t_sum (fun q => (x (j * 32 + q) - x (j * 32 + q + a)) * (x (j * 32 + q) - x (j * 32 + q + a))) i)), (0, .ref h), (1, .int (nI j)), (2, .int (nI a))]), W p l e ({ frames := 0, cells := 0, slots := 0, locals := 0 }) s m ([.ref h, .int (nI j), .int (nI a)] : List Value).toArray below meth c s.heap [] 0 0 (MQ below (vp_Si (fun r => r = (t_df x j a))) ([.ref h, .int (nI j), .int (nI a)] : List Value).toArray s 0 0 (fun _ => False)) (F0 m 5 ls []) := by
    intro n_3
    induction n_3 with
    | zero => intro i hm_4; exact absurd hm_4 (Nat.not_lt_zero _)
    | succ n_3 ih_2 =>
      intro i hm_4 hi ls hl
      refine lv_iload hx hb dX9_differenceOf_5 (lv_at hl 0 rfl) ?_
      refine lv_bipush (v := ((nI 64) : Int32)) hx hb dX9_differenceOf_7 (by decide +kernel) ?_
      refine tv_icmp_ge (tgt := 55) hx hb dX9_differenceOf_9 (by decide) (by omega) (by omega) (fun q9_5 => ?_) (fun q9_5 => ?_)
      · refine lv_iload_n hx hb dX9_differenceOf_55 rfl (lv_at hl 1 rfl) ?_
        exact W.iret (v := (t_sum (fun q => (x (j * 32 + q) - x (j * 32 + q + a)) * (x (j * 32 + q) - x (j * 32 + q + a))) i)) hx hb hr (fun t ht hW => ⟨_, rfl, (by obtain rfl : i = 64 := (by omega); rfl), ht⟩) (fun q h => by cases h) dX9_differenceOf_56 hlocks
      · refine lv_aload_n hx hb dX9_differenceOf_12 rfl (lv_at hl 2 rfl) ?_
        refine va_get (D := D) (ci := 9) (v := .ref m1) (C := RX9) (T := TX9) (N := 22) hx hb hts (fun _ h => List.mem_cons_of_mem _ (List.mem_append_right _ h)) hown hK hP 0 rfl rfl 2 (by decide) (hts (.fieldLink RX9 7 "PitchTrackerModel" "x" "[I") (List.mem_of_getElem? (i := 1) rfl)) (fun _ h9 => h9) rfl dX9_differenceOf_13 ?_
        refine lv_bipush (v := ((nI 32) : Int32)) hx hb dX9_differenceOf_16 (by decide +kernel) ?_
        refine lv_iload_n hx hb dX9_differenceOf_18 rfl (lv_at hl 3 rfl) ?_
        refine tv_imul (a := 32) (b := j) hx hb dX9_differenceOf_19 ?_
        refine lv_iload hx hb dX9_differenceOf_20 (lv_at hl 0 rfl) ?_
        refine tv_iadd (a := 32 * j) (b := i) hx hb dX9_differenceOf_22 ?_
        refine tv_iald hx hb hK hP 1 0 rfl rfl (by omega) (by omega) dX9_differenceOf_23 ?_
        refine tv_re (y := (x (j * 32 + i))) (congrArg x (by omega)) ?_
        refine lv_aload_n hx hb dX9_differenceOf_24 rfl (lv_at hl 2 rfl) ?_
        refine va_get (D := D) (ci := 9) (v := .ref m1) (C := RX9) (T := TX9) (N := 22) hx hb hts (fun _ h => List.mem_cons_of_mem _ (List.mem_append_right _ h)) hown hK hP 0 rfl rfl 2 (by decide) (hts (.fieldLink RX9 7 "PitchTrackerModel" "x" "[I") (List.mem_of_getElem? (i := 1) rfl)) (fun _ h9 => h9) rfl dX9_differenceOf_25 ?_
        refine lv_bipush (v := ((nI 32) : Int32)) hx hb dX9_differenceOf_28 (by decide +kernel) ?_
        refine lv_iload_n hx hb dX9_differenceOf_30 rfl (lv_at hl 3 rfl) ?_
        refine tv_imul (a := 32) (b := j) hx hb dX9_differenceOf_31 ?_
        refine lv_iload hx hb dX9_differenceOf_32 (lv_at hl 0 rfl) ?_
        refine tv_iadd (a := 32 * j) (b := i) hx hb dX9_differenceOf_34 ?_
        refine lv_iload_n hx hb dX9_differenceOf_35 rfl (lv_at hl 4 rfl) ?_
        refine tv_iadd (a := (32 * j) + i) (b := a) hx hb dX9_differenceOf_36 ?_
        refine tv_iald hx hb hK hP 1 0 rfl rfl (by omega) (by omega) dX9_differenceOf_37 ?_
        refine tv_re (y := (x (j * 32 + i + a))) (congrArg x (by omega)) ?_
        refine lv_isub hx hb dX9_differenceOf_38 ?_
        refine lv_istore (lv' := [(5, .int ((x (j * 32 + i)) - (x (j * 32 + i + a)))), (4, .int (nI i)), (3, .int (t_sum (fun q => (x (j * 32 + q) - x (j * 32 + q + a)) * (x (j * 32 + q) - x (j * 32 + q + a))) i)), (0, .ref h), (1, .int (nI j)), (2, .int (nI a))]) hx hb dX9_differenceOf_39 hl (by decide) rfl (fun ls hl => ?_)
        refine lv_iload_n hx hb dX9_differenceOf_41 rfl (lv_at hl 2 rfl) ?_
        refine lv_iload hx hb dX9_differenceOf_42 (lv_at hl 0 rfl) ?_
        refine lv_iload hx hb dX9_differenceOf_44 (lv_at hl 0 rfl) ?_
        refine lv_imul hx hb dX9_differenceOf_46 ?_
        refine lv_iadd hx hb dX9_differenceOf_47 ?_
        refine lv_istore_n (lv' := [(3, .int ((t_sum (fun q => (x (j * 32 + q) - x (j * 32 + q + a)) * (x (j * 32 + q) - x (j * 32 + q + a))) i) + (((x (j * 32 + i)) - (x (j * 32 + i + a))) * ((x (j * 32 + i)) - (x (j * 32 + i + a)))))), (5, .int ((x (j * 32 + i)) - (x (j * 32 + i + a)))), (4, .int (nI i)), (0, .ref h), (1, .int (nI j)), (2, .int (nI a))]) hx hb dX9_differenceOf_48 rfl hl (by decide) rfl (fun ls hl => ?_)
        refine lv_iinc (v := (nI (i + 1))) (lv' := [(4, .int (nI (i + 1))), (3, .int ((t_sum (fun q => (x (j * 32 + q) - x (j * 32 + q + a)) * (x (j * 32 + q) - x (j * 32 + q + a))) i) + (((x (j * 32 + i)) - (x (j * 32 + i + a))) * ((x (j * 32 + i)) - (x (j * 32 + i + a)))))), (5, .int ((x (j * 32 + i)) - (x (j * 32 + i + a)))), (0, .ref h), (1, .int (nI j)), (2, .int (nI a))]) hx hb dX9_differenceOf_49 hl (k := 2) rfl (nI_add i 1) (by decide) rfl (fun ls hl => ?_)
        refine lv_goto (tgt := 5) hx hb dX9_differenceOf_52 (by decide) ?_
        exact ih_2 (i + 1) (by omega) (by omega) _ (lv_sub hl [0, 1, 3, 4, 5] rfl)
  exact loop_1 (64 - 0 + 1) 0 (Nat.lt_succ_self _) (Nat.zero_le _) _ (lv_sub hl [0, 1, 2, 3, 4] rfl)

set_option maxHeartbeats 4000000 in
set_option maxRecDepth 100000 in
theorem c_X9_lays (l : Launch) (D : va_G) (cI cL : ClassId) (h m1 m2 m3 m4 m5 m6 m7 m8 m9 m10 m11 n tm : Nat) (thr th un ju ch ba nm oc ct : Int32) (x dd ss cn la co le fr tr no : Nat → Int32) (j : Nat) (hj : j * 32 + 128 ≤ 1024) (sz : Nat) : Met l yX9_lays wsX9_lays ({ frames := 1, cells := 0, slots := 0, locals := 40 }) (t_wPc D cI cL [.ref h, .int (nI j)] [(h, .inr (9, [.int thr, .int (nI n), .ref m1, .int th, .int un, .int ju, .int ch, .int (nI tm), .int ba, .ref m2, .ref m3, .ref m4, .ref m5, .ref m6, .ref m7, .ref m8, .ref m9, .ref m10, .int nm, .int oc, .ref m11, .int ct])), (m1, .inl (cI, 1024, .inl x)), (m2, .inl (cI, 36, .inl t_parts)), (m3, .inl (cI, 65, .inl dd)), (m4, .inl (cI, 65, .inl ss)), (m5, .inl (cI, 29, .inl cn)), (m6, .inl (cI, 261, .inl la)), (m7, .inl (cI, 261, .inl co)), (m8, .inl (cI, 261, .inl le)), (m9, .inl (cI, 261, .inl fr)), (m10, .inl (cI, 29, .inl tr)), (m11, .inl (cI, 29, .inl no))] sz) (t_Qv D cI cL (fun w1 => ∃ d2 : Nat → Int32, ∃ s2 : Nat → Int32, w1 = [(h, .inr (9, [.int thr, .int (nI n), .ref m1, .int th, .int un, .int ju, .int ch, .int (nI tm), .int ba, .ref m2, .ref m3, .ref m4, .ref m5, .ref m6, .ref m7, .ref m8, .ref m9, .ref m10, .int nm, .int oc, .ref m11, .int ct])), (m1, .inl (cI, 1024, .inl x)), (m2, .inl (cI, 36, .inl t_parts)), (m3, .inl (cI, 65, .inl d2)), (m4, .inl (cI, 65, .inl s2)), (m5, .inl (cI, 29, .inl cn)), (m6, .inl (cI, 261, .inl la)), (m7, .inl (cI, 261, .inl co)), (m8, .inl (cI, 261, .inl le)), (m9, .inl (cI, 261, .inl fr)), (m10, .inl (cI, 29, .inl tr)), (m11, .inl (cI, 29, .inl no))] ∧ t_mlay x j 64 d2 s2) (va_A [(h, .inr (9, [.int thr, .int (nI n), .ref m1, .int th, .int un, .int ju, .int ch, .int (nI tm), .int ba, .ref m2, .ref m3, .ref m4, .ref m5, .ref m6, .ref m7, .ref m8, .ref m9, .ref m10, .int nm, .int oc, .ref m11, .int ct])), (m1, .inl (cI, 1024, .inl x)), (m2, .inl (cI, 36, .inl t_parts)), (m3, .inl (cI, 65, .inl dd)), (m4, .inl (cI, 65, .inl ss)), (m5, .inl (cI, 29, .inl cn)), (m6, .inl (cI, 261, .inl la)), (m7, .inl (cI, 261, .inl co)), (m8, .inl (cI, 261, .inl le)), (m9, .inl (cI, 261, .inl fr)), (m10, .inl (cI, 29, .inl tr)), (m11, .inl (cI, 29, .inl no))] sz)) 0 0 (va_A [(h, .inr (9, [.int thr, .int (nI n), .ref m1, .int th, .int un, .int ju, .int ch, .int (nI tm), .int ba, .ref m2, .ref m3, .ref m4, .ref m5, .ref m6, .ref m7, .ref m8, .ref m9, .ref m10, .int nm, .int oc, .ref m11, .int ct])), (m1, .inl (cI, 1024, .inl x)), (m2, .inl (cI, 36, .inl t_parts)), (m3, .inl (cI, 65, .inl dd)), (m4, .inl (cI, 65, .inl ss)), (m5, .inl (cI, 29, .inl cn)), (m6, .inl (cI, 261, .inl la)), (m7, .inl (cI, 261, .inl co)), (m8, .inl (cI, 261, .inl le)), (m9, .inl (cI, 261, .inl fr)), (m10, .inl (cI, 29, .inl tr)), (m11, .inl (cI, 29, .inl no))] sz) := by
  refine t_ofW (Qc := t_Qv D cI cL (fun w1 => ∃ d2 : Nat → Int32, ∃ s2 : Nat → Int32, w1 = [(h, .inr (9, [.int thr, .int (nI n), .ref m1, .int th, .int un, .int ju, .int ch, .int (nI tm), .int ba, .ref m2, .ref m3, .ref m4, .ref m5, .ref m6, .ref m7, .ref m8, .ref m9, .ref m10, .int nm, .int oc, .ref m11, .int ct])), (m1, .inl (cI, 1024, .inl x)), (m2, .inl (cI, 36, .inl t_parts)), (m3, .inl (cI, 65, .inl d2)), (m4, .inl (cI, 65, .inl s2)), (m5, .inl (cI, 29, .inl cn)), (m6, .inl (cI, 261, .inl la)), (m7, .inl (cI, 261, .inl co)), (m8, .inl (cI, 261, .inl le)), (m9, .inl (cI, 261, .inl fr)), (m10, .inl (cI, 29, .inl tr)), (m11, .inl (cI, 29, .inl no))] ∧ t_mlay x j 64 d2 s2)) (by decide) rfl (Nat.le_of_ble_eq_true rfl) ?_
  intro p e s m below meth c ls A hx hb hml hown hts hr hlocks hin hK hP hD hS hA hl
  have hown : s.vm.findClass RX9 = some m.cls := hown
  have hl : lv_has ls 3 [(0, .ref h), (1, .int (nI j))] := hl
  refine lv_aload_n hx hb dX9_lays_0 rfl (lv_at hl 0 rfl) ?_
  refine va_get (D := D) (ci := 9) (v := .ref m4) (C := RX9) (T := TX9) (N := 22) hx hb hts (fun _ h => List.mem_cons_of_mem _ (List.mem_append_right _ h)) hown hK hP 0 rfl rfl 11 (by decide) (hts (.fieldLink RX9 35 "PitchTrackerModel" "sum" "[I") (List.mem_of_getElem? (i := 1) rfl)) (fun _ h9 => h9) rfl dX9_lays_1 ?_
  refine lv_iconst (v := ((nI 0) : Int32)) hx hb dX9_lays_4 (by decide +kernel) ?_
  refine lv_iconst (v := ((nI 0) : Int32)) hx hb dX9_lays_5 (by decide +kernel) ?_
  refine tv_iast hx hb hK hP hD hS 4 0 rfl rfl (by omega) (by omega) dX9_lays_6 (fun H locs hP hD hS => ?_)
  have hP : va_P D vwCl [(h, .inr (9, [.int thr, .int (nI n), .ref m1, .int th, .int un, .int ju, .int ch, .int (nI tm), .int ba, .ref m2, .ref m3, .ref m4, .ref m5, .ref m6, .ref m7, .ref m8, .ref m9, .ref m10, .int nm, .int oc, .ref m11, .int ct])), (m1, .inl (cI, 1024, .inl x)), (m2, .inl (cI, 36, .inl t_parts)), (m3, .inl (cI, 65, .inl dd)), (m4, .inl (cI, 65, .inl (upd ss 0 (nI 0)))), (m5, .inl (cI, 29, .inl cn)), (m6, .inl (cI, 261, .inl la)), (m7, .inl (cI, 261, .inl co)), (m8, .inl (cI, 261, .inl le)), (m9, .inl (cI, 261, .inl fr)), (m10, .inl (cI, 29, .inl tr)), (m11, .inl (cI, 29, .inl no))] H := hP
  have hD : va_D A [(h, .inr (9, [.int thr, .int (nI n), .ref m1, .int th, .int un, .int ju, .int ch, .int (nI tm), .int ba, .ref m2, .ref m3, .ref m4, .ref m5, .ref m6, .ref m7, .ref m8, .ref m9, .ref m10, .int nm, .int oc, .ref m11, .int ct])), (m1, .inl (cI, 1024, .inl x)), (m2, .inl (cI, 36, .inl t_parts)), (m3, .inl (cI, 65, .inl dd)), (m4, .inl (cI, 65, .inl (upd ss 0 (nI 0)))), (m5, .inl (cI, 29, .inl cn)), (m6, .inl (cI, 261, .inl la)), (m7, .inl (cI, 261, .inl co)), (m8, .inl (cI, 261, .inl le)), (m9, .inl (cI, 261, .inl fr)), (m10, .inl (cI, 29, .inl tr)), (m11, .inl (cI, 29, .inl no))] := hD
  refine lv_iconst (v := ((nI 1) : Int32)) hx hb dX9_lays_7 (by decide +kernel) ?_
  refine lv_istore_n (lv' := [(2, .int (nI 1)), (0, .ref h), (1, .int (nI j))]) hx hb dX9_lays_8 rfl hl (by decide) rfl (fun ls hl => ?_)
  have loop_1 : ∀ (n_3 : Nat) (i : Nat) (d1 : Nat → Int32) (s1 : Nat → Int32) (hm_4 : 64 - i < n_3) (hi : i ≤ 64) (hv : t_mlay x j i d1 s1) (H : Heap) (locs : List Loc) (hP : va_P D vwCl [(h, .inr (9, [.int thr, .int (nI n), .ref m1, .int th, .int un, .int ju, .int ch, .int (nI tm), .int ba, .ref m2, .ref m3, .ref m4, .ref m5, .ref m6, .ref m7, .ref m8, .ref m9, .ref m10, .int nm, .int oc, .ref m11, .int ct])), (m1, .inl (cI, 1024, .inl x)), (m2, .inl (cI, 36, .inl t_parts)), (m3, .inl (cI, 65, .inl d1)), (m4, .inl (cI, 65, .inl s1)), (m5, .inl (cI, 29, .inl cn)), (m6, .inl (cI, 261, .inl la)), (m7, .inl (cI, 261, .inl co)), (m8, .inl (cI, 261, .inl le)), (m9, .inl (cI, 261, .inl fr)), (m10, .inl (cI, 29, .inl tr)), (m11, .inl (cI, 29, .inl no))] H) (hD : va_D A [(h, .inr (9, [.int thr, .int (nI n), .ref m1, .int th, .int un, .int ju, .int ch, .int (nI tm), .int ba, .ref m2, .ref m3, .ref m4, .ref m5, .ref m6, .ref m7, .ref m8, .ref m9, .ref m10, .int nm, .int oc, .ref m11, .int ct])), (m1, .inl (cI, 1024, .inl x)), (m2, .inl (cI, 36, .inl t_parts)), (m3, .inl (cI, 65, .inl d1)), (m4, .inl (cI, 65, .inl s1)), (m5, .inl (cI, 29, .inl cn)), (m6, .inl (cI, 261, .inl la)), (m7, .inl (cI, 261, .inl co)), (m8, .inl (cI, 261, .inl le)), (m9, .inl (cI, 261, .inl fr)), (m10, .inl (cI, 29, .inl tr)), (m11, .inl (cI, 29, .inl no))]) (hS : va_S A s.heap H locs) (ls : Array Slot) (hl : lv_has ls 3 [(2, .int (nI (i + 1))), (0, .ref h), (1, .int (nI j))]), W p l e ({ frames := 1, cells := 0, slots := 0, locals := 40 }) s m ([.ref h, .int (nI j)] : List Value).toArray below meth c H locs 0 0 (MQ below (t_Qv D cI cL (fun w1 => ∃ d2 : Nat → Int32, ∃ s2 : Nat → Int32, w1 = [(h, .inr (9, [.int thr, .int (nI n), .ref m1, .int th, .int un, .int ju, .int ch, .int (nI tm), .int ba, .ref m2, .ref m3, .ref m4, .ref m5, .ref m6, .ref m7, .ref m8, .ref m9, .ref m10, .int nm, .int oc, .ref m11, .int ct])), (m1, .inl (cI, 1024, .inl x)), (m2, .inl (cI, 36, .inl t_parts)), (m3, .inl (cI, 65, .inl d2)), (m4, .inl (cI, 65, .inl s2)), (m5, .inl (cI, 29, .inl cn)), (m6, .inl (cI, 261, .inl la)), (m7, .inl (cI, 261, .inl co)), (m8, .inl (cI, 261, .inl le)), (m9, .inl (cI, 261, .inl fr)), (m10, .inl (cI, 29, .inl tr)), (m11, .inl (cI, 29, .inl no))] ∧ t_mlay x j 64 d2 s2) A) ([.ref h, .int (nI j)] : List Value).toArray s 0 0 A) (F0 m 9 ls []) := by
    intro n_3
    induction n_3 with
    | zero => intro i d1 s1 hm_4; exact absurd hm_4 (Nat.not_lt_zero _)
    | succ n_3 ih_2 =>
      intro i d1 s1 hm_4 hi hv H locs hP hD hS ls hl
      refine lv_iload_n hx hb dX9_lays_9 rfl (lv_at hl 0 rfl) ?_
      refine lv_bipush (v := ((nI 64) : Int32)) hx hb dX9_lays_10 (by decide +kernel) ?_
      refine tv_icmp_gt (tgt := 54) hx hb dX9_lays_12 (by decide) (by omega) (by omega) (fun q12_5 => ?_) (fun q12_5 => ?_)
      · have hP9 := hP
        have hD9 := hD
        exact W.vret hx hb hr (fun t ht hW => ⟨⟨[(h, .inr (9, [.int thr, .int (nI n), .ref m1, .int th, .int un, .int ju, .int ch, .int (nI tm), .int ba, .ref m2, .ref m3, .ref m4, .ref m5, .ref m6, .ref m7, .ref m8, .ref m9, .ref m10, .int nm, .int oc, .ref m11, .int ct])), (m1, .inl (cI, 1024, .inl x)), (m2, .inl (cI, 36, .inl t_parts)), (m3, .inl (cI, 65, .inl d1)), (m4, .inl (cI, 65, .inl s1)), (m5, .inl (cI, 29, .inl cn)), (m6, .inl (cI, 261, .inl la)), (m7, .inl (cI, 261, .inl co)), (m8, .inl (cI, 261, .inl le)), (m9, .inl (cI, 261, .inl fr)), (m10, .inl (cI, 29, .inl tr)), (m11, .inl (cI, 29, .inl no))], rfl, ⟨d1, s1, rfl, (by obtain rfl : i = 64 := (by omega); exact hv)⟩, ⟨by rw [ht]; exact hP9, va_K.moved hW.alike hK, hD9⟩⟩, hS.F ht⟩) hS.2.2 dX9_lays_54 hlocks
      · refine lv_aload_n hx hb dX9_lays_15 rfl (lv_at hl 1 rfl) ?_
        refine va_get (D := D) (ci := 9) (v := .ref m3) (C := RX9) (T := TX9) (N := 22) hx hb hts (fun _ h => List.mem_cons_of_mem _ (List.mem_append_right _ h)) hown hK hP 0 rfl rfl 10 (by decide) (hts (.fieldLink RX9 32 "PitchTrackerModel" "difference" "[I") (List.mem_of_getElem? (i := 2) rfl)) (fun _ h9 => h9) rfl dX9_lays_16 ?_
        refine lv_iload_n hx hb dX9_lays_19 rfl (lv_at hl 0 rfl) ?_
        refine lv_aload_n hx hb dX9_lays_20 rfl (lv_at hl 1 rfl) ?_
        refine lv_iload_n hx hb dX9_lays_21 rfl (lv_at hl 2 rfl) ?_
        refine lv_iload_n hx hb dX9_lays_22 rfl (lv_at hl 0 rfl) ?_
        have hPc := hP.sub (ws' := [(h, .inr (9, [.int thr, .int (nI n), .ref m1, .int th, .int un, .int ju, .int ch, .int (nI tm), .int ba, .ref m2, .ref m3, .ref m4, .ref m5, .ref m6, .ref m7, .ref m8, .ref m9, .ref m10, .int nm, .int oc, .ref m11, .int ct])), (m1, .inl (cI, 1024, .inl x)), (m2, .inl (cI, 36, .inl t_parts)), (m3, .inl (cI, 65, .inl d1)), (m4, .inl (cI, 65, .inl s1)), (m5, .inl (cI, 29, .inl cn)), (m6, .inl (cI, 261, .inl la)), (m7, .inl (cI, 261, .inl co)), (m8, .inl (cI, 261, .inl le)), (m9, .inl (cI, 261, .inl fr)), (m10, .inl (cI, 29, .inl tr)), (m11, .inl (cI, 29, .inl no))]) [0, 1, 2, 3, 4, 5, 6, 7, 8, 9, 10, 11] rfl
        refine vp_callSi (W.runV (As := [.int (nI j), .int (nI (i + 1))]) (rest := [.int (nI (i + 1)), .ref m3]) ⟨hx, hb, hml, hown, hts⟩ (c_X9_differenceOf l D cI cL h m1 m2 m3 m4 m5 m6 m7 m8 m9 m10 m11 n tm thr th un ju ch ba nm oc ct x d1 s1 cn la co le fr tr no j (i + 1) (by omega) (by omega)) (cwV 2 hts gX9_lays_X9_differenceOf rfl rfl rfl (by decide +kernel) ⟨Nat.le_of_ble_eq_true rfl, Nat.le_of_ble_eq_true rfl⟩) ⟨t_rPc_blind, va_recv hK hPc (ci := 9) (q0 := 0) rfl rfl, fun U hU hW => ⟨rfl, by rw [hU]; exact hPc, va_K.moved hW.alike hK⟩⟩ rfl rfl hl.1 rfl (lv_room (Nat.le_of_ble_eq_true rfl)) dX9_lays_23 ⟨Nat.le_of_ble_eq_true rfl, Nat.le_of_ble_eq_true rfl⟩) (fun r_6 hr_6 => ?_)
        subst hr_6
        refine tv_iast hx hb hK hP hD hS 3 0 rfl rfl (by omega) (by omega) dX9_lays_26 (fun H locs hP hD hS => ?_)
        have hP : va_P D vwCl [(h, .inr (9, [.int thr, .int (nI n), .ref m1, .int th, .int un, .int ju, .int ch, .int (nI tm), .int ba, .ref m2, .ref m3, .ref m4, .ref m5, .ref m6, .ref m7, .ref m8, .ref m9, .ref m10, .int nm, .int oc, .ref m11, .int ct])), (m1, .inl (cI, 1024, .inl x)), (m2, .inl (cI, 36, .inl t_parts)), (m3, .inl (cI, 65, .inl (upd d1 (i + 1) (t_df x j (i + 1))))), (m4, .inl (cI, 65, .inl s1)), (m5, .inl (cI, 29, .inl cn)), (m6, .inl (cI, 261, .inl la)), (m7, .inl (cI, 261, .inl co)), (m8, .inl (cI, 261, .inl le)), (m9, .inl (cI, 261, .inl fr)), (m10, .inl (cI, 29, .inl tr)), (m11, .inl (cI, 29, .inl no))] H := hP
        have hD : va_D A [(h, .inr (9, [.int thr, .int (nI n), .ref m1, .int th, .int un, .int ju, .int ch, .int (nI tm), .int ba, .ref m2, .ref m3, .ref m4, .ref m5, .ref m6, .ref m7, .ref m8, .ref m9, .ref m10, .int nm, .int oc, .ref m11, .int ct])), (m1, .inl (cI, 1024, .inl x)), (m2, .inl (cI, 36, .inl t_parts)), (m3, .inl (cI, 65, .inl (upd d1 (i + 1) (t_df x j (i + 1))))), (m4, .inl (cI, 65, .inl s1)), (m5, .inl (cI, 29, .inl cn)), (m6, .inl (cI, 261, .inl la)), (m7, .inl (cI, 261, .inl co)), (m8, .inl (cI, 261, .inl le)), (m9, .inl (cI, 261, .inl fr)), (m10, .inl (cI, 29, .inl tr)), (m11, .inl (cI, 29, .inl no))] := hD
        refine lv_aload_n hx hb dX9_lays_27 rfl (lv_at hl 1 rfl) ?_
        refine va_get (D := D) (ci := 9) (v := .ref m4) (C := RX9) (T := TX9) (N := 22) hx hb hts (fun _ h => List.mem_cons_of_mem _ (List.mem_append_right _ h)) hown hK hP 0 rfl rfl 11 (by decide) (hts (.fieldLink RX9 35 "PitchTrackerModel" "sum" "[I") (List.mem_of_getElem? (i := 1) rfl)) (fun _ h9 => h9) rfl dX9_lays_28 ?_
        refine lv_iload_n hx hb dX9_lays_31 rfl (lv_at hl 0 rfl) ?_
        refine lv_aload_n hx hb dX9_lays_32 rfl (lv_at hl 1 rfl) ?_
        refine va_get (D := D) (ci := 9) (v := .ref m4) (C := RX9) (T := TX9) (N := 22) hx hb hts (fun _ h => List.mem_cons_of_mem _ (List.mem_append_right _ h)) hown hK hP 0 rfl rfl 11 (by decide) (hts (.fieldLink RX9 35 "PitchTrackerModel" "sum" "[I") (List.mem_of_getElem? (i := 1) rfl)) (fun _ h9 => h9) rfl dX9_lays_33 ?_
        refine lv_iload_n hx hb dX9_lays_36 rfl (lv_at hl 0 rfl) ?_
        refine lv_iconst (v := ((nI 1) : Int32)) hx hb dX9_lays_37 (by decide +kernel) ?_
        refine tv_isub (a := i + 1) (b := 1) hx hb dX9_lays_38 (by omega) ?_
        refine tv_iald hx hb hK hP 4 0 rfl rfl (by omega) (by omega) dX9_lays_39 ?_
        refine lv_aload_n hx hb dX9_lays_40 rfl (lv_at hl 1 rfl) ?_
        refine va_get (D := D) (ci := 9) (v := .ref m3) (C := RX9) (T := TX9) (N := 22) hx hb hts (fun _ h => List.mem_cons_of_mem _ (List.mem_append_right _ h)) hown hK hP 0 rfl rfl 10 (by decide) (hts (.fieldLink RX9 32 "PitchTrackerModel" "difference" "[I") (List.mem_of_getElem? (i := 2) rfl)) (fun _ h9 => h9) rfl dX9_lays_41 ?_
        refine lv_iload_n hx hb dX9_lays_44 rfl (lv_at hl 0 rfl) ?_
        refine tv_iald hx hb hK hP 3 0 rfl rfl (by omega) (by omega) dX9_lays_45 ?_
        refine lv_iadd hx hb dX9_lays_46 ?_
        refine tv_iast hx hb hK hP hD hS 4 0 rfl rfl (by omega) (by omega) dX9_lays_47 (fun H locs hP hD hS => ?_)
        have hP : va_P D vwCl [(h, .inr (9, [.int thr, .int (nI n), .ref m1, .int th, .int un, .int ju, .int ch, .int (nI tm), .int ba, .ref m2, .ref m3, .ref m4, .ref m5, .ref m6, .ref m7, .ref m8, .ref m9, .ref m10, .int nm, .int oc, .ref m11, .int ct])), (m1, .inl (cI, 1024, .inl x)), (m2, .inl (cI, 36, .inl t_parts)), (m3, .inl (cI, 65, .inl (upd d1 (i + 1) (t_df x j (i + 1))))), (m4, .inl (cI, 65, .inl (upd s1 (i + 1) ((s1 ((i + 1) - 1)) + ((upd d1 (i + 1) (t_df x j (i + 1))) (i + 1)))))), (m5, .inl (cI, 29, .inl cn)), (m6, .inl (cI, 261, .inl la)), (m7, .inl (cI, 261, .inl co)), (m8, .inl (cI, 261, .inl le)), (m9, .inl (cI, 261, .inl fr)), (m10, .inl (cI, 29, .inl tr)), (m11, .inl (cI, 29, .inl no))] H := hP
        have hD : va_D A [(h, .inr (9, [.int thr, .int (nI n), .ref m1, .int th, .int un, .int ju, .int ch, .int (nI tm), .int ba, .ref m2, .ref m3, .ref m4, .ref m5, .ref m6, .ref m7, .ref m8, .ref m9, .ref m10, .int nm, .int oc, .ref m11, .int ct])), (m1, .inl (cI, 1024, .inl x)), (m2, .inl (cI, 36, .inl t_parts)), (m3, .inl (cI, 65, .inl (upd d1 (i + 1) (t_df x j (i + 1))))), (m4, .inl (cI, 65, .inl (upd s1 (i + 1) ((s1 ((i + 1) - 1)) + ((upd d1 (i + 1) (t_df x j (i + 1))) (i + 1)))))), (m5, .inl (cI, 29, .inl cn)), (m6, .inl (cI, 261, .inl la)), (m7, .inl (cI, 261, .inl co)), (m8, .inl (cI, 261, .inl le)), (m9, .inl (cI, 261, .inl fr)), (m10, .inl (cI, 29, .inl tr)), (m11, .inl (cI, 29, .inl no))] := hD
        refine lv_iinc (v := (nI (i + 1 + 1))) (lv' := [(2, .int (nI (i + 1 + 1))), (0, .ref h), (1, .int (nI j))]) hx hb dX9_lays_48 hl (k := 0) rfl (nI_add (i + 1) 1) (by decide) rfl (fun ls hl => ?_)
        refine lv_goto (tgt := 9) hx hb dX9_lays_51 (by decide) ?_
        exact ih_2 (i + 1) (upd d1 (i + 1) (t_df x j (i + 1))) (upd s1 (i + 1) ((s1 ((i + 1) - 1)) + ((upd d1 (i + 1) (t_df x j (i + 1))) (i + 1)))) (by omega) (by omega) (t_mlay_s hv) _ _ (hP.sub [0, 1, 2, 3, 4, 5, 6, 7, 8, 9, 10, 11] rfl) (hD.sub [0, 1, 2, 3, 4, 5, 6, 7, 8, 9, 10, 11] (by decide +kernel) rfl) hS _ (lv_sub hl [0, 1, 2] rfl)
  exact loop_1 (64 - 0 + 1) 0 dd (upd ss 0 (nI 0)) (Nat.lt_succ_self _) (Nat.zero_le _) t_mlay_0 _ _ (hP.sub [0, 1, 2, 3, 4, 5, 6, 7, 8, 9, 10, 11] rfl) (hD.sub [0, 1, 2, 3, 4, 5, 6, 7, 8, 9, 10, 11] (by decide +kernel) rfl) hS _ (lv_sub hl [0, 1, 2] rfl)

set_option maxHeartbeats 4000000 in
set_option maxRecDepth 100000 in
theorem c_X9_over (l : Launch) (D : va_G) (cI cL : ClassId) (h m1 m2 m3 m4 m5 m6 m7 m8 m9 m10 m11 n tm : Nat) (thr th un ju ch ba nm oc ct : Int32) (x dd ss cn la co le fr tr no : Nat → Int32) (i : Nat) (hi : i ≤ 64) (hs : ∀ q, q ≤ 64 → ¬ ss q < 0) : Met l yX9_over wsX9_over ({ frames := 0, cells := 0, slots := 0, locals := 0 }) (t_rPc D cI cL [.ref h, .int (nI i)] [(h, .inr (9, [.int thr, .int (nI n), .ref m1, .int th, .int un, .int ju, .int ch, .int (nI tm), .int ba, .ref m2, .ref m3, .ref m4, .ref m5, .ref m6, .ref m7, .ref m8, .ref m9, .ref m10, .int nm, .int oc, .ref m11, .int ct])), (m1, .inl (cI, 1024, .inl x)), (m2, .inl (cI, 36, .inl t_parts)), (m3, .inl (cI, 65, .inl dd)), (m4, .inl (cI, 65, .inl ss)), (m5, .inl (cI, 29, .inl cn)), (m6, .inl (cI, 261, .inl la)), (m7, .inl (cI, 261, .inl co)), (m8, .inl (cI, 261, .inl le)), (m9, .inl (cI, 261, .inl fr)), (m10, .inl (cI, 29, .inl tr)), (m11, .inl (cI, 29, .inl no))]) (vp_Sl (fun r => r = t_top (dd i) i (ss i))) 0 0 (fun _ => False) := by
  refine t_ofR (by decide) rfl (Nat.le_of_ble_eq_true rfl) ?_
  intro p e s m below meth c ls hx hb hml hown hts hr hlocks hK hP hl
  have hown : s.vm.findClass RX9 = some m.cls := hown
  have hl : lv_has ls 2 [(0, .ref h), (1, .int (nI i))] := hl
  refine lv_aload_n hx hb dX9_over_0 rfl (lv_at hl 0 rfl) ?_
  refine va_get (D := D) (ci := 9) (v := .ref m4) (C := RX9) (T := TX9) (N := 22) hx hb hts (fun _ h => List.mem_cons_of_mem _ (List.mem_append_right _ h)) hown hK hP 0 rfl rfl 11 (by decide) (hts (.fieldLink RX9 35 "PitchTrackerModel" "sum" "[I") (List.mem_of_getElem? (i := 1) rfl)) (fun _ h9 => h9) rfl dX9_over_1 ?_
  refine lv_iload_n hx hb dX9_over_4 rfl (lv_at hl 1 rfl) ?_
  refine tv_iald hx hb hK hP 4 0 rfl rfl (by omega) (by omega) dX9_over_5 ?_
  refine lv_if_ne (tgt := 13) hx hb dX9_over_6 (by decide) (fun q6_1 => ?_) (fun q6_1 => ?_)
  · refine lv_iload_n hx hb dX9_over_13 rfl (lv_at hl 1 rfl) ?_
    refine lv_i2l hx hb dX9_over_14 rfl ?_
    refine lv_aload_n hx hb dX9_over_15 rfl (lv_at hl 0 rfl) ?_
    refine va_get (D := D) (ci := 9) (v := .ref m3) (C := RX9) (T := TX9) (N := 22) hx hb hts (fun _ h => List.mem_cons_of_mem _ (List.mem_append_right _ h)) hown hK hP 0 rfl rfl 10 (by decide) (hts (.fieldLink RX9 32 "PitchTrackerModel" "difference" "[I") (List.mem_of_getElem? (i := 2) rfl)) (fun _ h9 => h9) rfl dX9_over_16 ?_
    refine lv_iload_n hx hb dX9_over_19 rfl (lv_at hl 1 rfl) ?_
    refine tv_iald hx hb hK hP 3 0 rfl rfl (by omega) (by omega) dX9_over_20 ?_
    refine lv_i2l hx hb dX9_over_21 rfl ?_
    refine lv_lmul hx hb dX9_over_22 ?_
    exact W.lret (v := ((nI i).toInt64) * ((dd i).toInt64)) hx hb hr (fun t ht hW => ⟨_, rfl, (t_top_p q6_1 (hs _ hi)), ht⟩) (fun q h => by cases h) dX9_over_23 hlocks
  · refine lv_lconst (v := 1) hx hb dX9_over_9 (by decide +kernel) ?_
    refine lv_goto (tgt := 23) hx hb dX9_over_10 (by decide) ?_
    exact W.lret (v := 1) hx hb hr (fun t ht hW => ⟨_, rfl, (t_top_z q6_1), ht⟩) (fun q h => by cases h) dX9_over_23 hlocks

set_option maxHeartbeats 4000000 in
set_option maxRecDepth 100000 in
theorem c_X9_under (l : Launch) (D : va_G) (cI cL : ClassId) (h m1 m2 m3 m4 m5 m6 m7 m8 m9 m10 m11 n tm : Nat) (thr th un ju ch ba nm oc ct : Int32) (x dd ss cn la co le fr tr no : Nat → Int32) (i : Nat) (hi : i ≤ 64) (hs : ∀ q, q ≤ 64 → ¬ ss q < 0) : Met l yX9_under wsX9_under ({ frames := 0, cells := 0, slots := 0, locals := 0 }) (t_rPc D cI cL [.ref h, .int (nI i)] [(h, .inr (9, [.int thr, .int (nI n), .ref m1, .int th, .int un, .int ju, .int ch, .int (nI tm), .int ba, .ref m2, .ref m3, .ref m4, .ref m5, .ref m6, .ref m7, .ref m8, .ref m9, .ref m10, .int nm, .int oc, .ref m11, .int ct])), (m1, .inl (cI, 1024, .inl x)), (m2, .inl (cI, 36, .inl t_parts)), (m3, .inl (cI, 65, .inl dd)), (m4, .inl (cI, 65, .inl ss)), (m5, .inl (cI, 29, .inl cn)), (m6, .inl (cI, 261, .inl la)), (m7, .inl (cI, 261, .inl co)), (m8, .inl (cI, 261, .inl le)), (m9, .inl (cI, 261, .inl fr)), (m10, .inl (cI, 29, .inl tr)), (m11, .inl (cI, 29, .inl no))]) (vp_Sl (fun r => r = t_bot (ss i))) 0 0 (fun _ => False) := by
  refine t_ofR (by decide) rfl (Nat.le_of_ble_eq_true rfl) ?_
  intro p e s m below meth c ls hx hb hml hown hts hr hlocks hK hP hl
  have hown : s.vm.findClass RX9 = some m.cls := hown
  have hl : lv_has ls 2 [(0, .ref h), (1, .int (nI i))] := hl
  refine lv_aload_n hx hb dX9_under_0 rfl (lv_at hl 0 rfl) ?_
  refine va_get (D := D) (ci := 9) (v := .ref m4) (C := RX9) (T := TX9) (N := 22) hx hb hts (fun _ h => List.mem_cons_of_mem _ (List.mem_append_right _ h)) hown hK hP 0 rfl rfl 11 (by decide) (hts (.fieldLink RX9 35 "PitchTrackerModel" "sum" "[I") (List.mem_of_getElem? (i := 1) rfl)) (fun _ h9 => h9) rfl dX9_under_1 ?_
  refine lv_iload_n hx hb dX9_under_4 rfl (lv_at hl 1 rfl) ?_
  refine tv_iald hx hb hK hP 4 0 rfl rfl (by omega) (by omega) dX9_under_5 ?_
  refine lv_if_ne (tgt := 13) hx hb dX9_under_6 (by decide) (fun q6_1 => ?_) (fun q6_1 => ?_)
  · refine lv_aload_n hx hb dX9_under_13 rfl (lv_at hl 0 rfl) ?_
    refine va_get (D := D) (ci := 9) (v := .ref m4) (C := RX9) (T := TX9) (N := 22) hx hb hts (fun _ h => List.mem_cons_of_mem _ (List.mem_append_right _ h)) hown hK hP 0 rfl rfl 11 (by decide) (hts (.fieldLink RX9 35 "PitchTrackerModel" "sum" "[I") (List.mem_of_getElem? (i := 1) rfl)) (fun _ h9 => h9) rfl dX9_under_14 ?_
    refine lv_iload_n hx hb dX9_under_17 rfl (lv_at hl 1 rfl) ?_
    refine tv_iald hx hb hK hP 4 0 rfl rfl (by omega) (by omega) dX9_under_18 ?_
    refine lv_i2l hx hb dX9_under_19 rfl ?_
    exact W.lret (v := (ss i).toInt64) hx hb hr (fun t ht hW => ⟨_, rfl, (t_bot_p q6_1 (hs _ hi)), ht⟩) (fun q h => by cases h) dX9_under_20 hlocks
  · refine lv_lconst (v := 1) hx hb dX9_under_9 (by decide +kernel) ?_
    refine lv_goto (tgt := 20) hx hb dX9_under_10 (by decide) ?_
    exact W.lret (v := 1) hx hb hr (fun t ht hW => ⟨_, rfl, (t_bot_z q6_1), ht⟩) (fun q h => by cases h) dX9_under_20 hlocks

set_option maxHeartbeats 4000000 in
set_option maxRecDepth 100000 in
theorem c_X9_isLess (l : Launch) (D : va_G) (cI cL : ClassId) (h m1 m2 m3 m4 m5 m6 m7 m8 m9 m10 m11 n tm : Nat) (thr th un ju ch ba nm oc ct : Int32) (x dd ss cn la co le fr tr no : Nat → Int32) (i k : Nat) (hi : i ≤ 64) (hk : k ≤ 64) (hs : ∀ q, q ≤ 64 → ¬ ss q < 0) : Met l yX9_isLess wsX9_isLess ({ frames := 1, cells := 0, slots := 0, locals := 60 }) (t_rPc D cI cL [.ref h, .int (nI i), .int (nI k)] [(h, .inr (9, [.int thr, .int (nI n), .ref m1, .int th, .int un, .int ju, .int ch, .int (nI tm), .int ba, .ref m2, .ref m3, .ref m4, .ref m5, .ref m6, .ref m7, .ref m8, .ref m9, .ref m10, .int nm, .int oc, .ref m11, .int ct])), (m1, .inl (cI, 1024, .inl x)), (m2, .inl (cI, 36, .inl t_parts)), (m3, .inl (cI, 65, .inl dd)), (m4, .inl (cI, 65, .inl ss)), (m5, .inl (cI, 29, .inl cn)), (m6, .inl (cI, 261, .inl la)), (m7, .inl (cI, 261, .inl co)), (m8, .inl (cI, 261, .inl le)), (m9, .inl (cI, 261, .inl fr)), (m10, .inl (cI, 29, .inl tr)), (m11, .inl (cI, 29, .inl no))]) (vp_Si (fun r => r = t_b (t_less dd ss i k))) 0 0 (fun _ => False) := by
  refine t_ofR (by decide) rfl (Nat.le_of_ble_eq_true rfl) ?_
  intro p e s m below meth c ls hx hb hml hown hts hr hlocks hK hP hl
  have hown : s.vm.findClass RX9 = some m.cls := hown
  have hl : lv_has ls 3 [(0, .ref h), (1, .int (nI i)), (2, .int (nI k))] := hl
  refine lv_aload_n hx hb dX9_isLess_0 rfl (lv_at hl 0 rfl) ?_
  refine lv_iload_n hx hb dX9_isLess_1 rfl (lv_at hl 1 rfl) ?_
  have hPc := hP.sub (ws' := [(h, .inr (9, [.int thr, .int (nI n), .ref m1, .int th, .int un, .int ju, .int ch, .int (nI tm), .int ba, .ref m2, .ref m3, .ref m4, .ref m5, .ref m6, .ref m7, .ref m8, .ref m9, .ref m10, .int nm, .int oc, .ref m11, .int ct])), (m1, .inl (cI, 1024, .inl x)), (m2, .inl (cI, 36, .inl t_parts)), (m3, .inl (cI, 65, .inl dd)), (m4, .inl (cI, 65, .inl ss)), (m5, .inl (cI, 29, .inl cn)), (m6, .inl (cI, 261, .inl la)), (m7, .inl (cI, 261, .inl co)), (m8, .inl (cI, 261, .inl le)), (m9, .inl (cI, 261, .inl fr)), (m10, .inl (cI, 29, .inl tr)), (m11, .inl (cI, 29, .inl no))]) [0, 1, 2, 3, 4, 5, 6, 7, 8, 9, 10, 11] rfl
  refine vp_callSl (W.runV (As := [.int (nI i)]) (rest := []) ⟨hx, hb, hml, hown, hts⟩ (c_X9_over l D cI cL h m1 m2 m3 m4 m5 m6 m7 m8 m9 m10 m11 n tm thr th un ju ch ba nm oc ct x dd ss cn la co le fr tr no i hi hs) (cwV 1 hts gX9_isLess_X9_over rfl rfl rfl (by decide +kernel) ⟨Nat.le_of_ble_eq_true rfl, Nat.le_of_ble_eq_true rfl⟩) ⟨t_rPc_blind, va_recv hK hPc (ci := 9) (q0 := 0) rfl rfl, fun U hU hW => ⟨rfl, by rw [hU]; exact hPc, va_K.moved hW.alike hK⟩⟩ rfl rfl hl.1 rfl (lv_room (Nat.le_of_ble_eq_true rfl)) dX9_isLess_2 ⟨Nat.le_of_ble_eq_true rfl, Nat.le_of_ble_eq_true rfl⟩) (fun r_1 hr_1 => ?_)
  subst hr_1
  refine lv_aload_n hx hb dX9_isLess_5 rfl (lv_at hl 0 rfl) ?_
  refine lv_iload_n hx hb dX9_isLess_6 rfl (lv_at hl 2 rfl) ?_
  have hPc := hP.sub (ws' := [(h, .inr (9, [.int thr, .int (nI n), .ref m1, .int th, .int un, .int ju, .int ch, .int (nI tm), .int ba, .ref m2, .ref m3, .ref m4, .ref m5, .ref m6, .ref m7, .ref m8, .ref m9, .ref m10, .int nm, .int oc, .ref m11, .int ct])), (m1, .inl (cI, 1024, .inl x)), (m2, .inl (cI, 36, .inl t_parts)), (m3, .inl (cI, 65, .inl dd)), (m4, .inl (cI, 65, .inl ss)), (m5, .inl (cI, 29, .inl cn)), (m6, .inl (cI, 261, .inl la)), (m7, .inl (cI, 261, .inl co)), (m8, .inl (cI, 261, .inl le)), (m9, .inl (cI, 261, .inl fr)), (m10, .inl (cI, 29, .inl tr)), (m11, .inl (cI, 29, .inl no))]) [0, 1, 2, 3, 4, 5, 6, 7, 8, 9, 10, 11] rfl
  refine vp_callSl (W.runV (As := [.int (nI k)]) (rest := [.long (t_top (dd i) i (ss i))]) ⟨hx, hb, hml, hown, hts⟩ (c_X9_under l D cI cL h m1 m2 m3 m4 m5 m6 m7 m8 m9 m10 m11 n tm thr th un ju ch ba nm oc ct x dd ss cn la co le fr tr no k hk hs) (cwV 1 hts gX9_isLess_X9_under rfl rfl rfl (by decide +kernel) ⟨Nat.le_of_ble_eq_true rfl, Nat.le_of_ble_eq_true rfl⟩) ⟨t_rPc_blind, va_recv hK hPc (ci := 9) (q0 := 0) rfl rfl, fun U hU hW => ⟨rfl, by rw [hU]; exact hPc, va_K.moved hW.alike hK⟩⟩ rfl rfl hl.1 rfl (lv_room (Nat.le_of_ble_eq_true rfl)) dX9_isLess_7 ⟨Nat.le_of_ble_eq_true rfl, Nat.le_of_ble_eq_true rfl⟩) (fun r_2 hr_2 => ?_)
  subst hr_2
  refine lv_lmul hx hb dX9_isLess_10 ?_
  refine lv_aload_n hx hb dX9_isLess_11 rfl (lv_at hl 0 rfl) ?_
  refine lv_iload_n hx hb dX9_isLess_12 rfl (lv_at hl 2 rfl) ?_
  have hPc := hP.sub (ws' := [(h, .inr (9, [.int thr, .int (nI n), .ref m1, .int th, .int un, .int ju, .int ch, .int (nI tm), .int ba, .ref m2, .ref m3, .ref m4, .ref m5, .ref m6, .ref m7, .ref m8, .ref m9, .ref m10, .int nm, .int oc, .ref m11, .int ct])), (m1, .inl (cI, 1024, .inl x)), (m2, .inl (cI, 36, .inl t_parts)), (m3, .inl (cI, 65, .inl dd)), (m4, .inl (cI, 65, .inl ss)), (m5, .inl (cI, 29, .inl cn)), (m6, .inl (cI, 261, .inl la)), (m7, .inl (cI, 261, .inl co)), (m8, .inl (cI, 261, .inl le)), (m9, .inl (cI, 261, .inl fr)), (m10, .inl (cI, 29, .inl tr)), (m11, .inl (cI, 29, .inl no))]) [0, 1, 2, 3, 4, 5, 6, 7, 8, 9, 10, 11] rfl
  refine vp_callSl (W.runV (As := [.int (nI k)]) (rest := [.long ((t_top (dd i) i (ss i)) * (t_bot (ss k)))]) ⟨hx, hb, hml, hown, hts⟩ (c_X9_over l D cI cL h m1 m2 m3 m4 m5 m6 m7 m8 m9 m10 m11 n tm thr th un ju ch ba nm oc ct x dd ss cn la co le fr tr no k hk hs) (cwV 1 hts gX9_isLess_X9_over rfl rfl rfl (by decide +kernel) ⟨Nat.le_of_ble_eq_true rfl, Nat.le_of_ble_eq_true rfl⟩) ⟨t_rPc_blind, va_recv hK hPc (ci := 9) (q0 := 0) rfl rfl, fun U hU hW => ⟨rfl, by rw [hU]; exact hPc, va_K.moved hW.alike hK⟩⟩ rfl rfl hl.1 rfl (lv_room (Nat.le_of_ble_eq_true rfl)) dX9_isLess_13 ⟨Nat.le_of_ble_eq_true rfl, Nat.le_of_ble_eq_true rfl⟩) (fun r_3 hr_3 => ?_)
  subst hr_3
  refine lv_aload_n hx hb dX9_isLess_16 rfl (lv_at hl 0 rfl) ?_
  refine lv_iload_n hx hb dX9_isLess_17 rfl (lv_at hl 1 rfl) ?_
  have hPc := hP.sub (ws' := [(h, .inr (9, [.int thr, .int (nI n), .ref m1, .int th, .int un, .int ju, .int ch, .int (nI tm), .int ba, .ref m2, .ref m3, .ref m4, .ref m5, .ref m6, .ref m7, .ref m8, .ref m9, .ref m10, .int nm, .int oc, .ref m11, .int ct])), (m1, .inl (cI, 1024, .inl x)), (m2, .inl (cI, 36, .inl t_parts)), (m3, .inl (cI, 65, .inl dd)), (m4, .inl (cI, 65, .inl ss)), (m5, .inl (cI, 29, .inl cn)), (m6, .inl (cI, 261, .inl la)), (m7, .inl (cI, 261, .inl co)), (m8, .inl (cI, 261, .inl le)), (m9, .inl (cI, 261, .inl fr)), (m10, .inl (cI, 29, .inl tr)), (m11, .inl (cI, 29, .inl no))]) [0, 1, 2, 3, 4, 5, 6, 7, 8, 9, 10, 11] rfl
  refine vp_callSl (W.runV (As := [.int (nI i)]) (rest := [.long (t_top (dd k) k (ss k)), .long ((t_top (dd i) i (ss i)) * (t_bot (ss k)))]) ⟨hx, hb, hml, hown, hts⟩ (c_X9_under l D cI cL h m1 m2 m3 m4 m5 m6 m7 m8 m9 m10 m11 n tm thr th un ju ch ba nm oc ct x dd ss cn la co le fr tr no i hi hs) (cwV 1 hts gX9_isLess_X9_under rfl rfl rfl (by decide +kernel) ⟨Nat.le_of_ble_eq_true rfl, Nat.le_of_ble_eq_true rfl⟩) ⟨t_rPc_blind, va_recv hK hPc (ci := 9) (q0 := 0) rfl rfl, fun U hU hW => ⟨rfl, by rw [hU]; exact hPc, va_K.moved hW.alike hK⟩⟩ rfl rfl hl.1 rfl (lv_room (Nat.le_of_ble_eq_true rfl)) dX9_isLess_18 ⟨Nat.le_of_ble_eq_true rfl, Nat.le_of_ble_eq_true rfl⟩) (fun r_4 hr_4 => ?_)
  subst hr_4
  refine lv_lmul hx hb dX9_isLess_21 ?_
  refine W.lcmp hx hb dX9_isLess_22 ?_
  refine tv_cmp_ge (tgt := 30) hx hb dX9_isLess_23 (by decide) (fun q23_5 => ?_) (fun q23_5 => ?_)
  · refine lv_iconst (v := ((nI 0) : Int32)) hx hb dX9_isLess_30 (by decide +kernel) ?_
    exact W.zret (v := (nI 0)) hx hb hr rfl (fun t ht hW => ⟨_, rfl, (t_b_f (decide_eq_false (t_nlt q23_5))), ht⟩) (fun q h => by cases h) dX9_isLess_31 hlocks
  · refine lv_iconst (v := ((nI 1) : Int32)) hx hb dX9_isLess_26 (by decide +kernel) ?_
    refine lv_goto (tgt := 31) hx hb dX9_isLess_27 (by decide) ?_
    exact W.zret (v := (nI 1)) hx hb hr rfl (fun t ht hW => ⟨_, rfl, (t_b_t (decide_eq_true (t_nle q23_5))), ht⟩) (fun q h => by cases h) dX9_isLess_31 hlocks

set_option maxHeartbeats 4000000 in
set_option maxRecDepth 100000 in
theorem c_X9_isCandidate (l : Launch) (D : va_G) (cI cL : ClassId) (h m1 m2 m3 m4 m5 m6 m7 m8 m9 m10 m11 n tm : Nat) (thr th un ju ch ba nm oc ct : Int32) (x dd ss cn la co le fr tr no : Nat → Int32) (i : Nat) (h1 : 1 ≤ i) (hi : i ≤ 63) (hs : ∀ q, q ≤ 64 → ¬ ss q < 0) : Met l yX9_isCandidate wsX9_isCandidate ({ frames := 2, cells := 0, slots := 0, locals := 90 }) (t_rPc D cI cL [.ref h, .int (nI i)] [(h, .inr (9, [.int thr, .int (nI n), .ref m1, .int th, .int un, .int ju, .int ch, .int (nI tm), .int ba, .ref m2, .ref m3, .ref m4, .ref m5, .ref m6, .ref m7, .ref m8, .ref m9, .ref m10, .int nm, .int oc, .ref m11, .int ct])), (m1, .inl (cI, 1024, .inl x)), (m2, .inl (cI, 36, .inl t_parts)), (m3, .inl (cI, 65, .inl dd)), (m4, .inl (cI, 65, .inl ss)), (m5, .inl (cI, 29, .inl cn)), (m6, .inl (cI, 261, .inl la)), (m7, .inl (cI, 261, .inl co)), (m8, .inl (cI, 261, .inl le)), (m9, .inl (cI, 261, .inl fr)), (m10, .inl (cI, 29, .inl tr)), (m11, .inl (cI, 29, .inl no))]) (vp_Si (fun r => r = t_b (t_cand dd ss th i))) 0 0 (fun _ => False) := by
  refine t_ofR (by decide) rfl (Nat.le_of_ble_eq_true rfl) ?_
  intro p e s m below meth c ls hx hb hml hown hts hr hlocks hK hP hl
  have hown : s.vm.findClass RX9 = some m.cls := hown
  have hl : lv_has ls 2 [(0, .ref h), (1, .int (nI i))] := hl
  refine lv_ldc2 (v := 100) hx hb hown (hts (.constantLong RX9 96 (100)) (List.mem_of_getElem? (i := 1) rfl)) dX9_isCandidate_0 ?_
  refine lv_aload_n hx hb dX9_isCandidate_3 rfl (lv_at hl 0 rfl) ?_
  refine lv_iload_n hx hb dX9_isCandidate_4 rfl (lv_at hl 1 rfl) ?_
  have hPc := hP.sub (ws' := [(h, .inr (9, [.int thr, .int (nI n), .ref m1, .int th, .int un, .int ju, .int ch, .int (nI tm), .int ba, .ref m2, .ref m3, .ref m4, .ref m5, .ref m6, .ref m7, .ref m8, .ref m9, .ref m10, .int nm, .int oc, .ref m11, .int ct])), (m1, .inl (cI, 1024, .inl x)), (m2, .inl (cI, 36, .inl t_parts)), (m3, .inl (cI, 65, .inl dd)), (m4, .inl (cI, 65, .inl ss)), (m5, .inl (cI, 29, .inl cn)), (m6, .inl (cI, 261, .inl la)), (m7, .inl (cI, 261, .inl co)), (m8, .inl (cI, 261, .inl le)), (m9, .inl (cI, 261, .inl fr)), (m10, .inl (cI, 29, .inl tr)), (m11, .inl (cI, 29, .inl no))]) [0, 1, 2, 3, 4, 5, 6, 7, 8, 9, 10, 11] rfl
  refine vp_callSl (W.runV (As := [.int (nI i)]) (rest := [.long 100]) ⟨hx, hb, hml, hown, hts⟩ (c_X9_over l D cI cL h m1 m2 m3 m4 m5 m6 m7 m8 m9 m10 m11 n tm thr th un ju ch ba nm oc ct x dd ss cn la co le fr tr no i (by omega) hs) (cwV 1 hts gX9_isCandidate_X9_over rfl rfl rfl (by decide +kernel) ⟨Nat.le_of_ble_eq_true rfl, Nat.le_of_ble_eq_true rfl⟩) ⟨t_rPc_blind, va_recv hK hPc (ci := 9) (q0 := 0) rfl rfl, fun U hU hW => ⟨rfl, by rw [hU]; exact hPc, va_K.moved hW.alike hK⟩⟩ rfl rfl hl.1 rfl (lv_room (Nat.le_of_ble_eq_true rfl)) dX9_isCandidate_5 ⟨Nat.le_of_ble_eq_true rfl, Nat.le_of_ble_eq_true rfl⟩) (fun r_1 hr_1 => ?_)
  subst hr_1
  refine lv_lmul hx hb dX9_isCandidate_8 ?_
  refine lv_aload_n hx hb dX9_isCandidate_9 rfl (lv_at hl 0 rfl) ?_
  refine va_get (D := D) (ci := 9) (v := .int th) (C := RX9) (T := TX9) (N := 22) hx hb hts (fun _ h => List.mem_cons_of_mem _ (List.mem_append_right _ h)) hown hK hP 0 rfl rfl 3 (by decide) (hts (.fieldLink RX9 13 "PitchTrackerModel" "threshold" "I") (List.mem_of_getElem? (i := 2) rfl)) (fun _ h9 => h9) rfl dX9_isCandidate_10 ?_
  refine lv_i2l hx hb dX9_isCandidate_13 rfl ?_
  refine lv_aload_n hx hb dX9_isCandidate_14 rfl (lv_at hl 0 rfl) ?_
  refine lv_iload_n hx hb dX9_isCandidate_15 rfl (lv_at hl 1 rfl) ?_
  have hPc := hP.sub (ws' := [(h, .inr (9, [.int thr, .int (nI n), .ref m1, .int th, .int un, .int ju, .int ch, .int (nI tm), .int ba, .ref m2, .ref m3, .ref m4, .ref m5, .ref m6, .ref m7, .ref m8, .ref m9, .ref m10, .int nm, .int oc, .ref m11, .int ct])), (m1, .inl (cI, 1024, .inl x)), (m2, .inl (cI, 36, .inl t_parts)), (m3, .inl (cI, 65, .inl dd)), (m4, .inl (cI, 65, .inl ss)), (m5, .inl (cI, 29, .inl cn)), (m6, .inl (cI, 261, .inl la)), (m7, .inl (cI, 261, .inl co)), (m8, .inl (cI, 261, .inl le)), (m9, .inl (cI, 261, .inl fr)), (m10, .inl (cI, 29, .inl tr)), (m11, .inl (cI, 29, .inl no))]) [0, 1, 2, 3, 4, 5, 6, 7, 8, 9, 10, 11] rfl
  refine vp_callSl (W.runV (As := [.int (nI i)]) (rest := [.long (th.toInt64), .long (100 * (t_top (dd i) i (ss i)))]) ⟨hx, hb, hml, hown, hts⟩ (c_X9_under l D cI cL h m1 m2 m3 m4 m5 m6 m7 m8 m9 m10 m11 n tm thr th un ju ch ba nm oc ct x dd ss cn la co le fr tr no i (by omega) hs) (cwV 1 hts gX9_isCandidate_X9_under rfl rfl rfl (by decide +kernel) ⟨Nat.le_of_ble_eq_true rfl, Nat.le_of_ble_eq_true rfl⟩) ⟨t_rPc_blind, va_recv hK hPc (ci := 9) (q0 := 0) rfl rfl, fun U hU hW => ⟨rfl, by rw [hU]; exact hPc, va_K.moved hW.alike hK⟩⟩ rfl rfl hl.1 rfl (lv_room (Nat.le_of_ble_eq_true rfl)) dX9_isCandidate_16 ⟨Nat.le_of_ble_eq_true rfl, Nat.le_of_ble_eq_true rfl⟩) (fun r_2 hr_2 => ?_)
  subst hr_2
  refine lv_lmul hx hb dX9_isCandidate_19 ?_
  refine W.lcmp hx hb dX9_isCandidate_20 ?_
  refine tv_cmp_ge (tgt := 50) hx hb dX9_isCandidate_21 (by decide) (fun q21_3 => ?_) (fun q21_3 => ?_)
  · refine lv_iconst (v := ((nI 0) : Int32)) hx hb dX9_isCandidate_50 (by decide +kernel) ?_
    exact W.zret (v := (nI 0)) hx hb hr rfl (fun t ht hW => ⟨_, rfl, (t_b_f (t_cand_1 (decide_eq_false (t_nlt q21_3)))), ht⟩) (fun q h => by cases h) dX9_isCandidate_51 hlocks
  · refine lv_aload_n hx hb dX9_isCandidate_24 rfl (lv_at hl 0 rfl) ?_
    refine lv_iload_n hx hb dX9_isCandidate_25 rfl (lv_at hl 1 rfl) ?_
    refine lv_iload_n hx hb dX9_isCandidate_26 rfl (lv_at hl 1 rfl) ?_
    refine lv_iconst (v := ((nI 1) : Int32)) hx hb dX9_isCandidate_27 (by decide +kernel) ?_
    refine tv_isub (a := i) (b := 1) hx hb dX9_isCandidate_28 (by omega) ?_
    have hPc := hP.sub (ws' := [(h, .inr (9, [.int thr, .int (nI n), .ref m1, .int th, .int un, .int ju, .int ch, .int (nI tm), .int ba, .ref m2, .ref m3, .ref m4, .ref m5, .ref m6, .ref m7, .ref m8, .ref m9, .ref m10, .int nm, .int oc, .ref m11, .int ct])), (m1, .inl (cI, 1024, .inl x)), (m2, .inl (cI, 36, .inl t_parts)), (m3, .inl (cI, 65, .inl dd)), (m4, .inl (cI, 65, .inl ss)), (m5, .inl (cI, 29, .inl cn)), (m6, .inl (cI, 261, .inl la)), (m7, .inl (cI, 261, .inl co)), (m8, .inl (cI, 261, .inl le)), (m9, .inl (cI, 261, .inl fr)), (m10, .inl (cI, 29, .inl tr)), (m11, .inl (cI, 29, .inl no))]) [0, 1, 2, 3, 4, 5, 6, 7, 8, 9, 10, 11] rfl
    refine vp_callSi (W.runV (As := [.int (nI i), .int (nI (i - 1))]) (rest := []) ⟨hx, hb, hml, hown, hts⟩ (c_X9_isLess l D cI cL h m1 m2 m3 m4 m5 m6 m7 m8 m9 m10 m11 n tm thr th un ju ch ba nm oc ct x dd ss cn la co le fr tr no i (i - 1) (by omega) (by omega) hs) (cwV 2 hts gX9_isCandidate_X9_isLess rfl rfl rfl (by decide +kernel) ⟨Nat.le_of_ble_eq_true rfl, Nat.le_of_ble_eq_true rfl⟩) ⟨t_rPc_blind, va_recv hK hPc (ci := 9) (q0 := 0) rfl rfl, fun U hU hW => ⟨rfl, by rw [hU]; exact hPc, va_K.moved hW.alike hK⟩⟩ rfl rfl hl.1 rfl (lv_room (Nat.le_of_ble_eq_true rfl)) dX9_isCandidate_29 ⟨Nat.le_of_ble_eq_true rfl, Nat.le_of_ble_eq_true rfl⟩) (fun r_4 hr_4 => ?_)
    subst hr_4
    refine tv_if_eqB (tgt := 50) hx hb dX9_isCandidate_32 (by decide) (fun q32_5 => ?_) (fun q32_5 => ?_)
    · refine lv_iconst (v := ((nI 0) : Int32)) hx hb dX9_isCandidate_50 (by decide +kernel) ?_
      exact W.zret (v := (nI 0)) hx hb hr rfl (fun t ht hW => ⟨_, rfl, (t_b_f (t_cand_2 q32_5)), ht⟩) (fun q h => by cases h) dX9_isCandidate_51 hlocks
    · refine lv_aload_n hx hb dX9_isCandidate_35 rfl (lv_at hl 0 rfl) ?_
      refine lv_iload_n hx hb dX9_isCandidate_36 rfl (lv_at hl 1 rfl) ?_
      refine lv_iconst (v := ((nI 1) : Int32)) hx hb dX9_isCandidate_37 (by decide +kernel) ?_
      refine tv_iadd (a := i) (b := 1) hx hb dX9_isCandidate_38 ?_
      refine lv_iload_n hx hb dX9_isCandidate_39 rfl (lv_at hl 1 rfl) ?_
      have hPc := hP.sub (ws' := [(h, .inr (9, [.int thr, .int (nI n), .ref m1, .int th, .int un, .int ju, .int ch, .int (nI tm), .int ba, .ref m2, .ref m3, .ref m4, .ref m5, .ref m6, .ref m7, .ref m8, .ref m9, .ref m10, .int nm, .int oc, .ref m11, .int ct])), (m1, .inl (cI, 1024, .inl x)), (m2, .inl (cI, 36, .inl t_parts)), (m3, .inl (cI, 65, .inl dd)), (m4, .inl (cI, 65, .inl ss)), (m5, .inl (cI, 29, .inl cn)), (m6, .inl (cI, 261, .inl la)), (m7, .inl (cI, 261, .inl co)), (m8, .inl (cI, 261, .inl le)), (m9, .inl (cI, 261, .inl fr)), (m10, .inl (cI, 29, .inl tr)), (m11, .inl (cI, 29, .inl no))]) [0, 1, 2, 3, 4, 5, 6, 7, 8, 9, 10, 11] rfl
      refine vp_callSi (W.runV (As := [.int (nI (i + 1)), .int (nI i)]) (rest := []) ⟨hx, hb, hml, hown, hts⟩ (c_X9_isLess l D cI cL h m1 m2 m3 m4 m5 m6 m7 m8 m9 m10 m11 n tm thr th un ju ch ba nm oc ct x dd ss cn la co le fr tr no (i + 1) i (by omega) (by omega) hs) (cwV 2 hts gX9_isCandidate_X9_isLess rfl rfl rfl (by decide +kernel) ⟨Nat.le_of_ble_eq_true rfl, Nat.le_of_ble_eq_true rfl⟩) ⟨t_rPc_blind, va_recv hK hPc (ci := 9) (q0 := 0) rfl rfl, fun U hU hW => ⟨rfl, by rw [hU]; exact hPc, va_K.moved hW.alike hK⟩⟩ rfl rfl hl.1 rfl (lv_room (Nat.le_of_ble_eq_true rfl)) dX9_isCandidate_40 ⟨Nat.le_of_ble_eq_true rfl, Nat.le_of_ble_eq_true rfl⟩) (fun r_6 hr_6 => ?_)
      subst hr_6
      refine tv_if_neB (tgt := 50) hx hb dX9_isCandidate_43 (by decide) (fun q43_7 => ?_) (fun q43_7 => ?_)
      · refine lv_iconst (v := ((nI 0) : Int32)) hx hb dX9_isCandidate_50 (by decide +kernel) ?_
        exact W.zret (v := (nI 0)) hx hb hr rfl (fun t ht hW => ⟨_, rfl, (t_b_f (t_cand_3 q43_7)), ht⟩) (fun q h => by cases h) dX9_isCandidate_51 hlocks
      · refine lv_iconst (v := ((nI 1) : Int32)) hx hb dX9_isCandidate_46 (by decide +kernel) ?_
        refine lv_goto (tgt := 51) hx hb dX9_isCandidate_47 (by decide) ?_
        exact W.zret (v := (nI 1)) hx hb hr rfl (fun t ht hW => ⟨_, rfl, (t_b_t (t_cand_4 (decide_eq_true (t_nle q21_3)) q32_5 q43_7)), ht⟩) (fun q h => by cases h) dX9_isCandidate_51 hlocks

set_option maxHeartbeats 4000000 in
set_option maxRecDepth 100000 in
theorem c_X9_mean (l : Launch) (D : va_G) (cI cL : ClassId) (h m1 m2 m3 m4 m5 m6 m7 m8 m9 m10 m11 n tm : Nat) (thr th un ju ch ba nm oc ct : Int32) (x dd ss cn la co le fr tr no : Nat → Int32) (i : Nat) (hi : i ≤ 64) (hs : ∀ q, q ≤ 64 → ¬ ss q < 0) : Met l yX9_mean wsX9_mean ({ frames := 1, cells := 0, slots := 0, locals := 60 }) (t_rPc D cI cL [.ref h, .int (nI i)] [(h, .inr (9, [.int thr, .int (nI n), .ref m1, .int th, .int un, .int ju, .int ch, .int (nI tm), .int ba, .ref m2, .ref m3, .ref m4, .ref m5, .ref m6, .ref m7, .ref m8, .ref m9, .ref m10, .int nm, .int oc, .ref m11, .int ct])), (m1, .inl (cI, 1024, .inl x)), (m2, .inl (cI, 36, .inl t_parts)), (m3, .inl (cI, 65, .inl dd)), (m4, .inl (cI, 65, .inl ss)), (m5, .inl (cI, 29, .inl cn)), (m6, .inl (cI, 261, .inl la)), (m7, .inl (cI, 261, .inl co)), (m8, .inl (cI, 261, .inl le)), (m9, .inl (cI, 261, .inl fr)), (m10, .inl (cI, 29, .inl tr)), (m11, .inl (cI, 29, .inl no))]) (vp_Si (fun r => r = (t_mean dd ss i))) 0 0 (fun _ => False) := by
  refine t_ofR (by decide) rfl (Nat.le_of_ble_eq_true rfl) ?_
  intro p e s m below meth c ls hx hb hml hown hts hr hlocks hK hP hl
  have hown : s.vm.findClass RX9 = some m.cls := hown
  have hl : lv_has ls 2 [(0, .ref h), (1, .int (nI i))] := hl
  refine lv_ldc2 (v := 1000) hx hb hown (hts (.constantLong RX9 102 (1000)) (List.mem_of_getElem? (i := 1) rfl)) dX9_mean_0 ?_
  refine lv_aload_n hx hb dX9_mean_3 rfl (lv_at hl 0 rfl) ?_
  refine lv_iload_n hx hb dX9_mean_4 rfl (lv_at hl 1 rfl) ?_
  have hPc := hP.sub (ws' := [(h, .inr (9, [.int thr, .int (nI n), .ref m1, .int th, .int un, .int ju, .int ch, .int (nI tm), .int ba, .ref m2, .ref m3, .ref m4, .ref m5, .ref m6, .ref m7, .ref m8, .ref m9, .ref m10, .int nm, .int oc, .ref m11, .int ct])), (m1, .inl (cI, 1024, .inl x)), (m2, .inl (cI, 36, .inl t_parts)), (m3, .inl (cI, 65, .inl dd)), (m4, .inl (cI, 65, .inl ss)), (m5, .inl (cI, 29, .inl cn)), (m6, .inl (cI, 261, .inl la)), (m7, .inl (cI, 261, .inl co)), (m8, .inl (cI, 261, .inl le)), (m9, .inl (cI, 261, .inl fr)), (m10, .inl (cI, 29, .inl tr)), (m11, .inl (cI, 29, .inl no))]) [0, 1, 2, 3, 4, 5, 6, 7, 8, 9, 10, 11] rfl
  refine vp_callSl (W.runV (As := [.int (nI i)]) (rest := [.long 1000]) ⟨hx, hb, hml, hown, hts⟩ (c_X9_over l D cI cL h m1 m2 m3 m4 m5 m6 m7 m8 m9 m10 m11 n tm thr th un ju ch ba nm oc ct x dd ss cn la co le fr tr no i hi hs) (cwV 1 hts gX9_mean_X9_over rfl rfl rfl (by decide +kernel) ⟨Nat.le_of_ble_eq_true rfl, Nat.le_of_ble_eq_true rfl⟩) ⟨t_rPc_blind, va_recv hK hPc (ci := 9) (q0 := 0) rfl rfl, fun U hU hW => ⟨rfl, by rw [hU]; exact hPc, va_K.moved hW.alike hK⟩⟩ rfl rfl hl.1 rfl (lv_room (Nat.le_of_ble_eq_true rfl)) dX9_mean_5 ⟨Nat.le_of_ble_eq_true rfl, Nat.le_of_ble_eq_true rfl⟩) (fun r_1 hr_1 => ?_)
  subst hr_1
  refine lv_lmul hx hb dX9_mean_8 ?_
  refine lv_aload_n hx hb dX9_mean_9 rfl (lv_at hl 0 rfl) ?_
  refine lv_iload_n hx hb dX9_mean_10 rfl (lv_at hl 1 rfl) ?_
  have hPc := hP.sub (ws' := [(h, .inr (9, [.int thr, .int (nI n), .ref m1, .int th, .int un, .int ju, .int ch, .int (nI tm), .int ba, .ref m2, .ref m3, .ref m4, .ref m5, .ref m6, .ref m7, .ref m8, .ref m9, .ref m10, .int nm, .int oc, .ref m11, .int ct])), (m1, .inl (cI, 1024, .inl x)), (m2, .inl (cI, 36, .inl t_parts)), (m3, .inl (cI, 65, .inl dd)), (m4, .inl (cI, 65, .inl ss)), (m5, .inl (cI, 29, .inl cn)), (m6, .inl (cI, 261, .inl la)), (m7, .inl (cI, 261, .inl co)), (m8, .inl (cI, 261, .inl le)), (m9, .inl (cI, 261, .inl fr)), (m10, .inl (cI, 29, .inl tr)), (m11, .inl (cI, 29, .inl no))]) [0, 1, 2, 3, 4, 5, 6, 7, 8, 9, 10, 11] rfl
  refine vp_callSl (W.runV (As := [.int (nI i)]) (rest := [.long (1000 * (t_top (dd i) i (ss i)))]) ⟨hx, hb, hml, hown, hts⟩ (c_X9_under l D cI cL h m1 m2 m3 m4 m5 m6 m7 m8 m9 m10 m11 n tm thr th un ju ch ba nm oc ct x dd ss cn la co le fr tr no i hi hs) (cwV 1 hts gX9_mean_X9_under rfl rfl rfl (by decide +kernel) ⟨Nat.le_of_ble_eq_true rfl, Nat.le_of_ble_eq_true rfl⟩) ⟨t_rPc_blind, va_recv hK hPc (ci := 9) (q0 := 0) rfl rfl, fun U hU hW => ⟨rfl, by rw [hU]; exact hPc, va_K.moved hW.alike hK⟩⟩ rfl rfl hl.1 rfl (lv_room (Nat.le_of_ble_eq_true rfl)) dX9_mean_11 ⟨Nat.le_of_ble_eq_true rfl, Nat.le_of_ble_eq_true rfl⟩) (fun r_2 hr_2 => ?_)
  subst hr_2
  refine lv_ldiv hx hb dX9_mean_14 (t_bot_ne _) ?_
  refine lv_l2i hx hb dX9_mean_15 rfl ?_
  exact W.iret (v := (((1000 * (t_top (dd i) i (ss i))) / (t_bot (ss i))).toInt32)) hx hb hr (fun t ht hW => ⟨_, rfl, t_mean_e, ht⟩) (fun q h => by cases h) dX9_mean_16 hlocks

set_option maxHeartbeats 4000000 in
set_option maxRecDepth 100000 in
theorem c_X9_laysCandidates (l : Launch) (D : va_G) (cI cL : ClassId) (h m1 m2 m3 m4 m5 m6 m7 m8 m9 m10 m11 n tm : Nat) (thr th un ju ch ba nm oc ct : Int32) (x dd ss cn la co le fr tr no : Nat → Int32) (j : Nat) (hsn : n ≤ 1024) (hbx : t_bdx x n) (hjn : j * 32 + 128 ≤ n) (sz : Nat) : Met l yX9_laysCandidates wsX9_laysCandidates ({ frames := 3, cells := 0, slots := 0, locals := 120 }) (t_wPc D cI cL [.ref h, .int (nI j)] [(h, .inr (9, [.int thr, .int (nI n), .ref m1, .int th, .int un, .int ju, .int ch, .int (nI tm), .int ba, .ref m2, .ref m3, .ref m4, .ref m5, .ref m6, .ref m7, .ref m8, .ref m9, .ref m10, .int nm, .int oc, .ref m11, .int ct])), (m1, .inl (cI, 1024, .inl x)), (m2, .inl (cI, 36, .inl t_parts)), (m3, .inl (cI, 65, .inl dd)), (m4, .inl (cI, 65, .inl ss)), (m5, .inl (cI, 29, .inl cn)), (m6, .inl (cI, 261, .inl la)), (m7, .inl (cI, 261, .inl co)), (m8, .inl (cI, 261, .inl le)), (m9, .inl (cI, 261, .inl fr)), (m10, .inl (cI, 29, .inl tr)), (m11, .inl (cI, 29, .inl no))] sz) (t_Qv D cI cL (fun w1 => ∃ d2 : Nat → Int32, ∃ s2 : Nat → Int32, ∃ c2 : Nat → Int32, ∃ l2 : Nat → Int32, ∃ o2 : Nat → Int32, w1 = [(h, .inr (9, [.int thr, .int (nI n), .ref m1, .int th, .int un, .int ju, .int ch, .int (nI tm), .int ba, .ref m2, .ref m3, .ref m4, .ref m5, .ref m6, .ref m7, .ref m8, .ref m9, .ref m10, .int nm, .int oc, .ref m11, .int ct])), (m1, .inl (cI, 1024, .inl x)), (m2, .inl (cI, 36, .inl t_parts)), (m3, .inl (cI, 65, .inl d2)), (m4, .inl (cI, 65, .inl s2)), (m5, .inl (cI, 29, .inl c2)), (m6, .inl (cI, 261, .inl l2)), (m7, .inl (cI, 261, .inl o2)), (m8, .inl (cI, 261, .inl le)), (m9, .inl (cI, 261, .inl fr)), (m10, .inl (cI, 29, .inl tr)), (m11, .inl (cI, 29, .inl no))] ∧ t_mlay x j 64 d2 s2 ∧ t_lcq x un j (t_cs (t_df x j) (t_sm x j) th) cn la co c2 l2 o2) (va_A [(h, .inr (9, [.int thr, .int (nI n), .ref m1, .int th, .int un, .int ju, .int ch, .int (nI tm), .int ba, .ref m2, .ref m3, .ref m4, .ref m5, .ref m6, .ref m7, .ref m8, .ref m9, .ref m10, .int nm, .int oc, .ref m11, .int ct])), (m1, .inl (cI, 1024, .inl x)), (m2, .inl (cI, 36, .inl t_parts)), (m3, .inl (cI, 65, .inl dd)), (m4, .inl (cI, 65, .inl ss)), (m5, .inl (cI, 29, .inl cn)), (m6, .inl (cI, 261, .inl la)), (m7, .inl (cI, 261, .inl co)), (m8, .inl (cI, 261, .inl le)), (m9, .inl (cI, 261, .inl fr)), (m10, .inl (cI, 29, .inl tr)), (m11, .inl (cI, 29, .inl no))] sz)) 0 0 (va_A [(h, .inr (9, [.int thr, .int (nI n), .ref m1, .int th, .int un, .int ju, .int ch, .int (nI tm), .int ba, .ref m2, .ref m3, .ref m4, .ref m5, .ref m6, .ref m7, .ref m8, .ref m9, .ref m10, .int nm, .int oc, .ref m11, .int ct])), (m1, .inl (cI, 1024, .inl x)), (m2, .inl (cI, 36, .inl t_parts)), (m3, .inl (cI, 65, .inl dd)), (m4, .inl (cI, 65, .inl ss)), (m5, .inl (cI, 29, .inl cn)), (m6, .inl (cI, 261, .inl la)), (m7, .inl (cI, 261, .inl co)), (m8, .inl (cI, 261, .inl le)), (m9, .inl (cI, 261, .inl fr)), (m10, .inl (cI, 29, .inl tr)), (m11, .inl (cI, 29, .inl no))] sz) := by
  refine t_ofW (Qc := t_Qv D cI cL (fun w1 => ∃ d2 : Nat → Int32, ∃ s2 : Nat → Int32, ∃ c2 : Nat → Int32, ∃ l2 : Nat → Int32, ∃ o2 : Nat → Int32, w1 = [(h, .inr (9, [.int thr, .int (nI n), .ref m1, .int th, .int un, .int ju, .int ch, .int (nI tm), .int ba, .ref m2, .ref m3, .ref m4, .ref m5, .ref m6, .ref m7, .ref m8, .ref m9, .ref m10, .int nm, .int oc, .ref m11, .int ct])), (m1, .inl (cI, 1024, .inl x)), (m2, .inl (cI, 36, .inl t_parts)), (m3, .inl (cI, 65, .inl d2)), (m4, .inl (cI, 65, .inl s2)), (m5, .inl (cI, 29, .inl c2)), (m6, .inl (cI, 261, .inl l2)), (m7, .inl (cI, 261, .inl o2)), (m8, .inl (cI, 261, .inl le)), (m9, .inl (cI, 261, .inl fr)), (m10, .inl (cI, 29, .inl tr)), (m11, .inl (cI, 29, .inl no))] ∧ t_mlay x j 64 d2 s2 ∧ t_lcq x un j (t_cs (t_df x j) (t_sm x j) th) cn la co c2 l2 o2)) (by decide) rfl (Nat.le_of_ble_eq_true rfl) ?_
  intro p e s m below meth c ls A hx hb hml hown hts hr hlocks hin hK hP hD hS hA hl
  have hown : s.vm.findClass RX9 = some m.cls := hown
  have hl : lv_has ls 3 [(0, .ref h), (1, .int (nI j))] := hl
  refine lv_aload_n hx hb dX9_laysCandidates_0 rfl (lv_at hl 0 rfl) ?_
  refine lv_iload_n hx hb dX9_laysCandidates_1 rfl (lv_at hl 1 rfl) ?_
  have hPc := hP.sub (ws' := [(h, .inr (9, [.int thr, .int (nI n), .ref m1, .int th, .int un, .int ju, .int ch, .int (nI tm), .int ba, .ref m2, .ref m3, .ref m4, .ref m5, .ref m6, .ref m7, .ref m8, .ref m9, .ref m10, .int nm, .int oc, .ref m11, .int ct])), (m1, .inl (cI, 1024, .inl x)), (m2, .inl (cI, 36, .inl t_parts)), (m3, .inl (cI, 65, .inl dd)), (m4, .inl (cI, 65, .inl ss)), (m5, .inl (cI, 29, .inl cn)), (m6, .inl (cI, 261, .inl la)), (m7, .inl (cI, 261, .inl co)), (m8, .inl (cI, 261, .inl le)), (m9, .inl (cI, 261, .inl fr)), (m10, .inl (cI, 29, .inl tr)), (m11, .inl (cI, 29, .inl no))]) [0, 1, 2, 3, 4, 5, 6, 7, 8, 9, 10, 11] rfl
  have hDc := hD.sub (ws' := [(h, .inr (9, [.int thr, .int (nI n), .ref m1, .int th, .int un, .int ju, .int ch, .int (nI tm), .int ba, .ref m2, .ref m3, .ref m4, .ref m5, .ref m6, .ref m7, .ref m8, .ref m9, .ref m10, .int nm, .int oc, .ref m11, .int ct])), (m1, .inl (cI, 1024, .inl x)), (m2, .inl (cI, 36, .inl t_parts)), (m3, .inl (cI, 65, .inl dd)), (m4, .inl (cI, 65, .inl ss)), (m5, .inl (cI, 29, .inl cn)), (m6, .inl (cI, 261, .inl la)), (m7, .inl (cI, 261, .inl co)), (m8, .inl (cI, 261, .inl le)), (m9, .inl (cI, 261, .inl fr)), (m10, .inl (cI, 29, .inl tr)), (m11, .inl (cI, 29, .inl no))]) [0, 1, 2, 3, 4, 5, 6, 7, 8, 9, 10, 11] (by decide +kernel) rfl
  have hFc := va_free (wc := [(h, .inr (9, [.int thr, .int (nI n), .ref m1, .int th, .int un, .int ju, .int ch, .int (nI tm), .int ba, .ref m2, .ref m3, .ref m4, .ref m5, .ref m6, .ref m7, .ref m8, .ref m9, .ref m10, .int nm, .int oc, .ref m11, .int ct])), (m1, .inl (cI, 1024, .inl x)), (m2, .inl (cI, 36, .inl t_parts)), (m3, .inl (cI, 65, .inl dd)), (m4, .inl (cI, 65, .inl ss)), (m5, .inl (cI, 29, .inl cn)), (m6, .inl (cI, 261, .inl la)), (m7, .inl (cI, 261, .inl co)), (m8, .inl (cI, 261, .inl le)), (m9, .inl (cI, 261, .inl fr)), (m10, .inl (cI, 29, .inl tr)), (m11, .inl (cI, 29, .inl no))]) hD hS hA [0, 1, 2, 3, 4, 5, 6, 7, 8, 9, 10, 11] rfl
  refine va_callv (va_runV (As := [.int (nI j)]) (rest := []) ⟨hx, hb, hml, hown, hts⟩ (c_X9_lays l D cI cL h m1 m2 m3 m4 m5 m6 m7 m8 m9 m10 m11 n tm thr th un ju ch ba nm oc ct x dd ss cn la co le fr tr no j (by omega) s.heap.size) (cwV 1 hts gX9_laysCandidates_X9_lays rfl rfl rfl (by decide +kernel) ⟨Nat.le_of_ble_eq_true rfl, Nat.le_of_ble_eq_true rfl⟩) ⟨t_wPc_blind, va_recv hK hPc (ci := 9) (q0 := 0) rfl rfl, fun U hU hW => ⟨rfl, by rw [hU], by rw [hU]; exact hPc, va_K.moved hW.alike hK, hDc.weaken (fun _ _ _ _ => trivial)⟩⟩ rfl rfl hl.1 rfl (lv_room (Nat.le_of_ble_eq_true rfl)) dX9_laysCandidates_2 ⟨Nat.le_of_ble_eq_true rfl, Nat.le_of_ble_eq_true rfl⟩) hS (fun q _ h => hFc q h) hFc (fun u_2 t H1 locs ht hvm hw hB hz1 hk1 hS => ?_)
  obtain ⟨hP1, hK1, hD1⟩ := hB
  rw [ht] at hP1
  obtain ⟨f_3, f_4, hw, hp_5⟩ := hw
  have hw : u_2 = [(h, .inr (9, [.int thr, .int (nI n), .ref m1, .int th, .int un, .int ju, .int ch, .int (nI tm), .int ba, .ref m2, .ref m3, .ref m4, .ref m5, .ref m6, .ref m7, .ref m8, .ref m9, .ref m10, .int nm, .int oc, .ref m11, .int ct])), (m1, .inl (cI, 1024, .inl x)), (m2, .inl (cI, 36, .inl t_parts)), (m3, .inl (cI, 65, .inl f_3)), (m4, .inl (cI, 65, .inl f_4)), (m5, .inl (cI, 29, .inl cn)), (m6, .inl (cI, 261, .inl la)), (m7, .inl (cI, 261, .inl co)), (m8, .inl (cI, 261, .inl le)), (m9, .inl (cI, 261, .inl fr)), (m10, .inl (cI, 29, .inl tr)), (m11, .inl (cI, 29, .inl no))] := hw
  subst hw
  have hp_5 : t_mlay x j 64 f_3 f_4 := hp_5
  obtain ⟨hP, hD⟩ := va_join (wr := []) (w1 := [(h, .inr (9, [.int thr, .int (nI n), .ref m1, .int th, .int un, .int ju, .int ch, .int (nI tm), .int ba, .ref m2, .ref m3, .ref m4, .ref m5, .ref m6, .ref m7, .ref m8, .ref m9, .ref m10, .int nm, .int oc, .ref m11, .int ct])), (m1, .inl (cI, 1024, .inl x)), (m2, .inl (cI, 36, .inl t_parts)), (m3, .inl (cI, 65, .inl f_3)), (m4, .inl (cI, 65, .inl f_4)), (m5, .inl (cI, 29, .inl cn)), (m6, .inl (cI, 261, .inl la)), (m7, .inl (cI, 261, .inl co)), (m8, .inl (cI, 261, .inl le)), (m9, .inl (cI, 261, .inl fr)), (m10, .inl (cI, 29, .inl tr)), (m11, .inl (cI, 29, .inl no))]) hP hD [0, 1, 2, 3, 4, 5, 6, 7, 8, 9, 10, 11] [] rfl rfl (by decide +kernel) (by decide +kernel) hk1 hFc hP1 hD1
  clear hP1 hD1 hK1 hPc hDc hFc ht hvm hz1 hk1
  have hP : va_P D vwCl [(h, .inr (9, [.int thr, .int (nI n), .ref m1, .int th, .int un, .int ju, .int ch, .int (nI tm), .int ba, .ref m2, .ref m3, .ref m4, .ref m5, .ref m6, .ref m7, .ref m8, .ref m9, .ref m10, .int nm, .int oc, .ref m11, .int ct])), (m1, .inl (cI, 1024, .inl x)), (m2, .inl (cI, 36, .inl t_parts)), (m3, .inl (cI, 65, .inl f_3)), (m4, .inl (cI, 65, .inl f_4)), (m5, .inl (cI, 29, .inl cn)), (m6, .inl (cI, 261, .inl la)), (m7, .inl (cI, 261, .inl co)), (m8, .inl (cI, 261, .inl le)), (m9, .inl (cI, 261, .inl fr)), (m10, .inl (cI, 29, .inl tr)), (m11, .inl (cI, 29, .inl no))] H1 := hP
  have hD : va_D A [(h, .inr (9, [.int thr, .int (nI n), .ref m1, .int th, .int un, .int ju, .int ch, .int (nI tm), .int ba, .ref m2, .ref m3, .ref m4, .ref m5, .ref m6, .ref m7, .ref m8, .ref m9, .ref m10, .int nm, .int oc, .ref m11, .int ct])), (m1, .inl (cI, 1024, .inl x)), (m2, .inl (cI, 36, .inl t_parts)), (m3, .inl (cI, 65, .inl f_3)), (m4, .inl (cI, 65, .inl f_4)), (m5, .inl (cI, 29, .inl cn)), (m6, .inl (cI, 261, .inl la)), (m7, .inl (cI, 261, .inl co)), (m8, .inl (cI, 261, .inl le)), (m9, .inl (cI, 261, .inl fr)), (m10, .inl (cI, 29, .inl tr)), (m11, .inl (cI, 29, .inl no))] := hD
  generalize H1 = H at hP hS ⊢
  refine lv_aload_n hx hb dX9_laysCandidates_5 rfl (lv_at hl 0 rfl) ?_
  refine va_get (D := D) (ci := 9) (v := .ref m5) (C := RX9) (T := TX9) (N := 22) hx hb hts (fun _ h => List.mem_cons_of_mem _ (List.mem_append_right _ h)) hown hK hP 0 rfl rfl 12 (by decide) (hts (.fieldLink RX9 38 "PitchTrackerModel" "many" "[I") (List.mem_of_getElem? (i := 1) rfl)) (fun _ h9 => h9) rfl dX9_laysCandidates_6 ?_
  refine lv_iload_n hx hb dX9_laysCandidates_9 rfl (lv_at hl 1 rfl) ?_
  refine lv_iconst (v := ((nI 1) : Int32)) hx hb dX9_laysCandidates_10 (by decide +kernel) ?_
  refine tv_iast hx hb hK hP hD hS 5 0 rfl rfl (by omega) (by omega) dX9_laysCandidates_11 (fun H locs hP hD hS => ?_)
  have hP : va_P D vwCl [(h, .inr (9, [.int thr, .int (nI n), .ref m1, .int th, .int un, .int ju, .int ch, .int (nI tm), .int ba, .ref m2, .ref m3, .ref m4, .ref m5, .ref m6, .ref m7, .ref m8, .ref m9, .ref m10, .int nm, .int oc, .ref m11, .int ct])), (m1, .inl (cI, 1024, .inl x)), (m2, .inl (cI, 36, .inl t_parts)), (m3, .inl (cI, 65, .inl f_3)), (m4, .inl (cI, 65, .inl f_4)), (m5, .inl (cI, 29, .inl (upd cn j (nI 1)))), (m6, .inl (cI, 261, .inl la)), (m7, .inl (cI, 261, .inl co)), (m8, .inl (cI, 261, .inl le)), (m9, .inl (cI, 261, .inl fr)), (m10, .inl (cI, 29, .inl tr)), (m11, .inl (cI, 29, .inl no))] H := hP
  have hD : va_D A [(h, .inr (9, [.int thr, .int (nI n), .ref m1, .int th, .int un, .int ju, .int ch, .int (nI tm), .int ba, .ref m2, .ref m3, .ref m4, .ref m5, .ref m6, .ref m7, .ref m8, .ref m9, .ref m10, .int nm, .int oc, .ref m11, .int ct])), (m1, .inl (cI, 1024, .inl x)), (m2, .inl (cI, 36, .inl t_parts)), (m3, .inl (cI, 65, .inl f_3)), (m4, .inl (cI, 65, .inl f_4)), (m5, .inl (cI, 29, .inl (upd cn j (nI 1)))), (m6, .inl (cI, 261, .inl la)), (m7, .inl (cI, 261, .inl co)), (m8, .inl (cI, 261, .inl le)), (m9, .inl (cI, 261, .inl fr)), (m10, .inl (cI, 29, .inl tr)), (m11, .inl (cI, 29, .inl no))] := hD
  refine lv_aload_n hx hb dX9_laysCandidates_12 rfl (lv_at hl 0 rfl) ?_
  refine va_get (D := D) (ci := 9) (v := .ref m6) (C := RX9) (T := TX9) (N := 22) hx hb hts (fun _ h => List.mem_cons_of_mem _ (List.mem_append_right _ h)) hown hK hP 0 rfl rfl 13 (by decide) (hts (.fieldLink RX9 41 "PitchTrackerModel" "lags" "[I") (List.mem_of_getElem? (i := 2) rfl)) (fun _ h9 => h9) rfl dX9_laysCandidates_13 ?_
  refine lv_bipush (v := ((nI 9) : Int32)) hx hb dX9_laysCandidates_16 (by decide +kernel) ?_
  refine lv_iload_n hx hb dX9_laysCandidates_18 rfl (lv_at hl 1 rfl) ?_
  refine tv_imul (a := 9) (b := j) hx hb dX9_laysCandidates_19 ?_
  refine lv_iconst (v := ((nI 0) : Int32)) hx hb dX9_laysCandidates_20 (by decide +kernel) ?_
  refine tv_iast hx hb hK hP hD hS 6 0 rfl rfl (by omega) (by omega) dX9_laysCandidates_21 (fun H locs hP hD hS => ?_)
  have hP : va_P D vwCl [(h, .inr (9, [.int thr, .int (nI n), .ref m1, .int th, .int un, .int ju, .int ch, .int (nI tm), .int ba, .ref m2, .ref m3, .ref m4, .ref m5, .ref m6, .ref m7, .ref m8, .ref m9, .ref m10, .int nm, .int oc, .ref m11, .int ct])), (m1, .inl (cI, 1024, .inl x)), (m2, .inl (cI, 36, .inl t_parts)), (m3, .inl (cI, 65, .inl f_3)), (m4, .inl (cI, 65, .inl f_4)), (m5, .inl (cI, 29, .inl (upd cn j (nI 1)))), (m6, .inl (cI, 261, .inl (upd la (9 * j) (nI 0)))), (m7, .inl (cI, 261, .inl co)), (m8, .inl (cI, 261, .inl le)), (m9, .inl (cI, 261, .inl fr)), (m10, .inl (cI, 29, .inl tr)), (m11, .inl (cI, 29, .inl no))] H := hP
  have hD : va_D A [(h, .inr (9, [.int thr, .int (nI n), .ref m1, .int th, .int un, .int ju, .int ch, .int (nI tm), .int ba, .ref m2, .ref m3, .ref m4, .ref m5, .ref m6, .ref m7, .ref m8, .ref m9, .ref m10, .int nm, .int oc, .ref m11, .int ct])), (m1, .inl (cI, 1024, .inl x)), (m2, .inl (cI, 36, .inl t_parts)), (m3, .inl (cI, 65, .inl f_3)), (m4, .inl (cI, 65, .inl f_4)), (m5, .inl (cI, 29, .inl (upd cn j (nI 1)))), (m6, .inl (cI, 261, .inl (upd la (9 * j) (nI 0)))), (m7, .inl (cI, 261, .inl co)), (m8, .inl (cI, 261, .inl le)), (m9, .inl (cI, 261, .inl fr)), (m10, .inl (cI, 29, .inl tr)), (m11, .inl (cI, 29, .inl no))] := hD
  refine lv_aload_n hx hb dX9_laysCandidates_22 rfl (lv_at hl 0 rfl) ?_
  refine va_get (D := D) (ci := 9) (v := .ref m7) (C := RX9) (T := TX9) (N := 22) hx hb hts (fun _ h => List.mem_cons_of_mem _ (List.mem_append_right _ h)) hown hK hP 0 rfl rfl 14 (by decide) (hts (.fieldLink RX9 44 "PitchTrackerModel" "costs" "[I") (List.mem_of_getElem? (i := 3) rfl)) (fun _ h9 => h9) rfl dX9_laysCandidates_23 ?_
  refine lv_bipush (v := ((nI 9) : Int32)) hx hb dX9_laysCandidates_26 (by decide +kernel) ?_
  refine lv_iload_n hx hb dX9_laysCandidates_28 rfl (lv_at hl 1 rfl) ?_
  refine tv_imul (a := 9) (b := j) hx hb dX9_laysCandidates_29 ?_
  refine lv_aload_n hx hb dX9_laysCandidates_30 rfl (lv_at hl 0 rfl) ?_
  refine va_get (D := D) (ci := 9) (v := .int un) (C := RX9) (T := TX9) (N := 22) hx hb hts (fun _ h => List.mem_cons_of_mem _ (List.mem_append_right _ h)) hown hK hP 0 rfl rfl 4 (by decide) (hts (.fieldLink RX9 17 "PitchTrackerModel" "unvoiced" "I") (List.mem_of_getElem? (i := 4) rfl)) (fun _ h9 => h9) rfl dX9_laysCandidates_31 ?_
  refine tv_iast hx hb hK hP hD hS 7 0 rfl rfl (by omega) (by omega) dX9_laysCandidates_34 (fun H locs hP hD hS => ?_)
  have hP : va_P D vwCl [(h, .inr (9, [.int thr, .int (nI n), .ref m1, .int th, .int un, .int ju, .int ch, .int (nI tm), .int ba, .ref m2, .ref m3, .ref m4, .ref m5, .ref m6, .ref m7, .ref m8, .ref m9, .ref m10, .int nm, .int oc, .ref m11, .int ct])), (m1, .inl (cI, 1024, .inl x)), (m2, .inl (cI, 36, .inl t_parts)), (m3, .inl (cI, 65, .inl f_3)), (m4, .inl (cI, 65, .inl f_4)), (m5, .inl (cI, 29, .inl (upd cn j (nI 1)))), (m6, .inl (cI, 261, .inl (upd la (9 * j) (nI 0)))), (m7, .inl (cI, 261, .inl (upd co (9 * j) un))), (m8, .inl (cI, 261, .inl le)), (m9, .inl (cI, 261, .inl fr)), (m10, .inl (cI, 29, .inl tr)), (m11, .inl (cI, 29, .inl no))] H := hP
  have hD : va_D A [(h, .inr (9, [.int thr, .int (nI n), .ref m1, .int th, .int un, .int ju, .int ch, .int (nI tm), .int ba, .ref m2, .ref m3, .ref m4, .ref m5, .ref m6, .ref m7, .ref m8, .ref m9, .ref m10, .int nm, .int oc, .ref m11, .int ct])), (m1, .inl (cI, 1024, .inl x)), (m2, .inl (cI, 36, .inl t_parts)), (m3, .inl (cI, 65, .inl f_3)), (m4, .inl (cI, 65, .inl f_4)), (m5, .inl (cI, 29, .inl (upd cn j (nI 1)))), (m6, .inl (cI, 261, .inl (upd la (9 * j) (nI 0)))), (m7, .inl (cI, 261, .inl (upd co (9 * j) un))), (m8, .inl (cI, 261, .inl le)), (m9, .inl (cI, 261, .inl fr)), (m10, .inl (cI, 29, .inl tr)), (m11, .inl (cI, 29, .inl no))] := hD
  refine lv_iconst (v := ((nI 2) : Int32)) hx hb dX9_laysCandidates_35 (by decide +kernel) ?_
  refine lv_istore_n (lv' := [(2, .int (nI 2)), (0, .ref h), (1, .int (nI j))]) hx hb dX9_laysCandidates_36 rfl hl (by decide) rfl (fun ls hl => ?_)
  have hnn := t_mlay_nn hp_5 hbx hjn
  have loop_6 : ∀ (n_8 : Nat) (i : Nat) (c1 : Nat → Int32) (l1 : Nat → Int32) (o1 : Nat → Int32) (hm_9 : 62 - i < n_8) (hi : i ≤ 62) (hv : t_lcq x un j (t_cl (t_cand (t_df x j) (t_sm x j) th) i) cn la co c1 l1 o1) (H : Heap) (locs : List Loc) (hP : va_P D vwCl [(h, .inr (9, [.int thr, .int (nI n), .ref m1, .int th, .int un, .int ju, .int ch, .int (nI tm), .int ba, .ref m2, .ref m3, .ref m4, .ref m5, .ref m6, .ref m7, .ref m8, .ref m9, .ref m10, .int nm, .int oc, .ref m11, .int ct])), (m1, .inl (cI, 1024, .inl x)), (m2, .inl (cI, 36, .inl t_parts)), (m3, .inl (cI, 65, .inl f_3)), (m4, .inl (cI, 65, .inl f_4)), (m5, .inl (cI, 29, .inl c1)), (m6, .inl (cI, 261, .inl l1)), (m7, .inl (cI, 261, .inl o1)), (m8, .inl (cI, 261, .inl le)), (m9, .inl (cI, 261, .inl fr)), (m10, .inl (cI, 29, .inl tr)), (m11, .inl (cI, 29, .inl no))] H) (hD : va_D A [(h, .inr (9, [.int thr, .int (nI n), .ref m1, .int th, .int un, .int ju, .int ch, .int (nI tm), .int ba, .ref m2, .ref m3, .ref m4, .ref m5, .ref m6, .ref m7, .ref m8, .ref m9, .ref m10, .int nm, .int oc, .ref m11, .int ct])), (m1, .inl (cI, 1024, .inl x)), (m2, .inl (cI, 36, .inl t_parts)), (m3, .inl (cI, 65, .inl f_3)), (m4, .inl (cI, 65, .inl f_4)), (m5, .inl (cI, 29, .inl c1)), (m6, .inl (cI, 261, .inl l1)), (m7, .inl (cI, 261, .inl o1)), (m8, .inl (cI, 261, .inl le)), (m9, .inl (cI, 261, .inl fr)), (m10, .inl (cI, 29, .inl tr)), (m11, .inl (cI, 29, .inl no))]) (hS : va_S A s.heap H locs) (ls : Array Slot) (hl : lv_has ls 3 [(2, .int (nI (i + 2))), (0, .ref h), (1, .int (nI j))]), W p l e ({ frames := 3, cells := 0, slots := 0, locals := 120 }) s m ([.ref h, .int (nI j)] : List Value).toArray below meth c H locs 0 0 (MQ below (t_Qv D cI cL (fun w1 => ∃ d2 : Nat → Int32, ∃ s2 : Nat → Int32, ∃ c2 : Nat → Int32, ∃ l2 : Nat → Int32, ∃ o2 : Nat → Int32, w1 = [(h, .inr (9, [.int thr, .int (nI n), .ref m1, .int th, .int un, .int ju, .int ch, .int (nI tm), .int ba, .ref m2, .ref m3, .ref m4, .ref m5, .ref m6, .ref m7, .ref m8, .ref m9, .ref m10, .int nm, .int oc, .ref m11, .int ct])), (m1, .inl (cI, 1024, .inl x)), (m2, .inl (cI, 36, .inl t_parts)), (m3, .inl (cI, 65, .inl d2)), (m4, .inl (cI, 65, .inl s2)), (m5, .inl (cI, 29, .inl c2)), (m6, .inl (cI, 261, .inl l2)), (m7, .inl (cI, 261, .inl o2)), (m8, .inl (cI, 261, .inl le)), (m9, .inl (cI, 261, .inl fr)), (m10, .inl (cI, 29, .inl tr)), (m11, .inl (cI, 29, .inl no))] ∧ t_mlay x j 64 d2 s2 ∧ t_lcq x un j (t_cs (t_df x j) (t_sm x j) th) cn la co c2 l2 o2) A) ([.ref h, .int (nI j)] : List Value).toArray s 0 0 A) (F0 m 37 ls []) := by
    intro n_8
    induction n_8 with
    | zero => intro i c1 l1 o1 hm_9; exact absurd hm_9 (Nat.not_lt_zero _)
    | succ n_8 ih_7 =>
      intro i c1 l1 o1 hm_9 hi hv H locs hP hD hS ls hl
      refine lv_iload_n hx hb dX9_laysCandidates_37 rfl (lv_at hl 0 rfl) ?_
      refine lv_bipush (v := ((nI 64) : Int32)) hx hb dX9_laysCandidates_38 (by decide +kernel) ?_
      refine tv_icmp_ge (tgt := 116) hx hb dX9_laysCandidates_40 (by decide) (by omega) (by omega) (fun q40_10 => ?_) (fun q40_10 => ?_)
      · have hP9 := hP
        have hD9 := hD
        exact W.vret hx hb hr (fun t ht hW => ⟨⟨[(h, .inr (9, [.int thr, .int (nI n), .ref m1, .int th, .int un, .int ju, .int ch, .int (nI tm), .int ba, .ref m2, .ref m3, .ref m4, .ref m5, .ref m6, .ref m7, .ref m8, .ref m9, .ref m10, .int nm, .int oc, .ref m11, .int ct])), (m1, .inl (cI, 1024, .inl x)), (m2, .inl (cI, 36, .inl t_parts)), (m3, .inl (cI, 65, .inl f_3)), (m4, .inl (cI, 65, .inl f_4)), (m5, .inl (cI, 29, .inl c1)), (m6, .inl (cI, 261, .inl l1)), (m7, .inl (cI, 261, .inl o1)), (m8, .inl (cI, 261, .inl le)), (m9, .inl (cI, 261, .inl fr)), (m10, .inl (cI, 29, .inl tr)), (m11, .inl (cI, 29, .inl no))], rfl, ⟨f_3, f_4, c1, l1, o1, rfl, hp_5, (by obtain rfl : i = 62 := (by omega); exact hv)⟩, ⟨by rw [ht]; exact hP9, va_K.moved hW.alike hK, hD9⟩⟩, hS.F ht⟩) hS.2.2 dX9_laysCandidates_116 hlocks
      · have hlen := t_cl_le (t_cand (t_df x j) (t_sm x j) th) i
        refine lv_aload_n hx hb dX9_laysCandidates_43 rfl (lv_at hl 1 rfl) ?_
        refine va_get (D := D) (ci := 9) (v := .ref m5) (C := RX9) (T := TX9) (N := 22) hx hb hts (fun _ h => List.mem_cons_of_mem _ (List.mem_append_right _ h)) hown hK hP 0 rfl rfl 12 (by decide) (hts (.fieldLink RX9 38 "PitchTrackerModel" "many" "[I") (List.mem_of_getElem? (i := 1) rfl)) (fun _ h9 => h9) rfl dX9_laysCandidates_44 ?_
        refine lv_iload_n hx hb dX9_laysCandidates_47 rfl (lv_at hl 2 rfl) ?_
        refine tv_iald hx hb hK hP 5 0 rfl rfl (by omega) (by omega) dX9_laysCandidates_48 ?_
        refine tv_re (y := (nI ((t_cl (t_cand (t_df x j) (t_sm x j) th) i).length + 1))) hv.2.2.1 ?_
        refine lv_bipush (v := ((nI 9) : Int32)) hx hb dX9_laysCandidates_49 (by decide +kernel) ?_
        refine tv_icmp_ge (tgt := 116) hx hb dX9_laysCandidates_51 (by decide) (by omega) (by omega) (fun q51_11 => ?_) (fun q51_11 => ?_)
        · have hP9 := hP
          have hD9 := hD
          exact W.vret hx hb hr (fun t ht hW => ⟨⟨[(h, .inr (9, [.int thr, .int (nI n), .ref m1, .int th, .int un, .int ju, .int ch, .int (nI tm), .int ba, .ref m2, .ref m3, .ref m4, .ref m5, .ref m6, .ref m7, .ref m8, .ref m9, .ref m10, .int nm, .int oc, .ref m11, .int ct])), (m1, .inl (cI, 1024, .inl x)), (m2, .inl (cI, 36, .inl t_parts)), (m3, .inl (cI, 65, .inl f_3)), (m4, .inl (cI, 65, .inl f_4)), (m5, .inl (cI, 29, .inl c1)), (m6, .inl (cI, 261, .inl l1)), (m7, .inl (cI, 261, .inl o1)), (m8, .inl (cI, 261, .inl le)), (m9, .inl (cI, 261, .inl fr)), (m10, .inl (cI, 29, .inl tr)), (m11, .inl (cI, 29, .inl no))], rfl, ⟨f_3, f_4, c1, l1, o1, rfl, hp_5, (by rw [t_cs_full (i := i) (by omega) (by omega)]; exact hv)⟩, ⟨by rw [ht]; exact hP9, va_K.moved hW.alike hK, hD9⟩⟩, hS.F ht⟩) hS.2.2 dX9_laysCandidates_116 hlocks
        · refine lv_aload_n hx hb dX9_laysCandidates_54 rfl (lv_at hl 1 rfl) ?_
          refine lv_iload_n hx hb dX9_laysCandidates_55 rfl (lv_at hl 0 rfl) ?_
          have hPc := hP.sub (ws' := [(h, .inr (9, [.int thr, .int (nI n), .ref m1, .int th, .int un, .int ju, .int ch, .int (nI tm), .int ba, .ref m2, .ref m3, .ref m4, .ref m5, .ref m6, .ref m7, .ref m8, .ref m9, .ref m10, .int nm, .int oc, .ref m11, .int ct])), (m1, .inl (cI, 1024, .inl x)), (m2, .inl (cI, 36, .inl t_parts)), (m3, .inl (cI, 65, .inl f_3)), (m4, .inl (cI, 65, .inl f_4)), (m5, .inl (cI, 29, .inl c1)), (m6, .inl (cI, 261, .inl l1)), (m7, .inl (cI, 261, .inl o1)), (m8, .inl (cI, 261, .inl le)), (m9, .inl (cI, 261, .inl fr)), (m10, .inl (cI, 29, .inl tr)), (m11, .inl (cI, 29, .inl no))]) [0, 1, 2, 3, 4, 5, 6, 7, 8, 9, 10, 11] rfl
          refine vp_callSi (W.runV (As := [.int (nI (i + 2))]) (rest := []) ⟨hx, hb, hml, hown, hts⟩ (c_X9_isCandidate l D cI cL h m1 m2 m3 m4 m5 m6 m7 m8 m9 m10 m11 n tm thr th un ju ch ba nm oc ct x f_3 f_4 c1 l1 o1 le fr tr no (i + 2) (by omega) (by omega) hnn) (cwV 1 hts gX9_laysCandidates_X9_isCandidate rfl rfl rfl (by decide +kernel) ⟨Nat.le_of_ble_eq_true rfl, Nat.le_of_ble_eq_true rfl⟩) ⟨t_rPc_blind, va_recv hK hPc (ci := 9) (q0 := 0) rfl rfl, fun U hU hW => ⟨rfl, by rw [hU]; exact hPc, va_K.moved hW.alike hK⟩⟩ rfl rfl hl.1 rfl (lv_room (Nat.le_of_ble_eq_true rfl)) dX9_laysCandidates_56 ⟨Nat.le_of_ble_eq_true rfl, Nat.le_of_ble_eq_true rfl⟩) (fun r_12 hr_12 => ?_)
          subst hr_12
          refine tv_if_eqB (tgt := 110) hx hb dX9_laysCandidates_59 (by decide) (fun q59_13 => ?_) (fun q59_13 => ?_)
          · refine lv_iinc (v := (nI (i + 2 + 1))) (lv' := [(2, .int (nI (i + 2 + 1))), (0, .ref h), (1, .int (nI j))]) hx hb dX9_laysCandidates_110 hl (k := 0) rfl (nI_add (i + 2) 1) (by decide) rfl (fun ls hl => ?_)
            refine lv_goto (tgt := 37) hx hb dX9_laysCandidates_113 (by decide) ?_
            exact ih_7 (i + 1) c1 l1 o1 (by omega) (by omega) (by rw [t_cl_n (by rw [← t_mlay_cand hp_5 (by omega) (by omega)]; exact q59_13)]; exact hv) _ _ (hP.sub [0, 1, 2, 3, 4, 5, 6, 7, 8, 9, 10, 11] rfl) (hD.sub [0, 1, 2, 3, 4, 5, 6, 7, 8, 9, 10, 11] (by decide +kernel) rfl) hS _ (lv_sub hl [0, 1, 2] rfl)
          · refine lv_aload_n hx hb dX9_laysCandidates_62 rfl (lv_at hl 1 rfl) ?_
            refine va_get (D := D) (ci := 9) (v := .ref m6) (C := RX9) (T := TX9) (N := 22) hx hb hts (fun _ h => List.mem_cons_of_mem _ (List.mem_append_right _ h)) hown hK hP 0 rfl rfl 13 (by decide) (hts (.fieldLink RX9 41 "PitchTrackerModel" "lags" "[I") (List.mem_of_getElem? (i := 2) rfl)) (fun _ h9 => h9) rfl dX9_laysCandidates_63 ?_
            refine lv_bipush (v := ((nI 9) : Int32)) hx hb dX9_laysCandidates_66 (by decide +kernel) ?_
            refine lv_iload_n hx hb dX9_laysCandidates_68 rfl (lv_at hl 2 rfl) ?_
            refine tv_imul (a := 9) (b := j) hx hb dX9_laysCandidates_69 ?_
            refine lv_aload_n hx hb dX9_laysCandidates_70 rfl (lv_at hl 1 rfl) ?_
            refine va_get (D := D) (ci := 9) (v := .ref m5) (C := RX9) (T := TX9) (N := 22) hx hb hts (fun _ h => List.mem_cons_of_mem _ (List.mem_append_right _ h)) hown hK hP 0 rfl rfl 12 (by decide) (hts (.fieldLink RX9 38 "PitchTrackerModel" "many" "[I") (List.mem_of_getElem? (i := 1) rfl)) (fun _ h9 => h9) rfl dX9_laysCandidates_71 ?_
            refine lv_iload_n hx hb dX9_laysCandidates_74 rfl (lv_at hl 2 rfl) ?_
            refine tv_iald hx hb hK hP 5 0 rfl rfl (by omega) (by omega) dX9_laysCandidates_75 ?_
            refine tv_re (y := (nI ((t_cl (t_cand (t_df x j) (t_sm x j) th) i).length + 1))) hv.2.2.1 ?_
            refine tv_iadd (a := 9 * j) (b := (t_cl (t_cand (t_df x j) (t_sm x j) th) i).length + 1) hx hb dX9_laysCandidates_76 ?_
            refine lv_iload_n hx hb dX9_laysCandidates_77 rfl (lv_at hl 0 rfl) ?_
            refine tv_iast hx hb hK hP hD hS 6 0 rfl rfl (by omega) (by omega) dX9_laysCandidates_78 (fun H locs hP hD hS => ?_)
            have hP : va_P D vwCl [(h, .inr (9, [.int thr, .int (nI n), .ref m1, .int th, .int un, .int ju, .int ch, .int (nI tm), .int ba, .ref m2, .ref m3, .ref m4, .ref m5, .ref m6, .ref m7, .ref m8, .ref m9, .ref m10, .int nm, .int oc, .ref m11, .int ct])), (m1, .inl (cI, 1024, .inl x)), (m2, .inl (cI, 36, .inl t_parts)), (m3, .inl (cI, 65, .inl f_3)), (m4, .inl (cI, 65, .inl f_4)), (m5, .inl (cI, 29, .inl c1)), (m6, .inl (cI, 261, .inl (upd l1 ((9 * j) + ((t_cl (t_cand (t_df x j) (t_sm x j) th) i).length + 1)) (nI (i + 2))))), (m7, .inl (cI, 261, .inl o1)), (m8, .inl (cI, 261, .inl le)), (m9, .inl (cI, 261, .inl fr)), (m10, .inl (cI, 29, .inl tr)), (m11, .inl (cI, 29, .inl no))] H := hP
            have hD : va_D A [(h, .inr (9, [.int thr, .int (nI n), .ref m1, .int th, .int un, .int ju, .int ch, .int (nI tm), .int ba, .ref m2, .ref m3, .ref m4, .ref m5, .ref m6, .ref m7, .ref m8, .ref m9, .ref m10, .int nm, .int oc, .ref m11, .int ct])), (m1, .inl (cI, 1024, .inl x)), (m2, .inl (cI, 36, .inl t_parts)), (m3, .inl (cI, 65, .inl f_3)), (m4, .inl (cI, 65, .inl f_4)), (m5, .inl (cI, 29, .inl c1)), (m6, .inl (cI, 261, .inl (upd l1 ((9 * j) + ((t_cl (t_cand (t_df x j) (t_sm x j) th) i).length + 1)) (nI (i + 2))))), (m7, .inl (cI, 261, .inl o1)), (m8, .inl (cI, 261, .inl le)), (m9, .inl (cI, 261, .inl fr)), (m10, .inl (cI, 29, .inl tr)), (m11, .inl (cI, 29, .inl no))] := hD
            refine lv_aload_n hx hb dX9_laysCandidates_79 rfl (lv_at hl 1 rfl) ?_
            refine va_get (D := D) (ci := 9) (v := .ref m7) (C := RX9) (T := TX9) (N := 22) hx hb hts (fun _ h => List.mem_cons_of_mem _ (List.mem_append_right _ h)) hown hK hP 0 rfl rfl 14 (by decide) (hts (.fieldLink RX9 44 "PitchTrackerModel" "costs" "[I") (List.mem_of_getElem? (i := 3) rfl)) (fun _ h9 => h9) rfl dX9_laysCandidates_80 ?_
            refine lv_bipush (v := ((nI 9) : Int32)) hx hb dX9_laysCandidates_83 (by decide +kernel) ?_
            refine lv_iload_n hx hb dX9_laysCandidates_85 rfl (lv_at hl 2 rfl) ?_
            refine tv_imul (a := 9) (b := j) hx hb dX9_laysCandidates_86 ?_
            refine lv_aload_n hx hb dX9_laysCandidates_87 rfl (lv_at hl 1 rfl) ?_
            refine va_get (D := D) (ci := 9) (v := .ref m5) (C := RX9) (T := TX9) (N := 22) hx hb hts (fun _ h => List.mem_cons_of_mem _ (List.mem_append_right _ h)) hown hK hP 0 rfl rfl 12 (by decide) (hts (.fieldLink RX9 38 "PitchTrackerModel" "many" "[I") (List.mem_of_getElem? (i := 1) rfl)) (fun _ h9 => h9) rfl dX9_laysCandidates_88 ?_
            refine lv_iload_n hx hb dX9_laysCandidates_91 rfl (lv_at hl 2 rfl) ?_
            refine tv_iald hx hb hK hP 5 0 rfl rfl (by omega) (by omega) dX9_laysCandidates_92 ?_
            refine tv_re (y := (nI ((t_cl (t_cand (t_df x j) (t_sm x j) th) i).length + 1))) hv.2.2.1 ?_
            refine tv_iadd (a := 9 * j) (b := (t_cl (t_cand (t_df x j) (t_sm x j) th) i).length + 1) hx hb dX9_laysCandidates_93 ?_
            refine lv_aload_n hx hb dX9_laysCandidates_94 rfl (lv_at hl 1 rfl) ?_
            refine lv_iload_n hx hb dX9_laysCandidates_95 rfl (lv_at hl 0 rfl) ?_
            have hPc := hP.sub (ws' := [(h, .inr (9, [.int thr, .int (nI n), .ref m1, .int th, .int un, .int ju, .int ch, .int (nI tm), .int ba, .ref m2, .ref m3, .ref m4, .ref m5, .ref m6, .ref m7, .ref m8, .ref m9, .ref m10, .int nm, .int oc, .ref m11, .int ct])), (m1, .inl (cI, 1024, .inl x)), (m2, .inl (cI, 36, .inl t_parts)), (m3, .inl (cI, 65, .inl f_3)), (m4, .inl (cI, 65, .inl f_4)), (m5, .inl (cI, 29, .inl c1)), (m6, .inl (cI, 261, .inl ((upd l1 ((9 * j) + ((t_cl (t_cand (t_df x j) (t_sm x j) th) i).length + 1)) (nI (i + 2)))))), (m7, .inl (cI, 261, .inl o1)), (m8, .inl (cI, 261, .inl le)), (m9, .inl (cI, 261, .inl fr)), (m10, .inl (cI, 29, .inl tr)), (m11, .inl (cI, 29, .inl no))]) [0, 1, 2, 3, 4, 5, 6, 7, 8, 9, 10, 11] rfl
            refine vp_callSi (W.runV (As := [.int (nI (i + 2))]) (rest := [.int (nI ((9 * j) + ((t_cl (t_cand (t_df x j) (t_sm x j) th) i).length + 1))), .ref m7]) ⟨hx, hb, hml, hown, hts⟩ (c_X9_mean l D cI cL h m1 m2 m3 m4 m5 m6 m7 m8 m9 m10 m11 n tm thr th un ju ch ba nm oc ct x f_3 f_4 c1 (upd l1 ((9 * j) + ((t_cl (t_cand (t_df x j) (t_sm x j) th) i).length + 1)) (nI (i + 2))) o1 le fr tr no (i + 2) (by omega) hnn) (cwV 1 hts gX9_laysCandidates_X9_mean rfl rfl rfl (by decide +kernel) ⟨Nat.le_of_ble_eq_true rfl, Nat.le_of_ble_eq_true rfl⟩) ⟨t_rPc_blind, va_recv hK hPc (ci := 9) (q0 := 0) rfl rfl, fun U hU hW => ⟨rfl, by rw [hU]; exact hPc, va_K.moved hW.alike hK⟩⟩ rfl rfl hl.1 rfl (lv_room (Nat.le_of_ble_eq_true rfl)) dX9_laysCandidates_96 ⟨Nat.le_of_ble_eq_true rfl, Nat.le_of_ble_eq_true rfl⟩) (fun r_14 hr_14 => ?_)
            subst hr_14
            refine tv_re (y := (t_mean (t_df x j) (t_sm x j) (i + 2))) (t_mlay_mean hp_5 (by omega) (by omega)) ?_
            refine tv_iast hx hb hK hP hD hS 7 0 rfl rfl (by omega) (by omega) dX9_laysCandidates_99 (fun H locs hP hD hS => ?_)
            have hP : va_P D vwCl [(h, .inr (9, [.int thr, .int (nI n), .ref m1, .int th, .int un, .int ju, .int ch, .int (nI tm), .int ba, .ref m2, .ref m3, .ref m4, .ref m5, .ref m6, .ref m7, .ref m8, .ref m9, .ref m10, .int nm, .int oc, .ref m11, .int ct])), (m1, .inl (cI, 1024, .inl x)), (m2, .inl (cI, 36, .inl t_parts)), (m3, .inl (cI, 65, .inl f_3)), (m4, .inl (cI, 65, .inl f_4)), (m5, .inl (cI, 29, .inl c1)), (m6, .inl (cI, 261, .inl (upd l1 ((9 * j) + ((t_cl (t_cand (t_df x j) (t_sm x j) th) i).length + 1)) (nI (i + 2))))), (m7, .inl (cI, 261, .inl (upd o1 ((9 * j) + ((t_cl (t_cand (t_df x j) (t_sm x j) th) i).length + 1)) (t_mean (t_df x j) (t_sm x j) (i + 2))))), (m8, .inl (cI, 261, .inl le)), (m9, .inl (cI, 261, .inl fr)), (m10, .inl (cI, 29, .inl tr)), (m11, .inl (cI, 29, .inl no))] H := hP
            have hD : va_D A [(h, .inr (9, [.int thr, .int (nI n), .ref m1, .int th, .int un, .int ju, .int ch, .int (nI tm), .int ba, .ref m2, .ref m3, .ref m4, .ref m5, .ref m6, .ref m7, .ref m8, .ref m9, .ref m10, .int nm, .int oc, .ref m11, .int ct])), (m1, .inl (cI, 1024, .inl x)), (m2, .inl (cI, 36, .inl t_parts)), (m3, .inl (cI, 65, .inl f_3)), (m4, .inl (cI, 65, .inl f_4)), (m5, .inl (cI, 29, .inl c1)), (m6, .inl (cI, 261, .inl (upd l1 ((9 * j) + ((t_cl (t_cand (t_df x j) (t_sm x j) th) i).length + 1)) (nI (i + 2))))), (m7, .inl (cI, 261, .inl (upd o1 ((9 * j) + ((t_cl (t_cand (t_df x j) (t_sm x j) th) i).length + 1)) (t_mean (t_df x j) (t_sm x j) (i + 2))))), (m8, .inl (cI, 261, .inl le)), (m9, .inl (cI, 261, .inl fr)), (m10, .inl (cI, 29, .inl tr)), (m11, .inl (cI, 29, .inl no))] := hD
            refine lv_aload_n hx hb dX9_laysCandidates_100 rfl (lv_at hl 1 rfl) ?_
            refine va_get (D := D) (ci := 9) (v := .ref m5) (C := RX9) (T := TX9) (N := 22) hx hb hts (fun _ h => List.mem_cons_of_mem _ (List.mem_append_right _ h)) hown hK hP 0 rfl rfl 12 (by decide) (hts (.fieldLink RX9 38 "PitchTrackerModel" "many" "[I") (List.mem_of_getElem? (i := 1) rfl)) (fun _ h9 => h9) rfl dX9_laysCandidates_101 ?_
            refine lv_iload_n hx hb dX9_laysCandidates_104 rfl (lv_at hl 2 rfl) ?_
            refine lv_dup2_11 hx hb dX9_laysCandidates_105 rfl rfl ?_
            refine tv_iald hx hb hK hP 5 0 rfl rfl (by omega) (by omega) dX9_laysCandidates_106 ?_
            refine tv_re (y := (nI ((t_cl (t_cand (t_df x j) (t_sm x j) th) i).length + 1))) hv.2.2.1 ?_
            refine lv_iconst (v := ((nI 1) : Int32)) hx hb dX9_laysCandidates_107 (by decide +kernel) ?_
            refine tv_iadd (a := (t_cl (t_cand (t_df x j) (t_sm x j) th) i).length + 1) (b := 1) hx hb dX9_laysCandidates_108 ?_
            refine tv_iast hx hb hK hP hD hS 5 0 rfl rfl (by omega) (by omega) dX9_laysCandidates_109 (fun H locs hP hD hS => ?_)
            have hP : va_P D vwCl [(h, .inr (9, [.int thr, .int (nI n), .ref m1, .int th, .int un, .int ju, .int ch, .int (nI tm), .int ba, .ref m2, .ref m3, .ref m4, .ref m5, .ref m6, .ref m7, .ref m8, .ref m9, .ref m10, .int nm, .int oc, .ref m11, .int ct])), (m1, .inl (cI, 1024, .inl x)), (m2, .inl (cI, 36, .inl t_parts)), (m3, .inl (cI, 65, .inl f_3)), (m4, .inl (cI, 65, .inl f_4)), (m5, .inl (cI, 29, .inl (upd c1 j (nI (((t_cl (t_cand (t_df x j) (t_sm x j) th) i).length + 1) + 1))))), (m6, .inl (cI, 261, .inl (upd l1 ((9 * j) + ((t_cl (t_cand (t_df x j) (t_sm x j) th) i).length + 1)) (nI (i + 2))))), (m7, .inl (cI, 261, .inl (upd o1 ((9 * j) + ((t_cl (t_cand (t_df x j) (t_sm x j) th) i).length + 1)) (t_mean (t_df x j) (t_sm x j) (i + 2))))), (m8, .inl (cI, 261, .inl le)), (m9, .inl (cI, 261, .inl fr)), (m10, .inl (cI, 29, .inl tr)), (m11, .inl (cI, 29, .inl no))] H := hP
            have hD : va_D A [(h, .inr (9, [.int thr, .int (nI n), .ref m1, .int th, .int un, .int ju, .int ch, .int (nI tm), .int ba, .ref m2, .ref m3, .ref m4, .ref m5, .ref m6, .ref m7, .ref m8, .ref m9, .ref m10, .int nm, .int oc, .ref m11, .int ct])), (m1, .inl (cI, 1024, .inl x)), (m2, .inl (cI, 36, .inl t_parts)), (m3, .inl (cI, 65, .inl f_3)), (m4, .inl (cI, 65, .inl f_4)), (m5, .inl (cI, 29, .inl (upd c1 j (nI (((t_cl (t_cand (t_df x j) (t_sm x j) th) i).length + 1) + 1))))), (m6, .inl (cI, 261, .inl (upd l1 ((9 * j) + ((t_cl (t_cand (t_df x j) (t_sm x j) th) i).length + 1)) (nI (i + 2))))), (m7, .inl (cI, 261, .inl (upd o1 ((9 * j) + ((t_cl (t_cand (t_df x j) (t_sm x j) th) i).length + 1)) (t_mean (t_df x j) (t_sm x j) (i + 2))))), (m8, .inl (cI, 261, .inl le)), (m9, .inl (cI, 261, .inl fr)), (m10, .inl (cI, 29, .inl tr)), (m11, .inl (cI, 29, .inl no))] := hD
            refine lv_iinc (v := (nI (i + 2 + 1))) (lv' := [(2, .int (nI (i + 2 + 1))), (0, .ref h), (1, .int (nI j))]) hx hb dX9_laysCandidates_110 hl (k := 0) rfl (nI_add (i + 2) 1) (by decide) rfl (fun ls hl => ?_)
            refine lv_goto (tgt := 37) hx hb dX9_laysCandidates_113 (by decide) ?_
            exact ih_7 (i + 1) (upd c1 j (nI (((t_cl (t_cand (t_df x j) (t_sm x j) th) i).length + 1) + 1))) (upd l1 ((9 * j) + ((t_cl (t_cand (t_df x j) (t_sm x j) th) i).length + 1)) (nI (i + 2))) (upd o1 ((9 * j) + ((t_cl (t_cand (t_df x j) (t_sm x j) th) i).length + 1)) (t_mean (t_df x j) (t_sm x j) (i + 2))) (by omega) (by omega) (by rw [t_cl_y (by omega) (by rw [← t_mlay_cand hp_5 (by omega) (by omega)]; exact q59_13)]; exact t_lcq_s hv (by omega)) _ _ (hP.sub [0, 1, 2, 3, 4, 5, 6, 7, 8, 9, 10, 11] rfl) (hD.sub [0, 1, 2, 3, 4, 5, 6, 7, 8, 9, 10, 11] (by decide +kernel) rfl) hS _ (lv_sub hl [0, 1, 2] rfl)
  exact loop_6 (62 - 0 + 1) 0 (upd cn j (nI 1)) (upd la (9 * j) (nI 0)) (upd co (9 * j) un) (Nat.lt_succ_self _) (Nat.zero_le _) t_lcq_0 _ _ (hP.sub [0, 1, 2, 3, 4, 5, 6, 7, 8, 9, 10, 11] rfl) (hD.sub [0, 1, 2, 3, 4, 5, 6, 7, 8, 9, 10, 11] (by decide +kernel) rfl) hS _ (lv_sub hl [0, 1, 2] rfl)

set_option maxHeartbeats 4000000 in
set_option maxRecDepth 100000 in
theorem c_X9_step (l : Launch) (D : va_G) (cI cL : ClassId) (h m1 m2 m3 m4 m5 m6 m7 m8 m9 m10 m11 n tm : Nat) (thr th un ju ch ba nm oc ct : Int32) (x dd ss cn la co le fr tr no : Nat → Int32) (a b : Nat) (ha : a ≤ 63) (hb0 : b ≤ 63) : Met l yX9_step wsX9_step ({ frames := 0, cells := 0, slots := 0, locals := 0 }) (t_rPc D cI cL [.ref h, .int (nI a), .int (nI b)] [(h, .inr (9, [.int thr, .int (nI n), .ref m1, .int th, .int un, .int ju, .int ch, .int (nI tm), .int ba, .ref m2, .ref m3, .ref m4, .ref m5, .ref m6, .ref m7, .ref m8, .ref m9, .ref m10, .int nm, .int oc, .ref m11, .int ct])), (m1, .inl (cI, 1024, .inl x)), (m2, .inl (cI, 36, .inl t_parts)), (m3, .inl (cI, 65, .inl dd)), (m4, .inl (cI, 65, .inl ss)), (m5, .inl (cI, 29, .inl cn)), (m6, .inl (cI, 261, .inl la)), (m7, .inl (cI, 261, .inl co)), (m8, .inl (cI, 261, .inl le)), (m9, .inl (cI, 261, .inl fr)), (m10, .inl (cI, 29, .inl tr)), (m11, .inl (cI, 29, .inl no))]) (vp_Si (fun r => r = (t_stp ju ch a b))) 0 0 (fun _ => False) := by
  refine t_ofR (by decide) rfl (Nat.le_of_ble_eq_true rfl) ?_
  intro p e s m below meth c ls hx hb hml hown hts hr hlocks hK hP hl
  have hown : s.vm.findClass RX9 = some m.cls := hown
  have hl : lv_has ls 3 [(0, .ref h), (1, .int (nI a)), (2, .int (nI b))] := hl
  refine lv_iload_n hx hb dX9_step_0 rfl (lv_at hl 1 rfl) ?_
  refine tv_if_le (tgt := 30) hx hb dX9_step_1 (by decide) (by omega) (fun q1_1 => ?_) (fun q1_1 => ?_)
  · refine lv_iload_n hx hb dX9_step_30 rfl (lv_at hl 1 rfl) ?_
    refine tv_if_gt (tgt := 38) hx hb dX9_step_31 (by decide) (by omega) (fun q31_2 => absurd q31_2 (by omega)) (fun q31_2 => ?_)
    refine lv_iload_n hx hb dX9_step_34 rfl (lv_at hl 2 rfl) ?_
    refine tv_if_le (tgt := 45) hx hb dX9_step_35 (by decide) (by omega) (fun q35_3 => ?_) (fun q35_3 => ?_)
    · refine lv_iconst (v := ((nI 0) : Int32)) hx hb dX9_step_45 (by decide +kernel) ?_
      exact W.iret (v := (nI 0)) hx hb hr (fun t ht hW => ⟨_, rfl, (t_stp_0 q1_1 q35_3), ht⟩) (fun q h => by cases h) dX9_step_46 hlocks
    · refine lv_aload_n hx hb dX9_step_38 rfl (lv_at hl 0 rfl) ?_
      refine va_get (D := D) (ci := 9) (v := .int ch) (C := RX9) (T := TX9) (N := 22) hx hb hts (fun _ h => List.mem_cons_of_mem _ (List.mem_append_right _ h)) hown hK hP 0 rfl rfl 6 (by decide) (hts (.fieldLink RX9 23 "PitchTrackerModel" "change" "I") (List.mem_of_getElem? (i := 2) rfl)) (fun _ h9 => h9) rfl dX9_step_39 ?_
      refine lv_goto (tgt := 46) hx hb dX9_step_42 (by decide) ?_
      exact W.iret (v := ch) hx hb hr (fun t ht hW => ⟨_, rfl, (t_stp_1 (by omega) (by omega)), ht⟩) (fun q h => by cases h) dX9_step_46 hlocks
  · refine lv_iload_n hx hb dX9_step_4 rfl (lv_at hl 2 rfl) ?_
    refine tv_if_le (tgt := 30) hx hb dX9_step_5 (by decide) (by omega) (fun q5_4 => ?_) (fun q5_4 => ?_)
    · refine lv_iload_n hx hb dX9_step_30 rfl (lv_at hl 1 rfl) ?_
      refine tv_if_gt (tgt := 38) hx hb dX9_step_31 (by decide) (by omega) (fun q31_5 => ?_) (fun q31_5 => absurd q31_5 (by omega))
      refine lv_aload_n hx hb dX9_step_38 rfl (lv_at hl 0 rfl) ?_
      refine va_get (D := D) (ci := 9) (v := .int ch) (C := RX9) (T := TX9) (N := 22) hx hb hts (fun _ h => List.mem_cons_of_mem _ (List.mem_append_right _ h)) hown hK hP 0 rfl rfl 6 (by decide) (hts (.fieldLink RX9 23 "PitchTrackerModel" "change" "I") (List.mem_of_getElem? (i := 2) rfl)) (fun _ h9 => h9) rfl dX9_step_39 ?_
      refine lv_goto (tgt := 46) hx hb dX9_step_42 (by decide) ?_
      exact W.iret (v := ch) hx hb hr (fun t ht hW => ⟨_, rfl, (t_stp_1 (by omega) (by omega)), ht⟩) (fun q h => by cases h) dX9_step_46 hlocks
    · refine lv_aload_n hx hb dX9_step_8 rfl (lv_at hl 0 rfl) ?_
      refine va_get (D := D) (ci := 9) (v := .int ju) (C := RX9) (T := TX9) (N := 22) hx hb hts (fun _ h => List.mem_cons_of_mem _ (List.mem_append_right _ h)) hown hK hP 0 rfl rfl 5 (by decide) (hts (.fieldLink RX9 20 "PitchTrackerModel" "jump" "I") (List.mem_of_getElem? (i := 1) rfl)) (fun _ h9 => h9) rfl dX9_step_9 ?_
      refine lv_iload_n hx hb dX9_step_12 rfl (lv_at hl 1 rfl) ?_
      refine lv_iload_n hx hb dX9_step_13 rfl (lv_at hl 2 rfl) ?_
      refine tv_icmp_le (tgt := 23) hx hb dX9_step_14 (by decide) (by omega) (by omega) (fun q14_6 => ?_) (fun q14_6 => ?_)
      · refine lv_iload_n hx hb dX9_step_23 rfl (lv_at hl 2 rfl) ?_
        refine lv_iload_n hx hb dX9_step_24 rfl (lv_at hl 1 rfl) ?_
        refine tv_isub (a := b) (b := a) hx hb dX9_step_25 (by omega) ?_
        refine lv_imul hx hb dX9_step_26 ?_
        refine lv_goto (tgt := 46) hx hb dX9_step_27 (by decide) ?_
        exact W.iret (v := (ju * (nI (b - a)))) hx hb hr (fun t ht hW => ⟨_, rfl, (t_mstp_lo q1_1 q5_4 (by omega)), ht⟩) (fun q h => by cases h) dX9_step_46 hlocks
      · refine lv_iload_n hx hb dX9_step_17 rfl (lv_at hl 1 rfl) ?_
        refine lv_iload_n hx hb dX9_step_18 rfl (lv_at hl 2 rfl) ?_
        refine tv_isub (a := a) (b := b) hx hb dX9_step_19 (by omega) ?_
        refine lv_goto (tgt := 26) hx hb dX9_step_20 (by decide) ?_
        refine lv_imul hx hb dX9_step_26 ?_
        refine lv_goto (tgt := 46) hx hb dX9_step_27 (by decide) ?_
        exact W.iret (v := (ju * (nI (a - b)))) hx hb hr (fun t ht hW => ⟨_, rfl, (t_mstp_hi q1_1 q5_4 (by omega)), ht⟩) (fun q h => by cases h) dX9_step_46 hlocks
