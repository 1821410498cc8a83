set_option maxHeartbeats 4000000 in
set_option maxRecDepth 100000 in
theorem c_X8_requireRange (l : Launch) (hl0 : l.stackTraces = false) (D : va_G) (cI cL : ClassId) (v lo hi : Int32) (sz : Nat) : vx_Met l yX8_requireRange wsX8_requireRange ({ frames := 6, cells := 1, slots := 6, locals := 90 }) (t_wPcX D cI cL [.int v, .int lo, .int hi] [] sz) (t_QV D cI cL (fun w1 => w1 = [] ∧ ¬ v < lo ∧ ¬ hi < v) sz (va_A [] sz)) (t_XC D cI cL (fun E w1 => w1 = [] ∧ E = "java/lang/IllegalArgumentException" ∧ (v < lo ∨ hi < v)) (va_A [] sz)) 1 6 (va_A [] sz) := by
  refine t_ofV (Qc := t_QV D cI cL (fun w1 => w1 = [] ∧ ¬ v < lo ∧ ¬ hi < v) sz) (XC := t_XC D cI cL (fun E w1 => w1 = [] ∧ E = "java/lang/IllegalArgumentException" ∧ (v < lo ∨ hi < v))) (by decide) rfl (Nat.le_of_ble_eq_true rfl) ?_
  intro p e s m below meth c ls A hsz0 hx hb hml hown hts hr hlocks hnt hK hP hD hS hA hX hl
  have hown : s.vm.findClass RX8 = some m.cls := hown
  have hl : lv_has ls 3 [(0, .int v), (1, .int lo), (2, .int hi)] := hl
  refine lv_iload_n hx hb dX8_requireRange_0 rfl (lv_at hl 0 rfl) ?_
  refine lv_iload_n hx hb dX8_requireRange_1 rfl (lv_at hl 1 rfl) ?_
  refine lv_icmp_lt (tgt := 10) hx hb dX8_requireRange_2 (by decide) (fun q2_1 => ?_) (fun q2_1 => ?_)
  · obtain ⟨sq, hstr⟩ := hX.2.2.2.2.1
    exact vx_throwS (own := RX8) (cls := "java/lang/IllegalArgumentException") (text := "a number is out of range") (names := ["java/lang/RuntimeException", "java/lang/Exception"]) (ik := 164) (is := 166) (ic := 168) hx hb hl0 hown (by decide +kernel) (by decide +kernel) (hts (.classLink RX8 164 "java/lang/IllegalArgumentException") (List.mem_of_getElem? (i := 1) rfl)) (hts (.initialized "java/lang/IllegalArgumentException") (List.mem_of_getElem? (i := 2) rfl)) hstr (t_hat (fun w hw => hts w ((fun _ h => List.mem_cons_of_mem _ (List.mem_append_right _ h)) w hw)) (by decide +kernel) hX.2.2.2.2.2.2.2.1 hX.2.2.2.2.2.2.2.2.2.2.2.2) (by decide +kernel) hX.2.2.1 hX.2.2.2.1 hS (hl.1.trans hml.symm) dX8_requireRange_10 dX8_requireRange_13 dX8_requireRange_14 dX8_requireRange_16 dX8_requireRange_19 (fun x hx => (hnt x hx).elim) (by decide) (by decide) (by decide) (by decide) hlocks (t_xthrow hP hD hK hS ⟨rfl, rfl, Or.inl q2_1⟩) hS.2.2 (by decide) (by decide)
  · refine lv_iload_n hx hb dX8_requireRange_5 rfl (lv_at hl 0 rfl) ?_
    refine lv_iload_n hx hb dX8_requireRange_6 rfl (lv_at hl 2 rfl) ?_
    refine lv_icmp_le (tgt := 20) hx hb dX8_requireRange_7 (by decide) (fun q7_2 => ?_) (fun q7_2 => ?_)
    · have hP9 := hP
      have hD9 := hD
      refine tv_size0 (fun hsz => ?_)
      refine vx_ret ?_
      refine W.widen (k := 1) (n := 6) (by omega) (by omega) ?_
      exact W.vret hx hb hr (fun t ht hW => ⟨⟨[], rfl, ⟨rfl, q2_1, t_nlt32 q7_2⟩, ⟨by rw [ht]; exact hP9, va_K.moved hW.alike hK, hD9⟩, by rw [ht]; exact hsz.trans hsz0⟩, hS.F ht⟩) hS.2.2 dX8_requireRange_20 hlocks
    · obtain ⟨sq, hstr⟩ := hX.2.2.2.2.1
      exact vx_throwS (own := RX8) (cls := "java/lang/IllegalArgumentException") (text := "a number is out of range") (names := ["java/lang/RuntimeException", "java/lang/Exception"]) (ik := 164) (is := 166) (ic := 168) hx hb hl0 hown (by decide +kernel) (by decide +kernel) (hts (.classLink RX8 164 "java/lang/IllegalArgumentException") (List.mem_of_getElem? (i := 1) rfl)) (hts (.initialized "java/lang/IllegalArgumentException") (List.mem_of_getElem? (i := 2) rfl)) hstr (t_hat (fun w hw => hts w ((fun _ h => List.mem_cons_of_mem _ (List.mem_append_right _ h)) w hw)) (by decide +kernel) hX.2.2.2.2.2.2.2.1 hX.2.2.2.2.2.2.2.2.2.2.2.2) (by decide +kernel) hX.2.2.1 hX.2.2.2.1 hS (hl.1.trans hml.symm) dX8_requireRange_10 dX8_requireRange_13 dX8_requireRange_14 dX8_requireRange_16 dX8_requireRange_19 (fun x hx => (hnt x hx).elim) (by decide) (by decide) (by decide) (by decide) hlocks (t_xthrow hP hD hK hS ⟨rfl, rfl, Or.inr (t_nle32 q7_2)⟩) hS.2.2 (by decide) (by decide)

set_option maxHeartbeats 4000000 in
set_option maxRecDepth 100000 in
theorem c_X8_requireIndex (l : Launch) (hl0 : l.stackTraces = false) (D : va_G) (cI cL : ClassId) (v hi : Int32) (sz : Nat) : vx_Met l yX8_requireIndex wsX8_requireIndex ({ frames := 6, cells := 1, slots := 6, locals := 90 }) (t_wPcX D cI cL [.int v, .int hi] [] sz) (t_QV D cI cL (fun w1 => w1 = [] ∧ ¬ v < 0 ∧ ¬ hi ≤ v) sz (va_A [] sz)) (t_XC D cI cL (fun E w1 => w1 = [] ∧ E = "java/lang/IndexOutOfBoundsException" ∧ (v < 0 ∨ hi ≤ v)) (va_A [] sz)) 1 6 (va_A [] sz) := by
  refine t_ofV (Qc := t_QV D cI cL (fun w1 => w1 = [] ∧ ¬ v < 0 ∧ ¬ hi ≤ v) sz) (XC := t_XC D cI cL (fun E w1 => w1 = [] ∧ E = "java/lang/IndexOutOfBoundsException" ∧ (v < 0 ∨ hi ≤ v))) (by decide) rfl (Nat.le_of_ble_eq_true rfl) ?_
  intro p e s m below meth c ls A hsz0 hx hb hml hown hts hr hlocks hnt hK hP hD hS hA hX hl
  have hown : s.vm.findClass RX8 = some m.cls := hown
  have hl : lv_has ls 2 [(0, .int v), (1, .int hi)] := hl
  refine lv_iload_n hx hb dX8_requireIndex_0 rfl (lv_at hl 0 rfl) ?_
  refine lv_if_lt (tgt := 9) hx hb dX8_requireIndex_1 (by decide) (fun q1_1 => ?_) (fun q1_1 => ?_)
  · obtain ⟨sq, hstr⟩ := hX.2.2.2.2.2.2.1
    exact vx_throwS (own := RX8) (cls := "java/lang/IndexOutOfBoundsException") (text := "there is none of this number") (names := ["java/lang/RuntimeException", "java/lang/Exception"]) (ik := 171) (is := 173) (ic := 175) hx hb hl0 hown (by decide +kernel) (by decide +kernel) (hts (.classLink RX8 171 "java/lang/IndexOutOfBoundsException") (List.mem_of_getElem? (i := 1) rfl)) (hts (.initialized "java/lang/IndexOutOfBoundsException") (List.mem_of_getElem? (i := 2) rfl)) hstr (t_hat (fun w hw => hts w ((fun _ h => List.mem_cons_of_mem _ (List.mem_append_right _ h)) w hw)) (by decide +kernel) hX.2.2.2.2.2.2.2.2.2.1 hX.2.2.2.2.2.2.2.2.2.2.2.2) (by decide +kernel) hX.2.2.1 hX.2.2.2.1 hS (hl.1.trans hml.symm) dX8_requireIndex_9 dX8_requireIndex_12 dX8_requireIndex_13 dX8_requireIndex_15 dX8_requireIndex_18 (fun x hx => (hnt x hx).elim) (by decide) (by decide) (by decide) (by decide) hlocks (t_xthrow hP hD hK hS ⟨rfl, rfl, Or.inl q1_1⟩) hS.2.2 (by decide) (by decide)
  · refine lv_iload_n hx hb dX8_requireIndex_4 rfl (lv_at hl 0 rfl) ?_
    refine lv_iload_n hx hb dX8_requireIndex_5 rfl (lv_at hl 1 rfl) ?_
    refine lv_icmp_lt (tgt := 19) hx hb dX8_requireIndex_6 (by decide) (fun q6_2 => ?_) (fun q6_2 => ?_)
    · have hP9 := hP
      have hD9 := hD
      refine tv_size0 (fun hsz => ?_)
      refine vx_ret ?_
      refine W.widen (k := 1) (n := 6) (by omega) (by omega) ?_
      exact W.vret hx hb hr (fun t ht hW => ⟨⟨[], rfl, ⟨rfl, q1_1, t_nle32n q6_2⟩, ⟨by rw [ht]; exact hP9, va_K.moved hW.alike hK, hD9⟩, by rw [ht]; exact hsz.trans hsz0⟩, hS.F ht⟩) hS.2.2 dX8_requireIndex_19 hlocks
    · obtain ⟨sq, hstr⟩ := hX.2.2.2.2.2.2.1
      exact vx_throwS (own := RX8) (cls := "java/lang/IndexOutOfBoundsException") (text := "there is none of this number") (names := ["java/lang/RuntimeException", "java/lang/Exception"]) (ik := 171) (is := 173) (ic := 175) hx hb hl0 hown (by decide +kernel) (by decide +kernel) (hts (.classLink RX8 171 "java/lang/IndexOutOfBoundsException") (List.mem_of_getElem? (i := 1) rfl)) (hts (.initialized "java/lang/IndexOutOfBoundsException") (List.mem_of_getElem? (i := 2) rfl)) hstr (t_hat (fun w hw => hts w ((fun _ h => List.mem_cons_of_mem _ (List.mem_append_right _ h)) w hw)) (by decide +kernel) hX.2.2.2.2.2.2.2.2.2.1 hX.2.2.2.2.2.2.2.2.2.2.2.2) (by decide +kernel) hX.2.2.1 hX.2.2.2.1 hS (hl.1.trans hml.symm) dX8_requireIndex_9 dX8_requireIndex_12 dX8_requireIndex_13 dX8_requireIndex_15 dX8_requireIndex_18 (fun x hx => (hnt x hx).elim) (by decide) (by decide) (by decide) (by decide) hlocks (t_xthrow hP hD hK hS ⟨rfl, rfl, Or.inr (t_nge32 q6_2)⟩) hS.2.2 (by decide) (by decide)

set_option maxHeartbeats 4000000 in
set_option maxRecDepth 100000 in
theorem c_X8_requireFrame (l : Launch) (hl0 : l.stackTraces = false) (D : va_G) (cI cL : ClassId) (h so sa dh kh th0 ph nh sn : Nat) (sf : Int32) (x : Nat → Int32) (v : Int32) (hsn : sn ≤ 1024) (sz : Nat) : vx_Met l yX8_requireFrame wsX8_requireFrame ({ frames := 7, cells := 1, slots := 6, locals := 130 }) (t_wPcX D cI cL [.ref h, .int v] [(h, .inr (8, [.ref so, .ref dh, .ref kh, .ref th0, .ref ph, .ref nh, .int sf])), (so, .inr (5, [.ref sa, .int (nI sn)])), (sa, .inl (cI, 1024, .inl x))] sz) (t_QV D cI cL (fun w1 => w1 = [(h, .inr (8, [.ref so, .ref dh, .ref kh, .ref th0, .ref ph, .ref nh, .int sf])), (so, .inr (5, [.ref sa, .int (nI sn)])), (sa, .inl (cI, 1024, .inl x))] ∧ ∃ j : Nat, v = nI j ∧ j < t_F sn) sz (va_A [(h, .inr (8, [.ref so, .ref dh, .ref kh, .ref th0, .ref ph, .ref nh, .int sf])), (so, .inr (5, [.ref sa, .int (nI sn)])), (sa, .inl (cI, 1024, .inl x))] sz)) (t_XC D cI cL (fun E w1 => w1 = [(h, .inr (8, [.ref so, .ref dh, .ref kh, .ref th0, .ref ph, .ref nh, .int sf])), (so, .inr (5, [.ref sa, .int (nI sn)])), (sa, .inl (cI, 1024, .inl x))] ∧ E = "java/lang/IndexOutOfBoundsException" ∧ (v < 0 ∨ nI (t_F sn) ≤ v)) (va_A [(h, .inr (8, [.ref so, .ref dh, .ref kh, .ref th0, .ref ph, .ref nh, .int sf])), (so, .inr (5, [.ref sa, .int (nI sn)])), (sa, .inl (cI, 1024, .inl x))] sz)) 1 6 (va_A [(h, .inr (8, [.ref so, .ref dh, .ref kh, .ref th0, .ref ph, .ref nh, .int sf])), (so, .inr (5, [.ref sa, .int (nI sn)])), (sa, .inl (cI, 1024, .inl x))] sz) := by
  refine t_ofV (Qc := t_QV D cI cL (fun w1 => w1 = [(h, .inr (8, [.ref so, .ref dh, .ref kh, .ref th0, .ref ph, .ref nh, .int sf])), (so, .inr (5, [.ref sa, .int (nI sn)])), (sa, .inl (cI, 1024, .inl x))] ∧ ∃ j : Nat, v = nI j ∧ j < t_F sn) sz) (XC := t_XC D cI cL (fun E w1 => w1 = [(h, .inr (8, [.ref so, .ref dh, .ref kh, .ref th0, .ref ph, .ref nh, .int sf])), (so, .inr (5, [.ref sa, .int (nI sn)])), (sa, .inl (cI, 1024, .inl x))] ∧ E = "java/lang/IndexOutOfBoundsException" ∧ (v < 0 ∨ nI (t_F sn) ≤ v))) (by decide) rfl (Nat.le_of_ble_eq_true rfl) ?_
  intro p e s m below meth c ls A hsz0 hx hb hml hown hts hr hlocks hnt hK hP hD hS hA hX hl
  have hown : s.vm.findClass RX8 = some m.cls := hown
  have hl : lv_has ls 2 [(0, .ref h), (1, .int v)] := hl
  refine lv_iload_n hx hb dX8_requireFrame_0 rfl (lv_at hl 1 rfl) ?_
  refine lv_aload_n hx hb dX8_requireFrame_1 rfl (lv_at hl 0 rfl) ?_
  refine va_get (D := D) (ci := 8) (v := .ref so) (C := RX8) (T := TX8) (N := 7) hx hb hts (fun _ h => List.mem_cons_of_mem _ (List.mem_append_left _ (List.mem_append_left _ (List.mem_append_right _ h)))) hown hK hP 0 rfl rfl 0 (by decide) (hts (.fieldLink RX8 10 "PitchTracker" "sound" "LPitchTracker$Sound;") (List.mem_of_getElem? (i := 1) rfl)) (fun _ h9 => h9) rfl dX8_requireFrame_2 ?_
  have hPc := hP.sub (ws' := [(so, .inr (5, [.ref sa, .int (nI sn)])), (sa, .inl (cI, 1024, .inl x))]) [1, 2] rfl
  refine vp_callSi (W.runV (As := []) (rest := [.int v]) ⟨hx, hb, hml, hown, hts⟩ (c_X5_frameCount l D cI cL so sa sn x (by omega)) (cwV 0 hts gX8_requireFrame_X5_frameCount rfl rfl rfl (by decide +kernel) ⟨Nat.le_of_ble_eq_true rfl, Nat.le_of_ble_eq_true rfl⟩) ⟨t_rPc_blind, va_recv hK hPc (ci := 5) (q0 := 0) rfl rfl, fun U hU hW => ⟨rfl, by rw [hU]; exact hPc, va_K.moved hW.alike hK⟩⟩ rfl rfl hl.1 rfl (lv_room (Nat.le_of_ble_eq_true rfl)) dX8_requireFrame_5 ⟨Nat.le_of_ble_eq_true rfl, Nat.le_of_ble_eq_true rfl⟩) (fun r_1 hr_1 => ?_)
  subst hr_1
  have hPc := hP.sub (ws' := []) [] rfl
  have hDc := hD.sub (ws' := []) [] (by decide +kernel) rfl
  have hFc := va_free (wc := []) hD hS hA [] rfl
  refine tv_size0 (fun hsz => ?_)
  refine vx_callv (vx_runS (As := [.int v, .int (nI (t_F sn))]) (rest := []) ⟨hx, hb, hml, hown, hts⟩ (c_X8_requireIndex l hl0 D cI cL v ((nI (t_F sn))) s.heap.size) (va_cwS 2 hts gX8_requireFrame_X8_requireIndex rfl rfl rfl (by decide +kernel) ⟨Nat.le_of_ble_eq_true rfl, Nat.le_of_ble_eq_true rfl⟩) ⟨t_wPcX_blind, fun U hU hW => ⟨rfl, by rw [hU], by rw [hU]; exact hPc, va_K.moved hW.alike hK, hDc.weaken (fun _ _ _ _ => trivial), by rw [hU]; exact ((hX.kept hS.2.1).narrow hFc).moved hW⟩⟩ rfl rfl hl.1 rfl (lv_room (Nat.le_of_ble_eq_true rfl)) dX8_requireFrame_8 ⟨Nat.le_of_ble_eq_true rfl, Nat.le_of_ble_eq_true rfl⟩) hS (fun q _ h => hFc q h) hFc (fun q _ h => hFc q h) (fun E ce q9 u_3 t H1 locs ht hvm hw hB hz1 hk1 hS hce hcv hcl => ?_) (fun u_3 t H1 locs ht hvm hw hB hz1 hk1 hS => ?_)
  · obtain ⟨hw, hP1, hK1, hD1⟩ := hB
    rw [ht] at hP1
    obtain ⟨hw, hE, hxc⟩ := hw
    have hw : u_3 = [] := hw
    subst hw
    subst hE
    obtain ⟨hP, hD⟩ := va_join (wr := [(h, .inr (8, [.ref so, .ref dh, .ref kh, .ref th0, .ref ph, .ref nh, .int sf])), (so, .inr (5, [.ref sa, .int (nI sn)])), (sa, .inl (cI, 1024, .inl x))]) (w1 := []) hP hD [] [0, 1, 2] rfl rfl (by decide +kernel) (by decide +kernel) hk1 hFc hP1 hD1
    clear hP1 hD1 hK1 hPc hDc hFc hvm hz1 hk1
    have hP : va_P D vwCl [(h, .inr (8, [.ref so, .ref dh, .ref kh, .ref th0, .ref ph, .ref nh, .int sf])), (so, .inr (5, [.ref sa, .int (nI sn)])), (sa, .inl (cI, 1024, .inl x))] H1 := hP
    have hD : va_D A [(h, .inr (8, [.ref so, .ref dh, .ref kh, .ref th0, .ref ph, .ref nh, .int sf])), (so, .inr (5, [.ref sa, .int (nI sn)])), (sa, .inl (cI, 1024, .inl x))] := hD
    refine vx_widen (k := 1) (n := 6) (by omega) (by omega) ?_
    exact vx_out (fun x hx => (hnt x hx).elim) hlocks hce hcv hcl (t_xout hP hD hK hS ⟨rfl, rfl, hxc⟩) hS.2.2 (Nat.le_refl _) (Nat.le_refl _)
  · obtain ⟨⟨hP1, hK1, hD1⟩, hz9⟩ := hB
    rw [ht] at hP1
    have hsz1 : H1.size = s.heap.size := by rw [← ht]; exact hz9.trans hsz
    obtain ⟨hw, hr_4, hr_5⟩ := hw
    have hw : u_3 = [] := hw
    subst hw
    obtain ⟨hP, hD⟩ := va_join (wr := [(h, .inr (8, [.ref so, .ref dh, .ref kh, .ref th0, .ref ph, .ref nh, .int sf])), (so, .inr (5, [.ref sa, .int (nI sn)])), (sa, .inl (cI, 1024, .inl x))]) (w1 := []) hP hD [] [0, 1, 2] rfl rfl (by decide +kernel) (by decide +kernel) hk1 hFc hP1 hD1
    clear hP1 hD1 hK1 hPc hDc hFc hvm hz1 hk1
    have hP : va_P D vwCl [(h, .inr (8, [.ref so, .ref dh, .ref kh, .ref th0, .ref ph, .ref nh, .int sf])), (so, .inr (5, [.ref sa, .int (nI sn)])), (sa, .inl (cI, 1024, .inl x))] H1 := hP
    have hD : va_D A [(h, .inr (8, [.ref so, .ref dh, .ref kh, .ref th0, .ref ph, .ref nh, .int sf])), (so, .inr (5, [.ref sa, .int (nI sn)])), (sa, .inl (cI, 1024, .inl x))] := hD
    clear ht
    generalize H1 = H at hP hS hsz1 ⊢
    refine tv_reset hsz1 ?_
    have hP9 := hP
    have hD9 := hD
    refine tv_size0 (fun hsz => ?_)
    refine vx_ret ?_
    refine W.widen (k := 1) (n := 6) (by omega) (by omega) ?_
    exact W.vret hx hb hr (fun t ht hW => ⟨⟨[(h, .inr (8, [.ref so, .ref dh, .ref kh, .ref th0, .ref ph, .ref nh, .int sf])), (so, .inr (5, [.ref sa, .int (nI sn)])), (sa, .inl (cI, 1024, .inl x))], rfl, ⟨rfl, t_idx hr_4 hr_5 (by have := t_F_le hsn; omega)⟩, ⟨by rw [ht]; exact hP9, va_K.moved hW.alike hK, hD9⟩, by rw [ht]; exact hsz.trans hsz0⟩, hS.F ht⟩) hS.2.2 dX8_requireFrame_11 hlocks

set_option maxHeartbeats 4000000 in
set_option maxRecDepth 100000 in
theorem c_X8_requireRoom (l : Launch) (hl0 : l.stackTraces = false) (D : va_G) (cI cL : ClassId) (h so sa dh kh th0 ph nh sn : Nat) (sf : Int32) (x : Nat → Int32) (v : Int32) (hsn : sn ≤ 1024) (sz : Nat) : vx_Met l yX8_requireRoom wsX8_requireRoom ({ frames := 6, cells := 1, slots := 6, locals := 90 }) (t_wPcX D cI cL [.ref h, .int v] [(h, .inr (8, [.ref so, .ref dh, .ref kh, .ref th0, .ref ph, .ref nh, .int sf])), (so, .inr (5, [.ref sa, .int (nI sn)])), (sa, .inl (cI, 1024, .inl x))] sz) (t_QV D cI cL (fun w1 => w1 = [(h, .inr (8, [.ref so, .ref dh, .ref kh, .ref th0, .ref ph, .ref nh, .int sf])), (so, .inr (5, [.ref sa, .int (nI sn)])), (sa, .inl (cI, 1024, .inl x))] ∧ ¬ nI (1024 - sn) < v) sz (va_A [(h, .inr (8, [.ref so, .ref dh, .ref kh, .ref th0, .ref ph, .ref nh, .int sf])), (so, .inr (5, [.ref sa, .int (nI sn)])), (sa, .inl (cI, 1024, .inl x))] sz)) (t_XC D cI cL (fun E w1 => w1 = [(h, .inr (8, [.ref so, .ref dh, .ref kh, .ref th0, .ref ph, .ref nh, .int sf])), (so, .inr (5, [.ref sa, .int (nI sn)])), (sa, .inl (cI, 1024, .inl x))] ∧ E = "java/lang/IllegalStateException" ∧ nI (1024 - sn) < v) (va_A [(h, .inr (8, [.ref so, .ref dh, .ref kh, .ref th0, .ref ph, .ref nh, .int sf])), (so, .inr (5, [.ref sa, .int (nI sn)])), (sa, .inl (cI, 1024, .inl x))] sz)) 1 6 (va_A [(h, .inr (8, [.ref so, .ref dh, .ref kh, .ref th0, .ref ph, .ref nh, .int sf])), (so, .inr (5, [.ref sa, .int (nI sn)])), (sa, .inl (cI, 1024, .inl x))] sz) := by
  refine t_ofV (Qc := t_QV D cI cL (fun w1 => w1 = [(h, .inr (8, [.ref so, .ref dh, .ref kh, .ref th0, .ref ph, .ref nh, .int sf])), (so, .inr (5, [.ref sa, .int (nI sn)])), (sa, .inl (cI, 1024, .inl x))] ∧ ¬ nI (1024 - sn) < v) sz) (XC := t_XC D cI cL (fun E w1 => w1 = [(h, .inr (8, [.ref so, .ref dh, .ref kh, .ref th0, .ref ph, .ref nh, .int sf])), (so, .inr (5, [.ref sa, .int (nI sn)])), (sa, .inl (cI, 1024, .inl x))] ∧ E = "java/lang/IllegalStateException" ∧ nI (1024 - sn) < v)) (by decide) rfl (Nat.le_of_ble_eq_true rfl) ?_
  intro p e s m below meth c ls A hsz0 hx hb hml hown hts hr hlocks hnt hK hP hD hS hA hX hl
  have hown : s.vm.findClass RX8 = some m.cls := hown
  have hl : lv_has ls 2 [(0, .ref h), (1, .int v)] := hl
  refine lv_iload_n hx hb dX8_requireRoom_0 rfl (lv_at hl 1 rfl) ?_
  refine lv_sipush (v := ((nI 1024) : Int32)) hx hb dX8_requireRoom_1 (by decide +kernel) ?_
  refine lv_aload_n hx hb dX8_requireRoom_4 rfl (lv_at hl 0 rfl) ?_
  refine va_get (D := D) (ci := 8) (v := .ref so) (C := RX8) (T := TX8) (N := 7) hx hb hts (fun _ h => List.mem_cons_of_mem _ (List.mem_append_left _ (List.mem_append_left _ (List.mem_append_right _ h)))) hown hK hP 0 rfl rfl 0 (by decide) (hts (.fieldLink RX8 10 "PitchTracker" "sound" "LPitchTracker$Sound;") (List.mem_of_getElem? (i := 3) rfl)) (fun _ h9 => h9) rfl dX8_requireRoom_5 ?_
  have hPc := hP.sub (ws' := [(so, .inr (5, [.ref sa, .int (nI sn)])), (sa, .inl (cI, 1024, .inl x))]) [1, 2] rfl
  refine vp_callSi (W.runV (As := []) (rest := [.int (nI 1024), .int v]) ⟨hx, hb, hml, hown, hts⟩ (c_X5_count l D cI cL so sa sn x) (cwV 0 hts gX8_requireRoom_X5_count rfl rfl rfl (by decide +kernel) ⟨Nat.le_of_ble_eq_true rfl, Nat.le_of_ble_eq_true rfl⟩) ⟨t_rPc_blind, va_recv hK hPc (ci := 5) (q0 := 0) rfl rfl, fun U hU hW => ⟨rfl, by rw [hU]; exact hPc, va_K.moved hW.alike hK⟩⟩ rfl rfl hl.1 rfl (lv_room (Nat.le_of_ble_eq_true rfl)) dX8_requireRoom_8 ⟨Nat.le_of_ble_eq_true rfl, Nat.le_of_ble_eq_true rfl⟩) (fun r_1 hr_1 => ?_)
  subst hr_1
  refine tv_isub (a := 1024) (b := sn) hx hb dX8_requireRoom_11 (by omega) ?_
  refine lv_icmp_le (tgt := 25) hx hb dX8_requireRoom_12 (by decide) (fun q12_2 => ?_) (fun q12_2 => ?_)
  · have hP9 := hP
    have hD9 := hD
    refine tv_size0 (fun hsz => ?_)
    refine vx_ret ?_
    refine W.widen (k := 1) (n := 6) (by omega) (by omega) ?_
    exact W.vret hx hb hr (fun t ht hW => ⟨⟨[(h, .inr (8, [.ref so, .ref dh, .ref kh, .ref th0, .ref ph, .ref nh, .int sf])), (so, .inr (5, [.ref sa, .int (nI sn)])), (sa, .inl (cI, 1024, .inl x))], rfl, ⟨rfl, t_nlt32 q12_2⟩, ⟨by rw [ht]; exact hP9, va_K.moved hW.alike hK, hD9⟩, by rw [ht]; exact hsz.trans hsz0⟩, hS.F ht⟩) hS.2.2 dX8_requireRoom_25 hlocks
  · obtain ⟨sq, hstr⟩ := hX.2.2.2.2.2.1
    exact vx_throwS (own := RX8) (cls := "java/lang/IllegalStateException") (text := "more samples would be fed than there is room for") (names := ["java/lang/RuntimeException", "java/lang/Exception"]) (ik := 176) (is := 178) (ic := 180) hx hb hl0 hown (by decide +kernel) (by decide +kernel) (hts (.classLink RX8 176 "java/lang/IllegalStateException") (List.mem_of_getElem? (i := 1) rfl)) (hts (.initialized "java/lang/IllegalStateException") (List.mem_of_getElem? (i := 2) rfl)) hstr (t_hat (fun w hw => hts w ((fun _ h => List.mem_cons_of_mem _ (List.mem_append_right _ h)) w hw)) (by decide +kernel) hX.2.2.2.2.2.2.2.2.1 hX.2.2.2.2.2.2.2.2.2.2.2.2) (by decide +kernel) hX.2.2.1 hX.2.2.2.1 hS (hl.1.trans hml.symm) dX8_requireRoom_15 dX8_requireRoom_18 dX8_requireRoom_19 dX8_requireRoom_21 dX8_requireRoom_24 (fun x hx => (hnt x hx).elim) (by decide) (by decide) (by decide) (by decide) hlocks (t_xthrow hP hD hK hS ⟨rfl, rfl, t_nle32 q12_2⟩) hS.2.2 (by decide) (by decide)
