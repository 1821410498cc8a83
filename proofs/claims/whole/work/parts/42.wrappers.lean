set_option maxHeartbeats 4000000 in
set_option maxRecDepth 100000 in
theorem c_L_feed (l : Launch) (hl0 : l.stackTraces = false) (D : va_G) (cI cL : ClassId) (Wo : va_W) (h : Nat) (x : Nat → Int32) (sn : Nat) (th un ju ch : Int32) (tm : Nat) (ba : Int32) (v : Int32) (q : Nat) (o : Nat → Int64) (hO : t_obj cI h x sn th un ju ch tm ba Wo) (sz : Nat) : Met l yL_feed wsL_feed ({ frames := 9, cells := 1, slots := 6, locals := 381 }) (t_wPcX D cI cL [.ref h, .int v, .ref q] ((q, .inl (cL, 1, .inr (.inl o))) :: Wo) sz) (t_Qi D cI cL (fun r w1 => ∃ (o1 : Nat → Int64) (W1 : va_W), w1 = (q, .inl (cL, 1, .inr (.inl o1))) :: W1 ∧ ((r = nI 0 ∧ ∃ a : Int32, o1 0 = a.toInt64 ∧ (t_ir v (-100) (nI 100) ∧ sn < 1024 ∧ a = nI (sn + 1)) ∧ t_obj cI h (upd x sn v) (sn + 1) th un ju ch tm ba W1) ∨ (r = nI 1 ∧ (¬ t_ir v (-100) (nI 100)) ∧ t_obj cI h x sn th un ju ch tm ba W1) ∨ (r = nI 2 ∧ (t_ir v (-100) (nI 100) ∧ sn = 1024) ∧ t_obj cI h x sn th un ju ch tm ba W1))) (va_A ((q, .inl (cL, 1, .inr (.inl o))) :: Wo) sz)) 1 6 (va_A ((q, .inl (cL, 1, .inr (.inl o))) :: Wo) sz) := by
  refine t_ofH (Qc := t_Qi D cI cL (fun r w1 => ∃ (o1 : Nat → Int64) (W1 : va_W), w1 = (q, .inl (cL, 1, .inr (.inl o1))) :: W1 ∧ ((r = nI 0 ∧ ∃ a : Int32, o1 0 = a.toInt64 ∧ (t_ir v (-100) (nI 100) ∧ sn < 1024 ∧ a = nI (sn + 1)) ∧ t_obj cI h (upd x sn v) (sn + 1) th un ju ch tm ba W1) ∨ (r = nI 1 ∧ (¬ t_ir v (-100) (nI 100)) ∧ t_obj cI h x sn th un ju ch tm ba W1) ∨ (r = nI 2 ∧ (t_ir v (-100) (nI 100) ∧ sn = 1024) ∧ t_obj cI h x sn th un ju ch tm ba W1)))) (by decide) rfl (Nat.le_of_ble_eq_true rfl) ?_
  intro p e s m below meth c ls A hx hb hml hown hts hr hlocks htb hK hP hD hS hA hX hl
  have hown : s.vm.findClass RL = some m.cls := hown
  have hl : lv_has ls 4 [(0, .ref h), (1, .int v), (2, .ref q)] := hl
  obtain ⟨fs, hfs⟩ := t_obj_hd hO
  refine lv_aload_n hx hb dL_feed_0 rfl (lv_at hl 2 rfl) ?_
  refine lv_iconst (v := ((nI 0) : Int32)) hx hb dL_feed_1 (by decide +kernel) ?_
  refine lv_aload_n hx hb dL_feed_2 rfl (lv_at hl 0 rfl) ?_
  refine lv_iload_n hx hb dL_feed_3 rfl (lv_at hl 1 rfl) ?_
  have hPc : va_P D vwCl Wo s.heap := t_endP (a := [(q, .inl (cL, 1, .inr (.inl o)))]) hP
  have hDc : va_D A Wo := t_endD (a := [(q, .inl (cL, 1, .inr (.inl o)))]) hD
  have hFc : ∀ q, va_A Wo s.heap.size q → A q := t_endF (a := []) hDc hS hA
  refine vx_calli (vx_runV (As := [.int v]) (rest := [.int (nI 0), .ref q]) ⟨hx, hb, hml, hown, hts⟩ (c_X8_feed l hl0 D cI cL Wo h x sn th un ju ch tm ba v hO s.heap.size) (cwV 1 hts gL_feed_X8_feed rfl rfl rfl (by decide +kernel) ⟨Nat.le_of_ble_eq_true rfl, Nat.le_of_ble_eq_true rfl⟩) ⟨t_wPcX_blind, va_recv hK hPc (ci := 8) (q0 := 0) rfl hfs, fun U hU hW => ⟨rfl, by rw [hU], by rw [hU]; exact hPc, va_K.moved hW.alike hK, hDc.weaken (fun _ _ _ _ => trivial), by rw [hU]; exact (hX.narrow hFc).moved hW⟩⟩ rfl rfl hl.1 rfl (lv_room (Nat.le_of_ble_eq_true rfl)) dL_feed_4 ⟨Nat.le_of_ble_eq_true rfl, Nat.le_of_ble_eq_true rfl⟩) hS (fun q _ h => hFc q h) hFc (fun q _ h => hFc q h) (fun E ce q9 u t H1 locs ht hvm hw hB hz1 hk1 hS hce hcv hcl => ?_) (fun r1 u t H1 locs ht hvm hw hB hz1 hk1 hS => ?_)
  · obtain ⟨⟨hw, hO1⟩, hP1, hK1, hD1⟩ := hB
    rw [ht] at hP1
    obtain ⟨hP, hD⟩ := t_jend (a := [(q, .inl (cL, 1, .inr (.inl o)))]) hP hD hk1 hFc hP1 hD1
    have hP : va_P D vwCl ((q, .inl (cL, 1, .inr (.inl o))) :: u) H1 := hP
    have hD : va_D A ((q, .inl (cL, 1, .inr (.inl o))) :: u) := hD
    clear hP1 hD1 hK1 hPc hDc hFc hvm hz1 hk1
    clear ht
    rcases hw with ⟨hE, hxc⟩ | ⟨hE, hxc⟩
    · subst hE
      refine vx_catch (own := RL) (name := "java/lang/IllegalArgumentException") hown (tableOf []) ⟨0, 9, 12, 13⟩ (tableOf [(0, 9, 15, 15)]) (by rw [htb]; rfl) (fun z hz => absurd hz List.not_mem_nil) (by decide +kernel) (by decide) (hts (.classLink RL 13 "java/lang/IllegalArgumentException") (List.mem_of_getElem? (i := 1) rfl)) (va_Nw.use rfl hX.2.2.2.2.2.2.2.1) hce hcv hcl ?_
      refine lv_astore_n (lv' := [(3, .ref q9), (0, .ref h), (1, .int v), (2, .ref q)]) hx hb dL_feed_12 rfl hl (by decide) rfl (fun ls hl => ?_)
      refine lv_iconst (v := ((nI 1) : Int32)) hx hb dL_feed_13 (by decide +kernel) ?_
      exact W.iret (v := (nI 1)) hx hb hr (fun t ht hW => ⟨⟨_, ((q, .inl (cL, 1, .inr (.inl o))) :: u), rfl, ⟨_, u, rfl, Or.inr (Or.inl ⟨rfl, hxc, hO1⟩)⟩, ⟨by rw [ht]; exact hP, va_K.moved hW.alike hK, hD⟩⟩, hS.F ht⟩) hS.2.2 dL_feed_14 hlocks
    · subst hE
      refine vx_catch (own := RL) (name := "java/lang/IllegalStateException") hown (tableOf [(0, 9, 12, 13)]) ⟨0, 9, 15, 15⟩ (tableOf []) (by rw [htb]; rfl) (fun z hz => by cases List.mem_singleton.mp hz; exact Or.inr ⟨by decide, _, (hts (.classLink RL 13 "java/lang/IllegalArgumentException") (List.mem_of_getElem? (i := 1) rfl)), hX.2.2.2.2.2.2.2.2.2.2.1⟩) (by decide +kernel) (by decide) (hts (.classLink RL 15 "java/lang/IllegalStateException") (List.mem_of_getElem? (i := 2) rfl)) (va_Nw.use rfl hX.2.2.2.2.2.2.2.2.1) hce hcv hcl ?_
      refine lv_astore_n (lv' := [(3, .ref q9), (0, .ref h), (1, .int v), (2, .ref q)]) hx hb dL_feed_15 rfl hl (by decide) rfl (fun ls hl => ?_)
      refine lv_iconst (v := ((nI 2) : Int32)) hx hb dL_feed_16 (by decide +kernel) ?_
      exact W.iret (v := (nI 2)) hx hb hr (fun t ht hW => ⟨⟨_, ((q, .inl (cL, 1, .inr (.inl o))) :: u), rfl, ⟨_, u, rfl, Or.inr (Or.inr ⟨rfl, hxc, hO1⟩)⟩, ⟨by rw [ht]; exact hP, va_K.moved hW.alike hK, hD⟩⟩, hS.F ht⟩) hS.2.2 dL_feed_17 hlocks
  · obtain ⟨⟨hP1, hK1, hD1⟩, hz9⟩ := hB
    rw [ht] at hP1
    obtain ⟨hP, hD⟩ := t_jend (a := [(q, .inl (cL, 1, .inr (.inl o)))]) hP hD hk1 hFc hP1 hD1
    have hP : va_P D vwCl ((q, .inl (cL, 1, .inr (.inl o))) :: u) H1 := hP
    have hD : va_D A ((q, .inl (cL, 1, .inr (.inl o))) :: u) := hD
    clear hP1 hD1 hK1 hPc hDc hFc hvm hz1 hk1
    clear ht
    generalize H1 = H at hP hS ⊢
    refine lv_i2l hx hb dL_feed_7 rfl ?_
    refine va_last hx hb hK hP hD hS 0 1 rfl rfl (vp_in_nI (by decide) (by decide)) dL_feed_8 (fun H locs hP hD hS => ?_)
    have hP : va_P D vwCl ((q, .inl (cL, 1, .inr (.inl (vp_updL o (nI 0).toNatClampNeg r1.toInt64)))) :: u) H := hP
    have hD : va_D A ((q, .inl (cL, 1, .inr (.inl (vp_updL o (nI 0).toNatClampNeg r1.toInt64)))) :: u) := hD
    refine lv_goto (tgt := 18) hx hb dL_feed_9 (by decide) ?_
    refine lv_iconst (v := ((nI 0) : Int32)) hx hb dL_feed_18 (by decide +kernel) ?_
    exact W.iret (v := (nI 0)) hx hb hr (fun t ht hW => ⟨⟨_, ((q, .inl (cL, 1, .inr (.inl (vp_updL o (nI 0).toNatClampNeg r1.toInt64)))) :: u), rfl, ⟨_, u, rfl, Or.inl ⟨rfl, r1, (by rw [nI_clamp (by decide)]; exact pk_uLs), hw⟩⟩, ⟨by rw [ht]; exact hP, va_K.moved hW.alike hK, hD⟩⟩, hS.F ht⟩) hS.2.2 dL_feed_19 hlocks

set_option maxHeartbeats 4000000 in
set_option maxRecDepth 100000 in
theorem c_L_feedWave (l : Launch) (hl0 : l.stackTraces = false) (D : va_G) (cI cL : ClassId) (Wo : va_W) (h : Nat) (x : Nat → Int32) (sn : Nat) (th un ju ch : Int32) (tm : Nat) (ba : Int32) (v z2 z3 z4 : Int32) (q : Nat) (o : Nat → Int64) (hO : t_obj cI h x sn th un ju ch tm ba Wo) (sz : Nat) : Met l yL_feedWave wsL_feedWave ({ frames := 9, cells := 1, slots := 6, locals := 386 }) (t_wPcX D cI cL [.ref h, .int v, .int z2, .int z3, .int z4, .ref q] ((q, .inl (cL, 1, .inr (.inl o))) :: Wo) sz) (t_Qi D cI cL (fun r w1 => ∃ (o1 : Nat → Int64) (W1 : va_W), w1 = (q, .inl (cL, 1, .inr (.inl o1))) :: W1 ∧ ((r = nI 0 ∧ ∃ a : Int32, o1 0 = a.toInt64 ∧ ∃ j1 j2 j3 j4 : Nat, v = nI j1 ∧ z2 = nI j2 ∧ z3 = nI j3 ∧ z4 = nI j4 ∧ (0 ≤ j1 ∧ j1 ≤ 2) ∧ (2 ≤ j2 ∧ j2 ≤ 64) ∧ (0 ≤ j3 ∧ j3 ≤ 100) ∧ (1 ≤ j4 ∧ j4 ≤ 400) ∧ sn + j4 ≤ 1024 ∧ a = nI (sn + j4) ∧ t_obj cI h (t_add x sn (fun i => t_wave j1 (i % j2) j2 j3) j4) (sn + j4) th un ju ch tm ba W1) ∨ (r = nI 1 ∧ (¬ (t_ir v (nI 0) (nI 2) ∧ t_ir z2 (nI 2) (nI 64) ∧ t_ir z3 (nI 0) (nI 100) ∧ t_ir z4 (nI 1) (nI 400))) ∧ t_obj cI h x sn th un ju ch tm ba W1) ∨ (r = nI 2 ∧ ((t_ir v (nI 0) (nI 2) ∧ t_ir z2 (nI 2) (nI 64) ∧ t_ir z3 (nI 0) (nI 100) ∧ t_ir z4 (nI 1) (nI 400)) ∧ ∃ j : Nat, z4 = nI j ∧ j ≤ 400 ∧ 1024 < sn + j) ∧ t_obj cI h x sn th un ju ch tm ba W1))) (va_A ((q, .inl (cL, 1, .inr (.inl o))) :: Wo) sz)) 1 6 (va_A ((q, .inl (cL, 1, .inr (.inl o))) :: Wo) sz) := by
  refine t_ofH (Qc := t_Qi D cI cL (fun r w1 => ∃ (o1 : Nat → Int64) (W1 : va_W), w1 = (q, .inl (cL, 1, .inr (.inl o1))) :: W1 ∧ ((r = nI 0 ∧ ∃ a : Int32, o1 0 = a.toInt64 ∧ ∃ j1 j2 j3 j4 : Nat, v = nI j1 ∧ z2 = nI j2 ∧ z3 = nI j3 ∧ z4 = nI j4 ∧ (0 ≤ j1 ∧ j1 ≤ 2) ∧ (2 ≤ j2 ∧ j2 ≤ 64) ∧ (0 ≤ j3 ∧ j3 ≤ 100) ∧ (1 ≤ j4 ∧ j4 ≤ 400) ∧ sn + j4 ≤ 1024 ∧ a = nI (sn + j4) ∧ t_obj cI h (t_add x sn (fun i => t_wave j1 (i % j2) j2 j3) j4) (sn + j4) th un ju ch tm ba W1) ∨ (r = nI 1 ∧ (¬ (t_ir v (nI 0) (nI 2) ∧ t_ir z2 (nI 2) (nI 64) ∧ t_ir z3 (nI 0) (nI 100) ∧ t_ir z4 (nI 1) (nI 400))) ∧ t_obj cI h x sn th un ju ch tm ba W1) ∨ (r = nI 2 ∧ ((t_ir v (nI 0) (nI 2) ∧ t_ir z2 (nI 2) (nI 64) ∧ t_ir z3 (nI 0) (nI 100) ∧ t_ir z4 (nI 1) (nI 400)) ∧ ∃ j : Nat, z4 = nI j ∧ j ≤ 400 ∧ 1024 < sn + j) ∧ t_obj cI h x sn th un ju ch tm ba W1)))) (by decide) rfl (Nat.le_of_ble_eq_true rfl) ?_
  intro p e s m below meth c ls A hx hb hml hown hts hr hlocks htb hK hP hD hS hA hX hl
  have hown : s.vm.findClass RL = some m.cls := hown
  have hl : lv_has ls 7 [(0, .ref h), (1, .int v), (2, .int z2), (3, .int z3), (4, .int z4), (5, .ref q)] := hl
  obtain ⟨fs, hfs⟩ := t_obj_hd hO
  refine lv_aload hx hb dL_feedWave_0 (lv_at hl 5 rfl) ?_
  refine lv_iconst (v := ((nI 0) : Int32)) hx hb dL_feedWave_2 (by decide +kernel) ?_
  refine lv_aload_n hx hb dL_feedWave_3 rfl (lv_at hl 0 rfl) ?_
  refine lv_iload_n hx hb dL_feedWave_4 rfl (lv_at hl 1 rfl) ?_
  refine lv_iload_n hx hb dL_feedWave_5 rfl (lv_at hl 2 rfl) ?_
  refine lv_iload_n hx hb dL_feedWave_6 rfl (lv_at hl 3 rfl) ?_
  refine lv_iload hx hb dL_feedWave_7 (lv_at hl 4 rfl) ?_
  have hPc : va_P D vwCl Wo s.heap := t_endP (a := [(q, .inl (cL, 1, .inr (.inl o)))]) hP
  have hDc : va_D A Wo := t_endD (a := [(q, .inl (cL, 1, .inr (.inl o)))]) hD
  have hFc : ∀ q, va_A Wo s.heap.size q → A q := t_endF (a := []) hDc hS hA
  refine vx_calli (vx_runV (As := [.int v, .int z2, .int z3, .int z4]) (rest := [.int (nI 0), .ref q]) ⟨hx, hb, hml, hown, hts⟩ (c_X8_feedWave2 l hl0 D cI cL Wo h x sn th un ju ch tm ba v z2 z3 z4 hO s.heap.size) (cwV 4 hts gL_feedWave_X8_feedWave rfl rfl rfl (by decide +kernel) ⟨Nat.le_of_ble_eq_true rfl, Nat.le_of_ble_eq_true rfl⟩) ⟨t_wPcX_blind, va_recv hK hPc (ci := 8) (q0 := 0) rfl hfs, fun U hU hW => ⟨rfl, by rw [hU], by rw [hU]; exact hPc, va_K.moved hW.alike hK, hDc.weaken (fun _ _ _ _ => trivial), by rw [hU]; exact (hX.narrow hFc).moved hW⟩⟩ rfl rfl hl.1 rfl (lv_room (Nat.le_of_ble_eq_true rfl)) dL_feedWave_9 ⟨Nat.le_of_ble_eq_true rfl, Nat.le_of_ble_eq_true rfl⟩) hS (fun q _ h => hFc q h) hFc (fun q _ h => hFc q h) (fun E ce q9 u t H1 locs ht hvm hw hB hz1 hk1 hS hce hcv hcl => ?_) (fun r1 u t H1 locs ht hvm hw hB hz1 hk1 hS => ?_)
  · obtain ⟨⟨hw, hO1⟩, hP1, hK1, hD1⟩ := hB
    rw [ht] at hP1
    obtain ⟨hP, hD⟩ := t_jend (a := [(q, .inl (cL, 1, .inr (.inl o)))]) hP hD hk1 hFc hP1 hD1
    have hP : va_P D vwCl ((q, .inl (cL, 1, .inr (.inl o))) :: u) H1 := hP
    have hD : va_D A ((q, .inl (cL, 1, .inr (.inl o))) :: u) := hD
    clear hP1 hD1 hK1 hPc hDc hFc hvm hz1 hk1
    clear ht
    rcases hw with ⟨hE, hxc⟩ | ⟨hE, hxc⟩
    · subst hE
      refine vx_catch (own := RL) (name := "java/lang/IllegalArgumentException") hown (tableOf []) ⟨0, 14, 17, 13⟩ (tableOf [(0, 14, 21, 15)]) (by rw [htb]; rfl) (fun z hz => absurd hz List.not_mem_nil) (by decide +kernel) (by decide) (hts (.classLink RL 13 "java/lang/IllegalArgumentException") (List.mem_of_getElem? (i := 1) rfl)) (va_Nw.use rfl hX.2.2.2.2.2.2.2.1) hce hcv hcl ?_
      refine lv_astore (lv' := [(6, .ref q9), (0, .ref h), (1, .int v), (2, .int z2), (3, .int z3), (4, .int z4), (5, .ref q)]) hx hb dL_feedWave_17 hl (by decide) rfl (fun ls hl => ?_)
      refine lv_iconst (v := ((nI 1) : Int32)) hx hb dL_feedWave_19 (by decide +kernel) ?_
      exact W.iret (v := (nI 1)) hx hb hr (fun t ht hW => ⟨⟨_, ((q, .inl (cL, 1, .inr (.inl o))) :: u), rfl, ⟨_, u, rfl, Or.inr (Or.inl ⟨rfl, hxc, hO1⟩)⟩, ⟨by rw [ht]; exact hP, va_K.moved hW.alike hK, hD⟩⟩, hS.F ht⟩) hS.2.2 dL_feedWave_20 hlocks
    · subst hE
      refine vx_catch (own := RL) (name := "java/lang/IllegalStateException") hown (tableOf [(0, 14, 17, 13)]) ⟨0, 14, 21, 15⟩ (tableOf []) (by rw [htb]; rfl) (fun z hz => by cases List.mem_singleton.mp hz; exact Or.inr ⟨by decide, _, (hts (.classLink RL 13 "java/lang/IllegalArgumentException") (List.mem_of_getElem? (i := 1) rfl)), hX.2.2.2.2.2.2.2.2.2.2.1⟩) (by decide +kernel) (by decide) (hts (.classLink RL 15 "java/lang/IllegalStateException") (List.mem_of_getElem? (i := 2) rfl)) (va_Nw.use rfl hX.2.2.2.2.2.2.2.2.1) hce hcv hcl ?_
      refine lv_astore (lv' := [(6, .ref q9), (0, .ref h), (1, .int v), (2, .int z2), (3, .int z3), (4, .int z4), (5, .ref q)]) hx hb dL_feedWave_21 hl (by decide) rfl (fun ls hl => ?_)
      refine lv_iconst (v := ((nI 2) : Int32)) hx hb dL_feedWave_23 (by decide +kernel) ?_
      exact W.iret (v := (nI 2)) hx hb hr (fun t ht hW => ⟨⟨_, ((q, .inl (cL, 1, .inr (.inl o))) :: u), rfl, ⟨_, u, rfl, Or.inr (Or.inr ⟨rfl, hxc, hO1⟩)⟩, ⟨by rw [ht]; exact hP, va_K.moved hW.alike hK, hD⟩⟩, hS.F ht⟩) hS.2.2 dL_feedWave_24 hlocks
  · obtain ⟨⟨hP1, hK1, hD1⟩, hz9⟩ := hB
    rw [ht] at hP1
    obtain ⟨hP, hD⟩ := t_jend (a := [(q, .inl (cL, 1, .inr (.inl o)))]) hP hD hk1 hFc hP1 hD1
    have hP : va_P D vwCl ((q, .inl (cL, 1, .inr (.inl o))) :: u) H1 := hP
    have hD : va_D A ((q, .inl (cL, 1, .inr (.inl o))) :: u) := hD
    clear hP1 hD1 hK1 hPc hDc hFc hvm hz1 hk1
    clear ht
    generalize H1 = H at hP hS ⊢
    refine lv_i2l hx hb dL_feedWave_12 rfl ?_
    refine va_last hx hb hK hP hD hS 0 1 rfl rfl (vp_in_nI (by decide) (by decide)) dL_feedWave_13 (fun H locs hP hD hS => ?_)
    have hP : va_P D vwCl ((q, .inl (cL, 1, .inr (.inl (vp_updL o (nI 0).toNatClampNeg r1.toInt64)))) :: u) H := hP
    have hD : va_D A ((q, .inl (cL, 1, .inr (.inl (vp_updL o (nI 0).toNatClampNeg r1.toInt64)))) :: u) := hD
    refine lv_goto (tgt := 25) hx hb dL_feedWave_14 (by decide) ?_
    refine lv_iconst (v := ((nI 0) : Int32)) hx hb dL_feedWave_25 (by decide +kernel) ?_
    exact W.iret (v := (nI 0)) hx hb hr (fun t ht hW => ⟨⟨_, ((q, .inl (cL, 1, .inr (.inl (vp_updL o (nI 0).toNatClampNeg r1.toInt64)))) :: u), rfl, ⟨_, u, rfl, Or.inl ⟨rfl, r1, (by rw [nI_clamp (by decide)]; exact pk_uLs), hw⟩⟩, ⟨by rw [ht]; exact hP, va_K.moved hW.alike hK, hD⟩⟩, hS.F ht⟩) hS.2.2 dL_feedWave_26 hlocks

set_option maxHeartbeats 4000000 in
set_option maxRecDepth 100000 in
theorem c_L_feedNoise (l : Launch) (hl0 : l.stackTraces = false) (D : va_G) (cI cL : ClassId) (Wo : va_W) (h : Nat) (x : Nat → Int32) (sn : Nat) (th un ju ch : Int32) (tm : Nat) (ba : Int32) (v z2 z3 : Int32) (q : Nat) (o : Nat → Int64) (hO : t_obj cI h x sn th un ju ch tm ba Wo) (sz : Nat) : Met l yL_feedNoise wsL_feedNoise ({ frames := 9, cells := 1, slots := 6, locals := 385 }) (t_wPcX D cI cL [.ref h, .int v, .int z2, .int z3, .ref q] ((q, .inl (cL, 1, .inr (.inl o))) :: Wo) sz) (t_Qi D cI cL (fun r w1 => ∃ (o1 : Nat → Int64) (W1 : va_W), w1 = (q, .inl (cL, 1, .inr (.inl o1))) :: W1 ∧ ((r = nI 0 ∧ ∃ a : Int32, o1 0 = a.toInt64 ∧ ∃ j1 j2 : Nat, z2 = nI j1 ∧ z3 = nI j2 ∧ (0 ≤ j1 ∧ j1 ≤ 100) ∧ (1 ≤ j2 ∧ j2 ≤ 400) ∧ sn + j2 ≤ 1024 ∧ a = nI (sn + j2) ∧ t_obj cI h (t_add x sn (fun i => t_noise (t_z v (i + 1)) j1) j2) (sn + j2) th un ju ch tm ba W1) ∨ (r = nI 1 ∧ (¬ (t_ir z2 (nI 0) (nI 100) ∧ t_ir z3 (nI 1) (nI 400))) ∧ t_obj cI h x sn th un ju ch tm ba W1) ∨ (r = nI 2 ∧ ((t_ir z2 (nI 0) (nI 100) ∧ t_ir z3 (nI 1) (nI 400)) ∧ ∃ j : Nat, z3 = nI j ∧ j ≤ 400 ∧ 1024 < sn + j) ∧ t_obj cI h x sn th un ju ch tm ba W1))) (va_A ((q, .inl (cL, 1, .inr (.inl o))) :: Wo) sz)) 1 6 (va_A ((q, .inl (cL, 1, .inr (.inl o))) :: Wo) sz) := by
  refine t_ofH (Qc := t_Qi D cI cL (fun r w1 => ∃ (o1 : Nat → Int64) (W1 : va_W), w1 = (q, .inl (cL, 1, .inr (.inl o1))) :: W1 ∧ ((r = nI 0 ∧ ∃ a : Int32, o1 0 = a.toInt64 ∧ ∃ j1 j2 : Nat, z2 = nI j1 ∧ z3 = nI j2 ∧ (0 ≤ j1 ∧ j1 ≤ 100) ∧ (1 ≤ j2 ∧ j2 ≤ 400) ∧ sn + j2 ≤ 1024 ∧ a = nI (sn + j2) ∧ t_obj cI h (t_add x sn (fun i => t_noise (t_z v (i + 1)) j1) j2) (sn + j2) th un ju ch tm ba W1) ∨ (r = nI 1 ∧ (¬ (t_ir z2 (nI 0) (nI 100) ∧ t_ir z3 (nI 1) (nI 400))) ∧ t_obj cI h x sn th un ju ch tm ba W1) ∨ (r = nI 2 ∧ ((t_ir z2 (nI 0) (nI 100) ∧ t_ir z3 (nI 1) (nI 400)) ∧ ∃ j : Nat, z3 = nI j ∧ j ≤ 400 ∧ 1024 < sn + j) ∧ t_obj cI h x sn th un ju ch tm ba W1)))) (by decide) rfl (Nat.le_of_ble_eq_true rfl) ?_
  intro p e s m below meth c ls A hx hb hml hown hts hr hlocks htb hK hP hD hS hA hX hl
  have hown : s.vm.findClass RL = some m.cls := hown
  have hl : lv_has ls 6 [(0, .ref h), (1, .int v), (2, .int z2), (3, .int z3), (4, .ref q)] := hl
  obtain ⟨fs, hfs⟩ := t_obj_hd hO
  refine lv_aload hx hb dL_feedNoise_0 (lv_at hl 4 rfl) ?_
  refine lv_iconst (v := ((nI 0) : Int32)) hx hb dL_feedNoise_2 (by decide +kernel) ?_
  refine lv_aload_n hx hb dL_feedNoise_3 rfl (lv_at hl 0 rfl) ?_
  refine lv_iload_n hx hb dL_feedNoise_4 rfl (lv_at hl 1 rfl) ?_
  refine lv_iload_n hx hb dL_feedNoise_5 rfl (lv_at hl 2 rfl) ?_
  refine lv_iload_n hx hb dL_feedNoise_6 rfl (lv_at hl 3 rfl) ?_
  have hPc : va_P D vwCl Wo s.heap := t_endP (a := [(q, .inl (cL, 1, .inr (.inl o)))]) hP
  have hDc : va_D A Wo := t_endD (a := [(q, .inl (cL, 1, .inr (.inl o)))]) hD
  have hFc : ∀ q, va_A Wo s.heap.size q → A q := t_endF (a := []) hDc hS hA
  refine vx_calli (vx_runV (As := [.int v, .int z2, .int z3]) (rest := [.int (nI 0), .ref q]) ⟨hx, hb, hml, hown, hts⟩ (c_X8_feedNoise2 l hl0 D cI cL Wo h x sn th un ju ch tm ba v z2 z3 hO s.heap.size) (cwV 3 hts gL_feedNoise_X8_feedNoise rfl rfl rfl (by decide +kernel) ⟨Nat.le_of_ble_eq_true rfl, Nat.le_of_ble_eq_true rfl⟩) ⟨t_wPcX_blind, va_recv hK hPc (ci := 8) (q0 := 0) rfl hfs, fun U hU hW => ⟨rfl, by rw [hU], by rw [hU]; exact hPc, va_K.moved hW.alike hK, hDc.weaken (fun _ _ _ _ => trivial), by rw [hU]; exact (hX.narrow hFc).moved hW⟩⟩ rfl rfl hl.1 rfl (lv_room (Nat.le_of_ble_eq_true rfl)) dL_feedNoise_7 ⟨Nat.le_of_ble_eq_true rfl, Nat.le_of_ble_eq_true rfl⟩) hS (fun q _ h => hFc q h) hFc (fun q _ h => hFc q h) (fun E ce q9 u t H1 locs ht hvm hw hB hz1 hk1 hS hce hcv hcl => ?_) (fun r1 u t H1 locs ht hvm hw hB hz1 hk1 hS => ?_)
  · obtain ⟨⟨hw, hO1⟩, hP1, hK1, hD1⟩ := hB
    rw [ht] at hP1
    obtain ⟨hP, hD⟩ := t_jend (a := [(q, .inl (cL, 1, .inr (.inl o)))]) hP hD hk1 hFc hP1 hD1
    have hP : va_P D vwCl ((q, .inl (cL, 1, .inr (.inl o))) :: u) H1 := hP
    have hD : va_D A ((q, .inl (cL, 1, .inr (.inl o))) :: u) := hD
    clear hP1 hD1 hK1 hPc hDc hFc hvm hz1 hk1
    clear ht
    rcases hw with ⟨hE, hxc⟩ | ⟨hE, hxc⟩
    · subst hE
      refine vx_catch (own := RL) (name := "java/lang/IllegalArgumentException") hown (tableOf []) ⟨0, 12, 15, 13⟩ (tableOf [(0, 12, 19, 15)]) (by rw [htb]; rfl) (fun z hz => absurd hz List.not_mem_nil) (by decide +kernel) (by decide) (hts (.classLink RL 13 "java/lang/IllegalArgumentException") (List.mem_of_getElem? (i := 1) rfl)) (va_Nw.use rfl hX.2.2.2.2.2.2.2.1) hce hcv hcl ?_
      refine lv_astore (lv' := [(5, .ref q9), (0, .ref h), (1, .int v), (2, .int z2), (3, .int z3), (4, .ref q)]) hx hb dL_feedNoise_15 hl (by decide) rfl (fun ls hl => ?_)
      refine lv_iconst (v := ((nI 1) : Int32)) hx hb dL_feedNoise_17 (by decide +kernel) ?_
      exact W.iret (v := (nI 1)) hx hb hr (fun t ht hW => ⟨⟨_, ((q, .inl (cL, 1, .inr (.inl o))) :: u), rfl, ⟨_, u, rfl, Or.inr (Or.inl ⟨rfl, hxc, hO1⟩)⟩, ⟨by rw [ht]; exact hP, va_K.moved hW.alike hK, hD⟩⟩, hS.F ht⟩) hS.2.2 dL_feedNoise_18 hlocks
    · subst hE
      refine vx_catch (own := RL) (name := "java/lang/IllegalStateException") hown (tableOf [(0, 12, 15, 13)]) ⟨0, 12, 19, 15⟩ (tableOf []) (by rw [htb]; rfl) (fun z hz => by cases List.mem_singleton.mp hz; exact Or.inr ⟨by decide, _, (hts (.classLink RL 13 "java/lang/IllegalArgumentException") (List.mem_of_getElem? (i := 1) rfl)), hX.2.2.2.2.2.2.2.2.2.2.1⟩) (by decide +kernel) (by decide) (hts (.classLink RL 15 "java/lang/IllegalStateException") (List.mem_of_getElem? (i := 2) rfl)) (va_Nw.use rfl hX.2.2.2.2.2.2.2.2.1) hce hcv hcl ?_
      refine lv_astore (lv' := [(5, .ref q9), (0, .ref h), (1, .int v), (2, .int z2), (3, .int z3), (4, .ref q)]) hx hb dL_feedNoise_19 hl (by decide) rfl (fun ls hl => ?_)
      refine lv_iconst (v := ((nI 2) : Int32)) hx hb dL_feedNoise_21 (by decide +kernel) ?_
      exact W.iret (v := (nI 2)) hx hb hr (fun t ht hW => ⟨⟨_, ((q, .inl (cL, 1, .inr (.inl o))) :: u), rfl, ⟨_, u, rfl, Or.inr (Or.inr ⟨rfl, hxc, hO1⟩)⟩, ⟨by rw [ht]; exact hP, va_K.moved hW.alike hK, hD⟩⟩, hS.F ht⟩) hS.2.2 dL_feedNoise_22 hlocks
  · obtain ⟨⟨hP1, hK1, hD1⟩, hz9⟩ := hB
    rw [ht] at hP1
    obtain ⟨hP, hD⟩ := t_jend (a := [(q, .inl (cL, 1, .inr (.inl o)))]) hP hD hk1 hFc hP1 hD1
    have hP : va_P D vwCl ((q, .inl (cL, 1, .inr (.inl o))) :: u) H1 := hP
    have hD : va_D A ((q, .inl (cL, 1, .inr (.inl o))) :: u) := hD
    clear hP1 hD1 hK1 hPc hDc hFc hvm hz1 hk1
    clear ht
    generalize H1 = H at hP hS ⊢
    refine lv_i2l hx hb dL_feedNoise_10 rfl ?_
    refine va_last hx hb hK hP hD hS 0 1 rfl rfl (vp_in_nI (by decide) (by decide)) dL_feedNoise_11 (fun H locs hP hD hS => ?_)
    have hP : va_P D vwCl ((q, .inl (cL, 1, .inr (.inl (vp_updL o (nI 0).toNatClampNeg r1.toInt64)))) :: u) H := hP
    have hD : va_D A ((q, .inl (cL, 1, .inr (.inl (vp_updL o (nI 0).toNatClampNeg r1.toInt64)))) :: u) := hD
    refine lv_goto (tgt := 23) hx hb dL_feedNoise_12 (by decide) ?_
    refine lv_iconst (v := ((nI 0) : Int32)) hx hb dL_feedNoise_23 (by decide +kernel) ?_
    exact W.iret (v := (nI 0)) hx hb hr (fun t ht hW => ⟨⟨_, ((q, .inl (cL, 1, .inr (.inl (vp_updL o (nI 0).toNatClampNeg r1.toInt64)))) :: u), rfl, ⟨_, u, rfl, Or.inl ⟨rfl, r1, (by rw [nI_clamp (by decide)]; exact pk_uLs), hw⟩⟩, ⟨by rw [ht]; exact hP, va_K.moved hW.alike hK, hD⟩⟩, hS.F ht⟩) hS.2.2 dL_feedNoise_24 hlocks

set_option maxHeartbeats 4000000 in
set_option maxRecDepth 100000 in
theorem c_L_setThreshold (l : Launch) (hl0 : l.stackTraces = false) (D : va_G) (cI cL : ClassId) (Wo : va_W) (h : Nat) (x : Nat → Int32) (sn : Nat) (th un ju ch : Int32) (tm : Nat) (ba : Int32) (v : Int32) (q : Nat) (o : Nat → Int64) (hO : t_obj cI h x sn th un ju ch tm ba Wo) (sz : Nat) : Met l yL_setThreshold wsL_setThreshold ({ frames := 9, cells := 1, slots := 6, locals := 382 }) (t_wPcX D cI cL [.ref h, .int v, .ref q] ((q, .inl (cL, 1, .inr (.inl o))) :: Wo) sz) (t_Qi D cI cL (fun r w1 => ∃ (o1 : Nat → Int64) (W1 : va_W), w1 = (q, .inl (cL, 1, .inr (.inl o1))) :: W1 ∧ ((r = nI 0 ∧ ∃ a : Int32, o1 0 = a.toInt64 ∧ (t_ir v (nI 1) (nI 100) ∧ a = th) ∧ t_obj cI h x sn v un ju ch tm ba W1) ∨ (r = nI 1 ∧ (¬ t_ir v (nI 1) (nI 100)) ∧ t_obj cI h x sn th un ju ch tm ba W1))) (va_A ((q, .inl (cL, 1, .inr (.inl o))) :: Wo) sz)) 1 6 (va_A ((q, .inl (cL, 1, .inr (.inl o))) :: Wo) sz) := by
  refine t_ofH (Qc := t_Qi D cI cL (fun r w1 => ∃ (o1 : Nat → Int64) (W1 : va_W), w1 = (q, .inl (cL, 1, .inr (.inl o1))) :: W1 ∧ ((r = nI 0 ∧ ∃ a : Int32, o1 0 = a.toInt64 ∧ (t_ir v (nI 1) (nI 100) ∧ a = th) ∧ t_obj cI h x sn v un ju ch tm ba W1) ∨ (r = nI 1 ∧ (¬ t_ir v (nI 1) (nI 100)) ∧ t_obj cI h x sn th un ju ch tm ba W1)))) (by decide) rfl (Nat.le_of_ble_eq_true rfl) ?_
  intro p e s m below meth c ls A hx hb hml hown hts hr hlocks htb hK hP hD hS hA hX hl
  have hown : s.vm.findClass RL = some m.cls := hown
  have hl : lv_has ls 4 [(0, .ref h), (1, .int v), (2, .ref q)] := hl
  obtain ⟨fs, hfs⟩ := t_obj_hd hO
  refine lv_aload_n hx hb dL_setThreshold_0 rfl (lv_at hl 2 rfl) ?_
  refine lv_iconst (v := ((nI 0) : Int32)) hx hb dL_setThreshold_1 (by decide +kernel) ?_
  refine lv_aload_n hx hb dL_setThreshold_2 rfl (lv_at hl 0 rfl) ?_
  refine lv_iload_n hx hb dL_setThreshold_3 rfl (lv_at hl 1 rfl) ?_
  have hPc : va_P D vwCl Wo s.heap := t_endP (a := [(q, .inl (cL, 1, .inr (.inl o)))]) hP
  have hDc : va_D A Wo := t_endD (a := [(q, .inl (cL, 1, .inr (.inl o)))]) hD
  have hFc : ∀ q, va_A Wo s.heap.size q → A q := t_endF (a := []) hDc hS hA
  refine vx_calli (vx_runV (As := [.int v]) (rest := [.int (nI 0), .ref q]) ⟨hx, hb, hml, hown, hts⟩ (c_X8_setThreshold l hl0 D cI cL Wo h x sn th un ju ch tm ba v hO s.heap.size) (cwV 1 hts gL_setThreshold_X8_setThreshold rfl rfl rfl (by decide +kernel) ⟨Nat.le_of_ble_eq_true rfl, Nat.le_of_ble_eq_true rfl⟩) ⟨t_wPcX_blind, va_recv hK hPc (ci := 8) (q0 := 0) rfl hfs, fun U hU hW => ⟨rfl, by rw [hU], by rw [hU]; exact hPc, va_K.moved hW.alike hK, hDc.weaken (fun _ _ _ _ => trivial), by rw [hU]; exact (hX.narrow hFc).moved hW⟩⟩ rfl rfl hl.1 rfl (lv_room (Nat.le_of_ble_eq_true rfl)) dL_setThreshold_4 ⟨Nat.le_of_ble_eq_true rfl, Nat.le_of_ble_eq_true rfl⟩) hS (fun q _ h => hFc q h) hFc (fun q _ h => hFc q h) (fun E ce q9 u t H1 locs ht hvm hw hB hz1 hk1 hS hce hcv hcl => ?_) (fun r1 u t H1 locs ht hvm hw hB hz1 hk1 hS => ?_)
  · obtain ⟨⟨hw, hO1⟩, hP1, hK1, hD1⟩ := hB
    rw [ht] at hP1
    obtain ⟨hP, hD⟩ := t_jend (a := [(q, .inl (cL, 1, .inr (.inl o)))]) hP hD hk1 hFc hP1 hD1
    have hP : va_P D vwCl ((q, .inl (cL, 1, .inr (.inl o))) :: u) H1 := hP
    have hD : va_D A ((q, .inl (cL, 1, .inr (.inl o))) :: u) := hD
    clear hP1 hD1 hK1 hPc hDc hFc hvm hz1 hk1
    clear ht
    obtain ⟨hE, hxc⟩ := hw
    subst hE
    refine vx_catch (own := RL) (name := "java/lang/IllegalArgumentException") hown (tableOf []) ⟨0, 9, 12, 13⟩ (tableOf []) (by rw [htb]; rfl) (fun z hz => absurd hz List.not_mem_nil) (by decide +kernel) (by decide) (hts (.classLink RL 13 "java/lang/IllegalArgumentException") (List.mem_of_getElem? (i := 1) rfl)) (va_Nw.use rfl hX.2.2.2.2.2.2.2.1) hce hcv hcl ?_
    refine lv_astore_n (lv' := [(3, .ref q9), (0, .ref h), (1, .int v), (2, .ref q)]) hx hb dL_setThreshold_12 rfl hl (by decide) rfl (fun ls hl => ?_)
    refine lv_iconst (v := ((nI 1) : Int32)) hx hb dL_setThreshold_13 (by decide +kernel) ?_
    exact W.iret (v := (nI 1)) hx hb hr (fun t ht hW => ⟨⟨_, ((q, .inl (cL, 1, .inr (.inl o))) :: u), rfl, ⟨_, u, rfl, Or.inr ⟨rfl, hxc, hO1⟩⟩, ⟨by rw [ht]; exact hP, va_K.moved hW.alike hK, hD⟩⟩, hS.F ht⟩) hS.2.2 dL_setThreshold_14 hlocks
  · obtain ⟨⟨hP1, hK1, hD1⟩, hz9⟩ := hB
    rw [ht] at hP1
    obtain ⟨hP, hD⟩ := t_jend (a := [(q, .inl (cL, 1, .inr (.inl o)))]) hP hD hk1 hFc hP1 hD1
    have hP : va_P D vwCl ((q, .inl (cL, 1, .inr (.inl o))) :: u) H1 := hP
    have hD : va_D A ((q, .inl (cL, 1, .inr (.inl o))) :: u) := hD
    clear hP1 hD1 hK1 hPc hDc hFc hvm hz1 hk1
    clear ht
    generalize H1 = H at hP hS ⊢
    refine lv_i2l hx hb dL_setThreshold_7 rfl ?_
    refine va_last hx hb hK hP hD hS 0 1 rfl rfl (vp_in_nI (by decide) (by decide)) dL_setThreshold_8 (fun H locs hP hD hS => ?_)
    have hP : va_P D vwCl ((q, .inl (cL, 1, .inr (.inl (vp_updL o (nI 0).toNatClampNeg r1.toInt64)))) :: u) H := hP
    have hD : va_D A ((q, .inl (cL, 1, .inr (.inl (vp_updL o (nI 0).toNatClampNeg r1.toInt64)))) :: u) := hD
    refine lv_goto (tgt := 15) hx hb dL_setThreshold_9 (by decide) ?_
    refine lv_iconst (v := ((nI 0) : Int32)) hx hb dL_setThreshold_15 (by decide +kernel) ?_
    exact W.iret (v := (nI 0)) hx hb hr (fun t ht hW => ⟨⟨_, ((q, .inl (cL, 1, .inr (.inl (vp_updL o (nI 0).toNatClampNeg r1.toInt64)))) :: u), rfl, ⟨_, u, rfl, Or.inl ⟨rfl, r1, (by rw [nI_clamp (by decide)]; exact pk_uLs), hw⟩⟩, ⟨by rw [ht]; exact hP, va_K.moved hW.alike hK, hD⟩⟩, hS.F ht⟩) hS.2.2 dL_setThreshold_16 hlocks

set_option maxHeartbeats 4000000 in
set_option maxRecDepth 100000 in
theorem c_L_setCosts (l : Launch) (hl0 : l.stackTraces = false) (D : va_G) (cI cL : ClassId) (Wo : va_W) (h : Nat) (x : Nat → Int32) (sn : Nat) (th un ju ch : Int32) (tm : Nat) (ba : Int32) (v z2 z3 : Int32) (hO : t_obj cI h x sn th un ju ch tm ba Wo) (sz : Nat) : Met l yL_setCosts wsL_setCosts ({ frames := 9, cells := 1, slots := 6, locals := 383 }) (t_wPcX D cI cL [.ref h, .int v, .int z2, .int z3] Wo sz) (t_Qi D cI cL (fun r w1 => (r = nI 0 ∧ (t_ir v (nI 0) (nI 1000) ∧ t_ir z2 (nI 0) (nI 100) ∧ t_ir z3 (nI 0) (nI 1000)) ∧ t_obj cI h x sn th v z2 z3 tm ba w1) ∨ (r = nI 1 ∧ (¬ (t_ir v (nI 0) (nI 1000) ∧ t_ir z2 (nI 0) (nI 100) ∧ t_ir z3 (nI 0) (nI 1000))) ∧ t_obj cI h x sn th un ju ch tm ba w1)) (va_A Wo sz)) 1 6 (va_A Wo sz) := by
  refine t_ofH (Qc := t_Qi D cI cL (fun r w1 => (r = nI 0 ∧ (t_ir v (nI 0) (nI 1000) ∧ t_ir z2 (nI 0) (nI 100) ∧ t_ir z3 (nI 0) (nI 1000)) ∧ t_obj cI h x sn th v z2 z3 tm ba w1) ∨ (r = nI 1 ∧ (¬ (t_ir v (nI 0) (nI 1000) ∧ t_ir z2 (nI 0) (nI 100) ∧ t_ir z3 (nI 0) (nI 1000))) ∧ t_obj cI h x sn th un ju ch tm ba w1))) (by decide) rfl (Nat.le_of_ble_eq_true rfl) ?_
  intro p e s m below meth c ls A hx hb hml hown hts hr hlocks htb hK hP hD hS hA hX hl
  have hown : s.vm.findClass RL = some m.cls := hown
  have hl : lv_has ls 5 [(0, .ref h), (1, .int v), (2, .int z2), (3, .int z3)] := hl
  obtain ⟨fs, hfs⟩ := t_obj_hd hO
  refine lv_aload_n hx hb dL_setCosts_0 rfl (lv_at hl 0 rfl) ?_
  refine lv_iload_n hx hb dL_setCosts_1 rfl (lv_at hl 1 rfl) ?_
  refine lv_iload_n hx hb dL_setCosts_2 rfl (lv_at hl 2 rfl) ?_
  refine lv_iload_n hx hb dL_setCosts_3 rfl (lv_at hl 3 rfl) ?_
  have hPc := hP
  have hDc := hD
  have hFc : ∀ q, va_A Wo s.heap.size q → A q := t_endF (a := []) hDc hS hA
  refine vx_callv (vx_runV (As := [.int v, .int z2, .int z3]) (rest := []) ⟨hx, hb, hml, hown, hts⟩ (c_X8_setCosts l hl0 D cI cL Wo h x sn th un ju ch tm ba v z2 z3 hO s.heap.size) (cwV 3 hts gL_setCosts_X8_setCosts rfl rfl rfl (by decide +kernel) ⟨Nat.le_of_ble_eq_true rfl, Nat.le_of_ble_eq_true rfl⟩) ⟨t_wPcX_blind, va_recv hK hPc (ci := 8) (q0 := 0) rfl hfs, fun U hU hW => ⟨rfl, by rw [hU], by rw [hU]; exact hPc, va_K.moved hW.alike hK, hDc.weaken (fun _ _ _ _ => trivial), by rw [hU]; exact (hX.narrow hFc).moved hW⟩⟩ rfl rfl hl.1 rfl (lv_room (Nat.le_of_ble_eq_true rfl)) dL_setCosts_4 ⟨Nat.le_of_ble_eq_true rfl, Nat.le_of_ble_eq_true rfl⟩) hS (fun q _ h => hFc q h) hFc (fun q _ h => hFc q h) (fun E ce q9 u t H1 locs ht hvm hw hB hz1 hk1 hS hce hcv hcl => ?_) (fun u t H1 locs ht hvm hw hB hz1 hk1 hS => ?_)
  · obtain ⟨⟨hw, hO1⟩, hP1, hK1, hD1⟩ := hB
    rw [ht] at hP1
    obtain ⟨hP, hD⟩ := t_jend (a := []) hP hD hk1 hFc hP1 hD1
    have hP : va_P D vwCl u H1 := hP
    have hD : va_D A u := hD
    clear hP1 hD1 hK1 hPc hDc hFc hvm hz1 hk1
    clear ht
    obtain ⟨hE, hxc⟩ := hw
    subst hE
    refine vx_catch (own := RL) (name := "java/lang/IllegalArgumentException") hown (tableOf []) ⟨0, 7, 10, 13⟩ (tableOf []) (by rw [htb]; rfl) (fun z hz => absurd hz List.not_mem_nil) (by decide +kernel) (by decide) (hts (.classLink RL 13 "java/lang/IllegalArgumentException") (List.mem_of_getElem? (i := 1) rfl)) (va_Nw.use rfl hX.2.2.2.2.2.2.2.1) hce hcv hcl ?_
    refine lv_astore (lv' := [(4, .ref q9), (0, .ref h), (1, .int v), (2, .int z2), (3, .int z3)]) hx hb dL_setCosts_10 hl (by decide) rfl (fun ls hl => ?_)
    refine lv_iconst (v := ((nI 1) : Int32)) hx hb dL_setCosts_12 (by decide +kernel) ?_
    exact W.iret (v := (nI 1)) hx hb hr (fun t ht hW => ⟨⟨_, u, rfl, Or.inr ⟨rfl, hxc, hO1⟩, ⟨by rw [ht]; exact hP, va_K.moved hW.alike hK, hD⟩⟩, hS.F ht⟩) hS.2.2 dL_setCosts_13 hlocks
  · obtain ⟨⟨hP1, hK1, hD1⟩, hz9⟩ := hB
    rw [ht] at hP1
    obtain ⟨hP, hD⟩ := t_jend (a := []) hP hD hk1 hFc hP1 hD1
    have hP : va_P D vwCl u H1 := hP
    have hD : va_D A u := hD
    clear hP1 hD1 hK1 hPc hDc hFc hvm hz1 hk1
    clear ht
    generalize H1 = H at hP hS ⊢
    refine lv_goto (tgt := 14) hx hb dL_setCosts_7 (by decide) ?_
    refine lv_iconst (v := ((nI 0) : Int32)) hx hb dL_setCosts_14 (by decide +kernel) ?_
    exact W.iret (v := (nI 0)) hx hb hr (fun t ht hW => ⟨⟨_, u, rfl, Or.inl ⟨rfl, hw⟩, ⟨by rw [ht]; exact hP, va_K.moved hW.alike hK, hD⟩⟩, hS.F ht⟩) hS.2.2 dL_setCosts_15 hlocks

set_option maxHeartbeats 4000000 in
set_option maxRecDepth 100000 in
theorem c_L_setTemperament (l : Launch) (hl0 : l.stackTraces = false) (D : va_G) (cI cL : ClassId) (Wo : va_W) (h : Nat) (x : Nat → Int32) (sn : Nat) (th un ju ch : Int32) (tm : Nat) (ba : Int32) (v z2 : Int32) (hO : t_obj cI h x sn th un ju ch tm ba Wo) (sz : Nat) : Met l yL_setTemperament wsL_setTemperament ({ frames := 9, cells := 1, slots := 6, locals := 382 }) (t_wPcX D cI cL [.ref h, .int v, .int z2] Wo sz) (t_Qi D cI cL (fun r w1 => (r = nI 0 ∧ ∃ j : Nat, v = nI j ∧ j ≤ 2 ∧ t_ir z2 (nI 64) (nI 8192) ∧ t_obj cI h x sn th un ju ch j z2 w1) ∨ (r = nI 1 ∧ (¬ (t_ir v (nI 0) (nI 2) ∧ t_ir z2 (nI 64) (nI 8192))) ∧ t_obj cI h x sn th un ju ch tm ba w1)) (va_A Wo sz)) 1 6 (va_A Wo sz) := by
  refine t_ofH (Qc := t_Qi D cI cL (fun r w1 => (r = nI 0 ∧ ∃ j : Nat, v = nI j ∧ j ≤ 2 ∧ t_ir z2 (nI 64) (nI 8192) ∧ t_obj cI h x sn th un ju ch j z2 w1) ∨ (r = nI 1 ∧ (¬ (t_ir v (nI 0) (nI 2) ∧ t_ir z2 (nI 64) (nI 8192))) ∧ t_obj cI h x sn th un ju ch tm ba w1))) (by decide) rfl (Nat.le_of_ble_eq_true rfl) ?_
  intro p e s m below meth c ls A hx hb hml hown hts hr hlocks htb hK hP hD hS hA hX hl
  have hown : s.vm.findClass RL = some m.cls := hown
  have hl : lv_has ls 4 [(0, .ref h), (1, .int v), (2, .int z2)] := hl
  obtain ⟨fs, hfs⟩ := t_obj_hd hO
  refine lv_aload_n hx hb dL_setTemperament_0 rfl (lv_at hl 0 rfl) ?_
  refine lv_iload_n hx hb dL_setTemperament_1 rfl (lv_at hl 1 rfl) ?_
  refine lv_iload_n hx hb dL_setTemperament_2 rfl (lv_at hl 2 rfl) ?_
  have hPc := hP
  have hDc := hD
  have hFc : ∀ q, va_A Wo s.heap.size q → A q := t_endF (a := []) hDc hS hA
  refine vx_callv (vx_runV (As := [.int v, .int z2]) (rest := []) ⟨hx, hb, hml, hown, hts⟩ (c_X8_setTemperament l hl0 D cI cL Wo h x sn th un ju ch tm ba v z2 hO s.heap.size) (cwV 2 hts gL_setTemperament_X8_setTemperament rfl rfl rfl (by decide +kernel) ⟨Nat.le_of_ble_eq_true rfl, Nat.le_of_ble_eq_true rfl⟩) ⟨t_wPcX_blind, va_recv hK hPc (ci := 8) (q0 := 0) rfl hfs, fun U hU hW => ⟨rfl, by rw [hU], by rw [hU]; exact hPc, va_K.moved hW.alike hK, hDc.weaken (fun _ _ _ _ => trivial), by rw [hU]; exact (hX.narrow hFc).moved hW⟩⟩ rfl rfl hl.1 rfl (lv_room (Nat.le_of_ble_eq_true rfl)) dL_setTemperament_3 ⟨Nat.le_of_ble_eq_true rfl, Nat.le_of_ble_eq_true rfl⟩) hS (fun q _ h => hFc q h) hFc (fun q _ h => hFc q h) (fun E ce q9 u t H1 locs ht hvm hw hB hz1 hk1 hS hce hcv hcl => ?_) (fun u t H1 locs ht hvm hw hB hz1 hk1 hS => ?_)
  · obtain ⟨⟨hw, hO1⟩, hP1, hK1, hD1⟩ := hB
    rw [ht] at hP1
    obtain ⟨hP, hD⟩ := t_jend (a := []) hP hD hk1 hFc hP1 hD1
    have hP : va_P D vwCl u H1 := hP
    have hD : va_D A u := hD
    clear hP1 hD1 hK1 hPc hDc hFc hvm hz1 hk1
    clear ht
    obtain ⟨hE, hxc⟩ := hw
    subst hE
    refine vx_catch (own := RL) (name := "java/lang/IllegalArgumentException") hown (tableOf []) ⟨0, 6, 9, 13⟩ (tableOf []) (by rw [htb]; rfl) (fun z hz => absurd hz List.not_mem_nil) (by decide +kernel) (by decide) (hts (.classLink RL 13 "java/lang/IllegalArgumentException") (List.mem_of_getElem? (i := 1) rfl)) (va_Nw.use rfl hX.2.2.2.2.2.2.2.1) hce hcv hcl ?_
    refine lv_astore_n (lv' := [(3, .ref q9), (0, .ref h), (1, .int v), (2, .int z2)]) hx hb dL_setTemperament_9 rfl hl (by decide) rfl (fun ls hl => ?_)
    refine lv_iconst (v := ((nI 1) : Int32)) hx hb dL_setTemperament_10 (by decide +kernel) ?_
    exact W.iret (v := (nI 1)) hx hb hr (fun t ht hW => ⟨⟨_, u, rfl, Or.inr ⟨rfl, hxc, hO1⟩, ⟨by rw [ht]; exact hP, va_K.moved hW.alike hK, hD⟩⟩, hS.F ht⟩) hS.2.2 dL_setTemperament_11 hlocks
  · obtain ⟨⟨hP1, hK1, hD1⟩, hz9⟩ := hB
    rw [ht] at hP1
    obtain ⟨hP, hD⟩ := t_jend (a := []) hP hD hk1 hFc hP1 hD1
    have hP : va_P D vwCl u H1 := hP
    have hD : va_D A u := hD
    clear hP1 hD1 hK1 hPc hDc hFc hvm hz1 hk1
    clear ht
    generalize H1 = H at hP hS ⊢
    refine lv_goto (tgt := 12) hx hb dL_setTemperament_6 (by decide) ?_
    refine lv_iconst (v := ((nI 0) : Int32)) hx hb dL_setTemperament_12 (by decide +kernel) ?_
    exact W.iret (v := (nI 0)) hx hb hr (fun t ht hW => ⟨⟨_, u, rfl, Or.inl ⟨rfl, hw⟩, ⟨by rw [ht]; exact hP, va_K.moved hW.alike hK, hD⟩⟩, hS.F ht⟩) hS.2.2 dL_setTemperament_13 hlocks

set_option maxHeartbeats 4000000 in
set_option maxRecDepth 100000 in
theorem c_L_sample (l : Launch) (hl0 : l.stackTraces = false) (D : va_G) (cI cL : ClassId) (Wo : va_W) (h : Nat) (x : Nat → Int32) (sn : Nat) (th un ju ch : Int32) (tm : Nat) (ba : Int32) (v : Int32) (q : Nat) (o : Nat → Int64) (hO : t_obj cI h x sn th un ju ch tm ba Wo) (sz : Nat) : Met l yL_sample wsL_sample ({ frames := 9, cells := 1, slots := 6, locals := 381 }) (t_wPcX D cI cL [.ref h, .int v, .ref q] ((q, .inl (cL, 1, .inr (.inl o))) :: Wo) sz) (t_Qi D cI cL (fun r w1 => ∃ (o1 : Nat → Int64) (W1 : va_W), w1 = (q, .inl (cL, 1, .inr (.inl o1))) :: W1 ∧ ((r = nI 0 ∧ ∃ a : Int32, o1 0 = a.toInt64 ∧ (∃ j : Nat, v = nI j ∧ j < sn ∧ a = x j) ∧ t_obj cI h x sn th un ju ch tm ba W1) ∨ (r = nI 1 ∧ ((v < 0 ∨ nI sn ≤ v)) ∧ t_obj cI h x sn th un ju ch tm ba W1))) (va_A ((q, .inl (cL, 1, .inr (.inl o))) :: Wo) sz)) 1 6 (va_A ((q, .inl (cL, 1, .inr (.inl o))) :: Wo) sz) := by
  refine t_ofH (Qc := t_Qi D cI cL (fun r w1 => ∃ (o1 : Nat → Int64) (W1 : va_W), w1 = (q, .inl (cL, 1, .inr (.inl o1))) :: W1 ∧ ((r = nI 0 ∧ ∃ a : Int32, o1 0 = a.toInt64 ∧ (∃ j : Nat, v = nI j ∧ j < sn ∧ a = x j) ∧ t_obj cI h x sn th un ju ch tm ba W1) ∨ (r = nI 1 ∧ ((v < 0 ∨ nI sn ≤ v)) ∧ t_obj cI h x sn th un ju ch tm ba W1)))) (by decide) rfl (Nat.le_of_ble_eq_true rfl) ?_
  intro p e s m below meth c ls A hx hb hml hown hts hr hlocks htb hK hP hD hS hA hX hl
  have hown : s.vm.findClass RL = some m.cls := hown
  have hl : lv_has ls 4 [(0, .ref h), (1, .int v), (2, .ref q)] := hl
  obtain ⟨fs, hfs⟩ := t_obj_hd hO
  refine lv_aload_n hx hb dL_sample_0 rfl (lv_at hl 2 rfl) ?_
  refine lv_iconst (v := ((nI 0) : Int32)) hx hb dL_sample_1 (by decide +kernel) ?_
  refine lv_aload_n hx hb dL_sample_2 rfl (lv_at hl 0 rfl) ?_
  refine lv_iload_n hx hb dL_sample_3 rfl (lv_at hl 1 rfl) ?_
  have hPc : va_P D vwCl Wo s.heap := t_endP (a := [(q, .inl (cL, 1, .inr (.inl o)))]) hP
  have hDc : va_D A Wo := t_endD (a := [(q, .inl (cL, 1, .inr (.inl o)))]) hD
  have hFc : ∀ q, va_A Wo s.heap.size q → A q := t_endF (a := []) hDc hS hA
  refine vx_calli (vx_runV (As := [.int v]) (rest := [.int (nI 0), .ref q]) ⟨hx, hb, hml, hown, hts⟩ (c_X8_sample l hl0 D cI cL Wo h x sn th un ju ch tm ba v hO s.heap.size) (cwV 1 hts gL_sample_X8_sample rfl rfl rfl (by decide +kernel) ⟨Nat.le_of_ble_eq_true rfl, Nat.le_of_ble_eq_true rfl⟩) ⟨t_wPcX_blind, va_recv hK hPc (ci := 8) (q0 := 0) rfl hfs, fun U hU hW => ⟨rfl, by rw [hU], by rw [hU]; exact hPc, va_K.moved hW.alike hK, hDc.weaken (fun _ _ _ _ => trivial), by rw [hU]; exact (hX.narrow hFc).moved hW⟩⟩ rfl rfl hl.1 rfl (lv_room (Nat.le_of_ble_eq_true rfl)) dL_sample_4 ⟨Nat.le_of_ble_eq_true rfl, Nat.le_of_ble_eq_true rfl⟩) hS (fun q _ h => hFc q h) hFc (fun q _ h => hFc q h) (fun E ce q9 u t H1 locs ht hvm hw hB hz1 hk1 hS hce hcv hcl => ?_) (fun r1 u t H1 locs ht hvm hw hB hz1 hk1 hS => ?_)
  · obtain ⟨⟨hw, hO1⟩, hP1, hK1, hD1⟩ := hB
    rw [ht] at hP1
    obtain ⟨hP, hD⟩ := t_jend (a := [(q, .inl (cL, 1, .inr (.inl o)))]) hP hD hk1 hFc hP1 hD1
    have hP : va_P D vwCl ((q, .inl (cL, 1, .inr (.inl o))) :: u) H1 := hP
    have hD : va_D A ((q, .inl (cL, 1, .inr (.inl o))) :: u) := hD
    clear hP1 hD1 hK1 hPc hDc hFc hvm hz1 hk1
    clear ht
    obtain ⟨hE, hxc⟩ := hw
    subst hE
    refine vx_catch (own := RL) (name := "java/lang/IndexOutOfBoundsException") hown (tableOf []) ⟨0, 9, 12, 39⟩ (tableOf []) (by rw [htb]; rfl) (fun z hz => absurd hz List.not_mem_nil) (by decide +kernel) (by decide) (hts (.classLink RL 39 "java/lang/IndexOutOfBoundsException") (List.mem_of_getElem? (i := 1) rfl)) (va_Nw.use rfl hX.2.2.2.2.2.2.2.2.2.1) hce hcv hcl ?_
    refine lv_astore_n (lv' := [(3, .ref q9), (0, .ref h), (1, .int v), (2, .ref q)]) hx hb dL_sample_12 rfl hl (by decide) rfl (fun ls hl => ?_)
    refine lv_iconst (v := ((nI 1) : Int32)) hx hb dL_sample_13 (by decide +kernel) ?_
    exact W.iret (v := (nI 1)) hx hb hr (fun t ht hW => ⟨⟨_, ((q, .inl (cL, 1, .inr (.inl o))) :: u), rfl, ⟨_, u, rfl, Or.inr ⟨rfl, hxc, hO1⟩⟩, ⟨by rw [ht]; exact hP, va_K.moved hW.alike hK, hD⟩⟩, hS.F ht⟩) hS.2.2 dL_sample_14 hlocks
  · obtain ⟨⟨hP1, hK1, hD1⟩, hz9⟩ := hB
    rw [ht] at hP1
    obtain ⟨hP, hD⟩ := t_jend (a := [(q, .inl (cL, 1, .inr (.inl o)))]) hP hD hk1 hFc hP1 hD1
    have hP : va_P D vwCl ((q, .inl (cL, 1, .inr (.inl o))) :: u) H1 := hP
    have hD : va_D A ((q, .inl (cL, 1, .inr (.inl o))) :: u) := hD
    clear hP1 hD1 hK1 hPc hDc hFc hvm hz1 hk1
    clear ht
    generalize H1 = H at hP hS ⊢
    refine lv_i2l hx hb dL_sample_7 rfl ?_
    refine va_last hx hb hK hP hD hS 0 1 rfl rfl (vp_in_nI (by decide) (by decide)) dL_sample_8 (fun H locs hP hD hS => ?_)
    have hP : va_P D vwCl ((q, .inl (cL, 1, .inr (.inl (vp_updL o (nI 0).toNatClampNeg r1.toInt64)))) :: u) H := hP
    have hD : va_D A ((q, .inl (cL, 1, .inr (.inl (vp_updL o (nI 0).toNatClampNeg r1.toInt64)))) :: u) := hD
    refine lv_goto (tgt := 15) hx hb dL_sample_9 (by decide) ?_
    refine lv_iconst (v := ((nI 0) : Int32)) hx hb dL_sample_15 (by decide +kernel) ?_
    exact W.iret (v := (nI 0)) hx hb hr (fun t ht hW => ⟨⟨_, ((q, .inl (cL, 1, .inr (.inl (vp_updL o (nI 0).toNatClampNeg r1.toInt64)))) :: u), rfl, ⟨_, u, rfl, Or.inl ⟨rfl, r1, (by rw [nI_clamp (by decide)]; exact pk_uLs), hw⟩⟩, ⟨by rw [ht]; exact hP, va_K.moved hW.alike hK, hD⟩⟩, hS.F ht⟩) hS.2.2 dL_sample_16 hlocks

set_option maxHeartbeats 4000000 in
set_option maxRecDepth 100000 in
theorem c_L_energy (l : Launch) (hl0 : l.stackTraces = false) (D : va_G) (cI cL : ClassId) (Wo : va_W) (h : Nat) (x : Nat → Int32) (sn : Nat) (th un ju ch : Int32) (tm : Nat) (ba : Int32) (v z2 : Int32) (q : Nat) (o : Nat → Int64) (hO : t_obj cI h x sn th un ju ch tm ba Wo) (sz : Nat) : Met l yL_energy wsL_energy ({ frames := 9, cells := 1, slots := 6, locals := 382 }) (t_wPcX D cI cL [.ref h, .int v, .int z2, .ref q] ((q, .inl (cL, 1, .inr (.inl o))) :: Wo) sz) (t_Qi D cI cL (fun r w1 => ∃ (o1 : Nat → Int64) (W1 : va_W), w1 = (q, .inl (cL, 1, .inr (.inl o1))) :: W1 ∧ ((r = nI 0 ∧ ∃ a : Int32, o1 0 = a.toInt64 ∧ (∃ j t0 : Nat, v = nI j ∧ j < t_F sn ∧ z2 = nI t0 ∧ 0 ≤ t0 ∧ t0 ≤ 64 ∧ a = t_ps x (j * 32 + t0) 0) ∧ t_obj cI h x sn th un ju ch tm ba W1) ∨ (r = nI 1 ∧ ((v < 0 ∨ nI (t_F sn) ≤ v)) ∧ t_obj cI h x sn th un ju ch tm ba W1) ∨ (r = nI 2 ∧ ((∃ j : Nat, v = nI j ∧ j < t_F sn) ∧ (z2 < nI 0 ∨ nI 64 < z2)) ∧ t_obj cI h x sn th un ju ch tm ba W1))) (va_A ((q, .inl (cL, 1, .inr (.inl o))) :: Wo) sz)) 1 6 (va_A ((q, .inl (cL, 1, .inr (.inl o))) :: Wo) sz) := by
  refine t_ofH (Qc := t_Qi D cI cL (fun r w1 => ∃ (o1 : Nat → Int64) (W1 : va_W), w1 = (q, .inl (cL, 1, .inr (.inl o1))) :: W1 ∧ ((r = nI 0 ∧ ∃ a : Int32, o1 0 = a.toInt64 ∧ (∃ j t0 : Nat, v = nI j ∧ j < t_F sn ∧ z2 = nI t0 ∧ 0 ≤ t0 ∧ t0 ≤ 64 ∧ a = t_ps x (j * 32 + t0) 0) ∧ t_obj cI h x sn th un ju ch tm ba W1) ∨ (r = nI 1 ∧ ((v < 0 ∨ nI (t_F sn) ≤ v)) ∧ t_obj cI h x sn th un ju ch tm ba W1) ∨ (r = nI 2 ∧ ((∃ j : Nat, v = nI j ∧ j < t_F sn) ∧ (z2 < nI 0 ∨ nI 64 < z2)) ∧ t_obj cI h x sn th un ju ch tm ba W1)))) (by decide) rfl (Nat.le_of_ble_eq_true rfl) ?_
  intro p e s m below meth c ls A hx hb hml hown hts hr hlocks htb hK hP hD hS hA hX hl
  have hown : s.vm.findClass RL = some m.cls := hown
  have hl : lv_has ls 5 [(0, .ref h), (1, .int v), (2, .int z2), (3, .ref q)] := hl
  obtain ⟨fs, hfs⟩ := t_obj_hd hO
  refine lv_aload_n hx hb dL_energy_0 rfl (lv_at hl 3 rfl) ?_
  refine lv_iconst (v := ((nI 0) : Int32)) hx hb dL_energy_1 (by decide +kernel) ?_
  refine lv_aload_n hx hb dL_energy_2 rfl (lv_at hl 0 rfl) ?_
  refine lv_iload_n hx hb dL_energy_3 rfl (lv_at hl 1 rfl) ?_
  refine lv_iload_n hx hb dL_energy_4 rfl (lv_at hl 2 rfl) ?_
  have hPc : va_P D vwCl Wo s.heap := t_endP (a := [(q, .inl (cL, 1, .inr (.inl o)))]) hP
  have hDc : va_D A Wo := t_endD (a := [(q, .inl (cL, 1, .inr (.inl o)))]) hD
  have hFc : ∀ q, va_A Wo s.heap.size q → A q := t_endF (a := []) hDc hS hA
  refine vx_calli (vx_runV (As := [.int v, .int z2]) (rest := [.int (nI 0), .ref q]) ⟨hx, hb, hml, hown, hts⟩ (c_X8_energy l hl0 D cI cL Wo h x sn th un ju ch tm ba v z2 hO s.heap.size) (cwV 2 hts gL_energy_X8_energy rfl rfl rfl (by decide +kernel) ⟨Nat.le_of_ble_eq_true rfl, Nat.le_of_ble_eq_true rfl⟩) ⟨t_wPcX_blind, va_recv hK hPc (ci := 8) (q0 := 0) rfl hfs, fun U hU hW => ⟨rfl, by rw [hU], by rw [hU]; exact hPc, va_K.moved hW.alike hK, hDc.weaken (fun _ _ _ _ => trivial), by rw [hU]; exact (hX.narrow hFc).moved hW⟩⟩ rfl rfl hl.1 rfl (lv_room (Nat.le_of_ble_eq_true rfl)) dL_energy_5 ⟨Nat.le_of_ble_eq_true rfl, Nat.le_of_ble_eq_true rfl⟩) hS (fun q _ h => hFc q h) hFc (fun q _ h => hFc q h) (fun E ce q9 u t H1 locs ht hvm hw hB hz1 hk1 hS hce hcv hcl => ?_) (fun r1 u t H1 locs ht hvm hw hB hz1 hk1 hS => ?_)
  · obtain ⟨⟨hw, hO1⟩, hP1, hK1, hD1⟩ := hB
    rw [ht] at hP1
    obtain ⟨hP, hD⟩ := t_jend (a := [(q, .inl (cL, 1, .inr (.inl o)))]) hP hD hk1 hFc hP1 hD1
    have hP : va_P D vwCl ((q, .inl (cL, 1, .inr (.inl o))) :: u) H1 := hP
    have hD : va_D A ((q, .inl (cL, 1, .inr (.inl o))) :: u) := hD
    clear hP1 hD1 hK1 hPc hDc hFc hvm hz1 hk1
    clear ht
    rcases hw with ⟨hE, hxc⟩ | ⟨hE, hxc⟩
    · subst hE
      refine vx_catch (own := RL) (name := "java/lang/IndexOutOfBoundsException") hown (tableOf []) ⟨0, 10, 13, 39⟩ (tableOf [(0, 10, 17, 13)]) (by rw [htb]; rfl) (fun z hz => absurd hz List.not_mem_nil) (by decide +kernel) (by decide) (hts (.classLink RL 39 "java/lang/IndexOutOfBoundsException") (List.mem_of_getElem? (i := 1) rfl)) (va_Nw.use rfl hX.2.2.2.2.2.2.2.2.2.1) hce hcv hcl ?_
      refine lv_astore (lv' := [(4, .ref q9), (0, .ref h), (1, .int v), (2, .int z2), (3, .ref q)]) hx hb dL_energy_13 hl (by decide) rfl (fun ls hl => ?_)
      refine lv_iconst (v := ((nI 1) : Int32)) hx hb dL_energy_15 (by decide +kernel) ?_
      exact W.iret (v := (nI 1)) hx hb hr (fun t ht hW => ⟨⟨_, ((q, .inl (cL, 1, .inr (.inl o))) :: u), rfl, ⟨_, u, rfl, Or.inr (Or.inl ⟨rfl, hxc, hO1⟩)⟩, ⟨by rw [ht]; exact hP, va_K.moved hW.alike hK, hD⟩⟩, hS.F ht⟩) hS.2.2 dL_energy_16 hlocks
    · subst hE
      refine vx_catch (own := RL) (name := "java/lang/IllegalArgumentException") hown (tableOf [(0, 10, 13, 39)]) ⟨0, 10, 17, 13⟩ (tableOf []) (by rw [htb]; rfl) (fun z hz => by cases List.mem_singleton.mp hz; exact Or.inr ⟨by decide, _, (hts (.classLink RL 39 "java/lang/IndexOutOfBoundsException") (List.mem_of_getElem? (i := 1) rfl)), hX.2.2.2.2.2.2.2.2.2.2.2.1⟩) (by decide +kernel) (by decide) (hts (.classLink RL 13 "java/lang/IllegalArgumentException") (List.mem_of_getElem? (i := 2) rfl)) (va_Nw.use rfl hX.2.2.2.2.2.2.2.1) hce hcv hcl ?_
      refine lv_astore (lv' := [(4, .ref q9), (0, .ref h), (1, .int v), (2, .int z2), (3, .ref q)]) hx hb dL_energy_17 hl (by decide) rfl (fun ls hl => ?_)
      refine lv_iconst (v := ((nI 2) : Int32)) hx hb dL_energy_19 (by decide +kernel) ?_
      exact W.iret (v := (nI 2)) hx hb hr (fun t ht hW => ⟨⟨_, ((q, .inl (cL, 1, .inr (.inl o))) :: u), rfl, ⟨_, u, rfl, Or.inr (Or.inr ⟨rfl, hxc, hO1⟩)⟩, ⟨by rw [ht]; exact hP, va_K.moved hW.alike hK, hD⟩⟩, hS.F ht⟩) hS.2.2 dL_energy_20 hlocks
  · obtain ⟨⟨hP1, hK1, hD1⟩, hz9⟩ := hB
    rw [ht] at hP1
    obtain ⟨hP, hD⟩ := t_jend (a := [(q, .inl (cL, 1, .inr (.inl o)))]) hP hD hk1 hFc hP1 hD1
    have hP : va_P D vwCl ((q, .inl (cL, 1, .inr (.inl o))) :: u) H1 := hP
    have hD : va_D A ((q, .inl (cL, 1, .inr (.inl o))) :: u) := hD
    clear hP1 hD1 hK1 hPc hDc hFc hvm hz1 hk1
    clear ht
    generalize H1 = H at hP hS ⊢
    refine lv_i2l hx hb dL_energy_8 rfl ?_
    refine va_last hx hb hK hP hD hS 0 1 rfl rfl (vp_in_nI (by decide) (by decide)) dL_energy_9 (fun H locs hP hD hS => ?_)
    have hP : va_P D vwCl ((q, .inl (cL, 1, .inr (.inl (vp_updL o (nI 0).toNatClampNeg r1.toInt64)))) :: u) H := hP
    have hD : va_D A ((q, .inl (cL, 1, .inr (.inl (vp_updL o (nI 0).toNatClampNeg r1.toInt64)))) :: u) := hD
    refine lv_goto (tgt := 21) hx hb dL_energy_10 (by decide) ?_
    refine lv_iconst (v := ((nI 0) : Int32)) hx hb dL_energy_21 (by decide +kernel) ?_
    exact W.iret (v := (nI 0)) hx hb hr (fun t ht hW => ⟨⟨_, ((q, .inl (cL, 1, .inr (.inl (vp_updL o (nI 0).toNatClampNeg r1.toInt64)))) :: u), rfl, ⟨_, u, rfl, Or.inl ⟨rfl, r1, (by rw [nI_clamp (by decide)]; exact pk_uLs), hw⟩⟩, ⟨by rw [ht]; exact hP, va_K.moved hW.alike hK, hD⟩⟩, hS.F ht⟩) hS.2.2 dL_energy_22 hlocks

set_option maxHeartbeats 4000000 in
set_option maxRecDepth 100000 in
theorem c_L_autocorrelation (l : Launch) (hl0 : l.stackTraces = false) (D : va_G) (cI cL : ClassId) (Wo : va_W) (h : Nat) (x : Nat → Int32) (sn : Nat) (th un ju ch : Int32) (tm : Nat) (ba : Int32) (v z2 : Int32) (q : Nat) (o : Nat → Int64) (hO : t_obj cI h x sn th un ju ch tm ba Wo) (sz : Nat) : Met l yL_autocorrelation wsL_autocorrelation ({ frames := 9, cells := 1, slots := 6, locals := 382 }) (t_wPcX D cI cL [.ref h, .int v, .int z2, .ref q] ((q, .inl (cL, 1, .inr (.inl o))) :: Wo) sz) (t_Qi D cI cL (fun r w1 => ∃ (o1 : Nat → Int64) (W1 : va_W), w1 = (q, .inl (cL, 1, .inr (.inl o1))) :: W1 ∧ ((r = nI 0 ∧ ∃ a : Int32, o1 0 = a.toInt64 ∧ (∃ j t0 : Nat, v = nI j ∧ j < t_F sn ∧ z2 = nI t0 ∧ 1 ≤ t0 ∧ t0 ≤ 64 ∧ a = t_ps x (j * 32) t0) ∧ t_obj cI h x sn th un ju ch tm ba W1) ∨ (r = nI 1 ∧ ((v < 0 ∨ nI (t_F sn) ≤ v)) ∧ t_obj cI h x sn th un ju ch tm ba W1) ∨ (r = nI 2 ∧ ((∃ j : Nat, v = nI j ∧ j < t_F sn) ∧ (z2 < nI 1 ∨ nI 64 < z2)) ∧ t_obj cI h x sn th un ju ch tm ba W1))) (va_A ((q, .inl (cL, 1, .inr (.inl o))) :: Wo) sz)) 1 6 (va_A ((q, .inl (cL, 1, .inr (.inl o))) :: Wo) sz) := by
  refine t_ofH (Qc := t_Qi D cI cL (fun r w1 => ∃ (o1 : Nat → Int64) (W1 : va_W), w1 = (q, .inl (cL, 1, .inr (.inl o1))) :: W1 ∧ ((r = nI 0 ∧ ∃ a : Int32, o1 0 = a.toInt64 ∧ (∃ j t0 : Nat, v = nI j ∧ j < t_F sn ∧ z2 = nI t0 ∧ 1 ≤ t0 ∧ t0 ≤ 64 ∧ a = t_ps x (j * 32) t0) ∧ t_obj cI h x sn th un ju ch tm ba W1) ∨ (r = nI 1 ∧ ((v < 0 ∨ nI (t_F sn) ≤ v)) ∧ t_obj cI h x sn th un ju ch tm ba W1) ∨ (r = nI 2 ∧ ((∃ j : Nat, v = nI j ∧ j < t_F sn) ∧ (z2 < nI 1 ∨ nI 64 < z2)) ∧ t_obj cI h x sn th un ju ch tm ba W1)))) (by decide) rfl (Nat.le_of_ble_eq_true rfl) ?_
  intro p e s m below meth c ls A hx hb hml hown hts hr hlocks htb hK hP hD hS hA hX hl
  have hown : s.vm.findClass RL = some m.cls := hown
  have hl : lv_has ls 5 [(0, .ref h), (1, .int v), (2, .int z2), (3, .ref q)] := hl
  obtain ⟨fs, hfs⟩ := t_obj_hd hO
  refine lv_aload_n hx hb dL_autocorrelation_0 rfl (lv_at hl 3 rfl) ?_
  refine lv_iconst (v := ((nI 0) : Int32)) hx hb dL_autocorrelation_1 (by decide +kernel) ?_
  refine lv_aload_n hx hb dL_autocorrelation_2 rfl (lv_at hl 0 rfl) ?_
  refine lv_iload_n hx hb dL_autocorrelation_3 rfl (lv_at hl 1 rfl) ?_
  refine lv_iload_n hx hb dL_autocorrelation_4 rfl (lv_at hl 2 rfl) ?_
  have hPc : va_P D vwCl Wo s.heap := t_endP (a := [(q, .inl (cL, 1, .inr (.inl o)))]) hP
  have hDc : va_D A Wo := t_endD (a := [(q, .inl (cL, 1, .inr (.inl o)))]) hD
  have hFc : ∀ q, va_A Wo s.heap.size q → A q := t_endF (a := []) hDc hS hA
  refine vx_calli (vx_runV (As := [.int v, .int z2]) (rest := [.int (nI 0), .ref q]) ⟨hx, hb, hml, hown, hts⟩ (c_X8_autocorrelation l hl0 D cI cL Wo h x sn th un ju ch tm ba v z2 hO s.heap.size) (cwV 2 hts gL_autocorrelation_X8_autocorrelation rfl rfl rfl (by decide +kernel) ⟨Nat.le_of_ble_eq_true rfl, Nat.le_of_ble_eq_true rfl⟩) ⟨t_wPcX_blind, va_recv hK hPc (ci := 8) (q0 := 0) rfl hfs, fun U hU hW => ⟨rfl, by rw [hU], by rw [hU]; exact hPc, va_K.moved hW.alike hK, hDc.weaken (fun _ _ _ _ => trivial), by rw [hU]; exact (hX.narrow hFc).moved hW⟩⟩ rfl rfl hl.1 rfl (lv_room (Nat.le_of_ble_eq_true rfl)) dL_autocorrelation_5 ⟨Nat.le_of_ble_eq_true rfl, Nat.le_of_ble_eq_true rfl⟩) hS (fun q _ h => hFc q h) hFc (fun q _ h => hFc q h) (fun E ce q9 u t H1 locs ht hvm hw hB hz1 hk1 hS hce hcv hcl => ?_) (fun r1 u t H1 locs ht hvm hw hB hz1 hk1 hS => ?_)
  · obtain ⟨⟨hw, hO1⟩, hP1, hK1, hD1⟩ := hB
    rw [ht] at hP1
    obtain ⟨hP, hD⟩ := t_jend (a := [(q, .inl (cL, 1, .inr (.inl o)))]) hP hD hk1 hFc hP1 hD1
    have hP : va_P D vwCl ((q, .inl (cL, 1, .inr (.inl o))) :: u) H1 := hP
    have hD : va_D A ((q, .inl (cL, 1, .inr (.inl o))) :: u) := hD
    clear hP1 hD1 hK1 hPc hDc hFc hvm hz1 hk1
    clear ht
    rcases hw with ⟨hE, hxc⟩ | ⟨hE, hxc⟩
    · subst hE
      refine vx_catch (own := RL) (name := "java/lang/IndexOutOfBoundsException") hown (tableOf []) ⟨0, 10, 13, 39⟩ (tableOf [(0, 10, 17, 13)]) (by rw [htb]; rfl) (fun z hz => absurd hz List.not_mem_nil) (by decide +kernel) (by decide) (hts (.classLink RL 39 "java/lang/IndexOutOfBoundsException") (List.mem_of_getElem? (i := 1) rfl)) (va_Nw.use rfl hX.2.2.2.2.2.2.2.2.2.1) hce hcv hcl ?_
      refine lv_astore (lv' := [(4, .ref q9), (0, .ref h), (1, .int v), (2, .int z2), (3, .ref q)]) hx hb dL_autocorrelation_13 hl (by decide) rfl (fun ls hl => ?_)
      refine lv_iconst (v := ((nI 1) : Int32)) hx hb dL_autocorrelation_15 (by decide +kernel) ?_
      exact W.iret (v := (nI 1)) hx hb hr (fun t ht hW => ⟨⟨_, ((q, .inl (cL, 1, .inr (.inl o))) :: u), rfl, ⟨_, u, rfl, Or.inr (Or.inl ⟨rfl, hxc, hO1⟩)⟩, ⟨by rw [ht]; exact hP, va_K.moved hW.alike hK, hD⟩⟩, hS.F ht⟩) hS.2.2 dL_autocorrelation_16 hlocks
    · subst hE
      refine vx_catch (own := RL) (name := "java/lang/IllegalArgumentException") hown (tableOf [(0, 10, 13, 39)]) ⟨0, 10, 17, 13⟩ (tableOf []) (by rw [htb]; rfl) (fun z hz => by cases List.mem_singleton.mp hz; exact Or.inr ⟨by decide, _, (hts (.classLink RL 39 "java/lang/IndexOutOfBoundsException") (List.mem_of_getElem? (i := 1) rfl)), hX.2.2.2.2.2.2.2.2.2.2.2.1⟩) (by decide +kernel) (by decide) (hts (.classLink RL 13 "java/lang/IllegalArgumentException") (List.mem_of_getElem? (i := 2) rfl)) (va_Nw.use rfl hX.2.2.2.2.2.2.2.1) hce hcv hcl ?_
      refine lv_astore (lv' := [(4, .ref q9), (0, .ref h), (1, .int v), (2, .int z2), (3, .ref q)]) hx hb dL_autocorrelation_17 hl (by decide) rfl (fun ls hl => ?_)
      refine lv_iconst (v := ((nI 2) : Int32)) hx hb dL_autocorrelation_19 (by decide +kernel) ?_
      exact W.iret (v := (nI 2)) hx hb hr (fun t ht hW => ⟨⟨_, ((q, .inl (cL, 1, .inr (.inl o))) :: u), rfl, ⟨_, u, rfl, Or.inr (Or.inr ⟨rfl, hxc, hO1⟩)⟩, ⟨by rw [ht]; exact hP, va_K.moved hW.alike hK, hD⟩⟩, hS.F ht⟩) hS.2.2 dL_autocorrelation_20 hlocks
  · obtain ⟨⟨hP1, hK1, hD1⟩, hz9⟩ := hB
    rw [ht] at hP1
    obtain ⟨hP, hD⟩ := t_jend (a := [(q, .inl (cL, 1, .inr (.inl o)))]) hP hD hk1 hFc hP1 hD1
    have hP : va_P D vwCl ((q, .inl (cL, 1, .inr (.inl o))) :: u) H1 := hP
    have hD : va_D A ((q, .inl (cL, 1, .inr (.inl o))) :: u) := hD
    clear hP1 hD1 hK1 hPc hDc hFc hvm hz1 hk1
    clear ht
    generalize H1 = H at hP hS ⊢
    refine lv_i2l hx hb dL_autocorrelation_8 rfl ?_
    refine va_last hx hb hK hP hD hS 0 1 rfl rfl (vp_in_nI (by decide) (by decide)) dL_autocorrelation_9 (fun H locs hP hD hS => ?_)
    have hP : va_P D vwCl ((q, .inl (cL, 1, .inr (.inl (vp_updL o (nI 0).toNatClampNeg r1.toInt64)))) :: u) H := hP
    have hD : va_D A ((q, .inl (cL, 1, .inr (.inl (vp_updL o (nI 0).toNatClampNeg r1.toInt64)))) :: u) := hD
    refine lv_goto (tgt := 21) hx hb dL_autocorrelation_10 (by decide) ?_
    refine lv_iconst (v := ((nI 0) : Int32)) hx hb dL_autocorrelation_21 (by decide +kernel) ?_
    exact W.iret (v := (nI 0)) hx hb hr (fun t ht hW => ⟨⟨_, ((q, .inl (cL, 1, .inr (.inl (vp_updL o (nI 0).toNatClampNeg r1.toInt64)))) :: u), rfl, ⟨_, u, rfl, Or.inl ⟨rfl, r1, (by rw [nI_clamp (by decide)]; exact pk_uLs), hw⟩⟩, ⟨by rw [ht]; exact hP, va_K.moved hW.alike hK, hD⟩⟩, hS.F ht⟩) hS.2.2 dL_autocorrelation_22 hlocks

set_option maxHeartbeats 4000000 in
set_option maxRecDepth 100000 in
theorem c_L_difference (l : Launch) (hl0 : l.stackTraces = false) (D : va_G) (cI cL : ClassId) (Wo : va_W) (h : Nat) (x : Nat → Int32) (sn : Nat) (th un ju ch : Int32) (tm : Nat) (ba : Int32) (v z2 : Int32) (q : Nat) (o : Nat → Int64) (hO : t_obj cI h x sn th un ju ch tm ba Wo) (sz : Nat) : Met l yL_difference wsL_difference ({ frames := 9, cells := 1, slots := 6, locals := 382 }) (t_wPcX D cI cL [.ref h, .int v, .int z2, .ref q] ((q, .inl (cL, 1, .inr (.inl o))) :: Wo) sz) (t_Qi D cI cL (fun r w1 => ∃ (o1 : Nat → Int64) (W1 : va_W), w1 = (q, .inl (cL, 1, .inr (.inl o1))) :: W1 ∧ ((r = nI 0 ∧ ∃ a : Int32, o1 0 = a.toInt64 ∧ (∃ j t0 : Nat, v = nI j ∧ j < t_F sn ∧ z2 = nI t0 ∧ 1 ≤ t0 ∧ t0 ≤ 64 ∧ a = t_df x j t0) ∧ t_obj cI h x sn th un ju ch tm ba W1) ∨ (r = nI 1 ∧ ((v < 0 ∨ nI (t_F sn) ≤ v)) ∧ t_obj cI h x sn th un ju ch tm ba W1) ∨ (r = nI 2 ∧ ((∃ j : Nat, v = nI j ∧ j < t_F sn) ∧ (z2 < nI 1 ∨ nI 64 < z2)) ∧ t_obj cI h x sn th un ju ch tm ba W1))) (va_A ((q, .inl (cL, 1, .inr (.inl o))) :: Wo) sz)) 1 6 (va_A ((q, .inl (cL, 1, .inr (.inl o))) :: Wo) sz) := by
  refine t_ofH (Qc := t_Qi D cI cL (fun r w1 => ∃ (o1 : Nat → Int64) (W1 : va_W), w1 = (q, .inl (cL, 1, .inr (.inl o1))) :: W1 ∧ ((r = nI 0 ∧ ∃ a : Int32, o1 0 = a.toInt64 ∧ (∃ j t0 : Nat, v = nI j ∧ j < t_F sn ∧ z2 = nI t0 ∧ 1 ≤ t0 ∧ t0 ≤ 64 ∧ a = t_df x j t0) ∧ t_obj cI h x sn th un ju ch tm ba W1) ∨ (r = nI 1 ∧ ((v < 0 ∨ nI (t_F sn) ≤ v)) ∧ t_obj cI h x sn th un ju ch tm ba W1) ∨ (r = nI 2 ∧ ((∃ j : Nat, v = nI j ∧ j < t_F sn) ∧ (z2 < nI 1 ∨ nI 64 < z2)) ∧ t_obj cI h x sn th un ju ch tm ba W1)))) (by decide) rfl (Nat.le_of_ble_eq_true rfl) ?_
  intro p e s m below meth c ls A hx hb hml hown hts hr hlocks htb hK hP hD hS hA hX hl
  have hown : s.vm.findClass RL = some m.cls := hown
  have hl : lv_has ls 5 [(0, .ref h), (1, .int v), (2, .int z2), (3, .ref q)] := hl
  obtain ⟨fs, hfs⟩ := t_obj_hd hO
  refine lv_aload_n hx hb dL_difference_0 rfl (lv_at hl 3 rfl) ?_
  refine lv_iconst (v := ((nI 0) : Int32)) hx hb dL_difference_1 (by decide +kernel) ?_
  refine lv_aload_n hx hb dL_difference_2 rfl (lv_at hl 0 rfl) ?_
  refine lv_iload_n hx hb dL_difference_3 rfl (lv_at hl 1 rfl) ?_
  refine lv_iload_n hx hb dL_difference_4 rfl (lv_at hl 2 rfl) ?_
  have hPc : va_P D vwCl Wo s.heap := t_endP (a := [(q, .inl (cL, 1, .inr (.inl o)))]) hP
  have hDc : va_D A Wo := t_endD (a := [(q, .inl (cL, 1, .inr (.inl o)))]) hD
  have hFc : ∀ q, va_A Wo s.heap.size q → A q := t_endF (a := []) hDc hS hA
  refine vx_calli (vx_runV (As := [.int v, .int z2]) (rest := [.int (nI 0), .ref q]) ⟨hx, hb, hml, hown, hts⟩ (c_X8_difference l hl0 D cI cL Wo h x sn th un ju ch tm ba v z2 hO s.heap.size) (cwV 2 hts gL_difference_X8_difference rfl rfl rfl (by decide +kernel) ⟨Nat.le_of_ble_eq_true rfl, Nat.le_of_ble_eq_true rfl⟩) ⟨t_wPcX_blind, va_recv hK hPc (ci := 8) (q0 := 0) rfl hfs, fun U hU hW => ⟨rfl, by rw [hU], by rw [hU]; exact hPc, va_K.moved hW.alike hK, hDc.weaken (fun _ _ _ _ => trivial), by rw [hU]; exact (hX.narrow hFc).moved hW⟩⟩ rfl rfl hl.1 rfl (lv_room (Nat.le_of_ble_eq_true rfl)) dL_difference_5 ⟨Nat.le_of_ble_eq_true rfl, Nat.le_of_ble_eq_true rfl⟩) hS (fun q _ h => hFc q h) hFc (fun q _ h => hFc q h) (fun E ce q9 u t H1 locs ht hvm hw hB hz1 hk1 hS hce hcv hcl => ?_) (fun r1 u t H1 locs ht hvm hw hB hz1 hk1 hS => ?_)
  · obtain ⟨⟨hw, hO1⟩, hP1, hK1, hD1⟩ := hB
    rw [ht] at hP1
    obtain ⟨hP, hD⟩ := t_jend (a := [(q, .inl (cL, 1, .inr (.inl o)))]) hP hD hk1 hFc hP1 hD1
    have hP : va_P D vwCl ((q, .inl (cL, 1, .inr (.inl o))) :: u) H1 := hP
    have hD : va_D A ((q, .inl (cL, 1, .inr (.inl o))) :: u) := hD
    clear hP1 hD1 hK1 hPc hDc hFc hvm hz1 hk1
    clear ht
    rcases hw with ⟨hE, hxc⟩ | ⟨hE, hxc⟩
    · subst hE
      refine vx_catch (own := RL) (name := "java/lang/IndexOutOfBoundsException") hown (tableOf []) ⟨0, 10, 13, 39⟩ (tableOf [(0, 10, 17, 13)]) (by rw [htb]; rfl) (fun z hz => absurd hz List.not_mem_nil) (by decide +kernel) (by decide) (hts (.classLink RL 39 "java/lang/IndexOutOfBoundsException") (List.mem_of_getElem? (i := 1) rfl)) (va_Nw.use rfl hX.2.2.2.2.2.2.2.2.2.1) hce hcv hcl ?_
      refine lv_astore (lv' := [(4, .ref q9), (0, .ref h), (1, .int v), (2, .int z2), (3, .ref q)]) hx hb dL_difference_13 hl (by decide) rfl (fun ls hl => ?_)
      refine lv_iconst (v := ((nI 1) : Int32)) hx hb dL_difference_15 (by decide +kernel) ?_
      exact W.iret (v := (nI 1)) hx hb hr (fun t ht hW => ⟨⟨_, ((q, .inl (cL, 1, .inr (.inl o))) :: u), rfl, ⟨_, u, rfl, Or.inr (Or.inl ⟨rfl, hxc, hO1⟩)⟩, ⟨by rw [ht]; exact hP, va_K.moved hW.alike hK, hD⟩⟩, hS.F ht⟩) hS.2.2 dL_difference_16 hlocks
    · subst hE
      refine vx_catch (own := RL) (name := "java/lang/IllegalArgumentException") hown (tableOf [(0, 10, 13, 39)]) ⟨0, 10, 17, 13⟩ (tableOf []) (by rw [htb]; rfl) (fun z hz => by cases List.mem_singleton.mp hz; exact Or.inr ⟨by decide, _, (hts (.classLink RL 39 "java/lang/IndexOutOfBoundsException") (List.mem_of_getElem? (i := 1) rfl)), hX.2.2.2.2.2.2.2.2.2.2.2.1⟩) (by decide +kernel) (by decide) (hts (.classLink RL 13 "java/lang/IllegalArgumentException") (List.mem_of_getElem? (i := 2) rfl)) (va_Nw.use rfl hX.2.2.2.2.2.2.2.1) hce hcv hcl ?_
      refine lv_astore (lv' := [(4, .ref q9), (0, .ref h), (1, .int v), (2, .int z2), (3, .ref q)]) hx hb dL_difference_17 hl (by decide) rfl (fun ls hl => ?_)
      refine lv_iconst (v := ((nI 2) : Int32)) hx hb dL_difference_19 (by decide +kernel) ?_
      exact W.iret (v := (nI 2)) hx hb hr (fun t ht hW => ⟨⟨_, ((q, .inl (cL, 1, .inr (.inl o))) :: u), rfl, ⟨_, u, rfl, Or.inr (Or.inr ⟨rfl, hxc, hO1⟩)⟩, ⟨by rw [ht]; exact hP, va_K.moved hW.alike hK, hD⟩⟩, hS.F ht⟩) hS.2.2 dL_difference_20 hlocks
  · obtain ⟨⟨hP1, hK1, hD1⟩, hz9⟩ := hB
    rw [ht] at hP1
    obtain ⟨hP, hD⟩ := t_jend (a := [(q, .inl (cL, 1, .inr (.inl o)))]) hP hD hk1 hFc hP1 hD1
    have hP : va_P D vwCl ((q, .inl (cL, 1, .inr (.inl o))) :: u) H1 := hP
    have hD : va_D A ((q, .inl (cL, 1, .inr (.inl o))) :: u) := hD
    clear hP1 hD1 hK1 hPc hDc hFc hvm hz1 hk1
    clear ht
    generalize H1 = H at hP hS ⊢
    refine lv_i2l hx hb dL_difference_8 rfl ?_
    refine va_last hx hb hK hP hD hS 0 1 rfl rfl (vp_in_nI (by decide) (by decide)) dL_difference_9 (fun H locs hP hD hS => ?_)
    have hP : va_P D vwCl ((q, .inl (cL, 1, .inr (.inl (vp_updL o (nI 0).toNatClampNeg r1.toInt64)))) :: u) H := hP
    have hD : va_D A ((q, .inl (cL, 1, .inr (.inl (vp_updL o (nI 0).toNatClampNeg r1.toInt64)))) :: u) := hD
    refine lv_goto (tgt := 21) hx hb dL_difference_10 (by decide) ?_
    refine lv_iconst (v := ((nI 0) : Int32)) hx hb dL_difference_21 (by decide +kernel) ?_
    exact W.iret (v := (nI 0)) hx hb hr (fun t ht hW => ⟨⟨_, ((q, .inl (cL, 1, .inr (.inl (vp_updL o (nI 0).toNatClampNeg r1.toInt64)))) :: u), rfl, ⟨_, u, rfl, Or.inl ⟨rfl, r1, (by rw [nI_clamp (by decide)]; exact pk_uLs), hw⟩⟩, ⟨by rw [ht]; exact hP, va_K.moved hW.alike hK, hD⟩⟩, hS.F ht⟩) hS.2.2 dL_difference_22 hlocks

set_option maxHeartbeats 4000000 in
set_option maxRecDepth 100000 in
theorem c_L_meanDifference (l : Launch) (hl0 : l.stackTraces = false) (D : va_G) (cI cL : ClassId) (Wo : va_W) (h : Nat) (x : Nat → Int32) (sn : Nat) (th un ju ch : Int32) (tm : Nat) (ba : Int32) (v z2 : Int32) (q : Nat) (o : Nat → Int64) (hO : t_obj cI h x sn th un ju ch tm ba Wo) (sz : Nat) : Met l yL_meanDifference wsL_meanDifference ({ frames := 9, cells := 1, slots := 6, locals := 382 }) (t_wPcX D cI cL [.ref h, .int v, .int z2, .ref q] ((q, .inl (cL, 1, .inr (.inl o))) :: Wo) sz) (t_Qi D cI cL (fun r w1 => ∃ (o1 : Nat → Int64) (W1 : va_W), w1 = (q, .inl (cL, 1, .inr (.inl o1))) :: W1 ∧ ((r = nI 0 ∧ ∃ a : Int32, o1 0 = a.toInt64 ∧ (∃ j t0 : Nat, v = nI j ∧ j < t_F sn ∧ z2 = nI t0 ∧ 1 ≤ t0 ∧ t0 ≤ 64 ∧ a = t_mean (t_df x j) (t_sm x j) t0) ∧ t_obj cI h x sn th un ju ch tm ba W1) ∨ (r = nI 1 ∧ ((v < 0 ∨ nI (t_F sn) ≤ v)) ∧ t_obj cI h x sn th un ju ch tm ba W1) ∨ (r = nI 2 ∧ ((∃ j : Nat, v = nI j ∧ j < t_F sn) ∧ (z2 < nI 1 ∨ nI 64 < z2)) ∧ t_obj cI h x sn th un ju ch tm ba W1))) (va_A ((q, .inl (cL, 1, .inr (.inl o))) :: Wo) sz)) 1 6 (va_A ((q, .inl (cL, 1, .inr (.inl o))) :: Wo) sz) := by
  refine t_ofH (Qc := t_Qi D cI cL (fun r w1 => ∃ (o1 : Nat → Int64) (W1 : va_W), w1 = (q, .inl (cL, 1, .inr (.inl o1))) :: W1 ∧ ((r = nI 0 ∧ ∃ a : Int32, o1 0 = a.toInt64 ∧ (∃ j t0 : Nat, v = nI j ∧ j < t_F sn ∧ z2 = nI t0 ∧ 1 ≤ t0 ∧ t0 ≤ 64 ∧ a = t_mean (t_df x j) (t_sm x j) t0) ∧ t_obj cI h x sn th un ju ch tm ba W1) ∨ (r = nI 1 ∧ ((v < 0 ∨ nI (t_F sn) ≤ v)) ∧ t_obj cI h x sn th un ju ch tm ba W1) ∨ (r = nI 2 ∧ ((∃ j : Nat, v = nI j ∧ j < t_F sn) ∧ (z2 < nI 1 ∨ nI 64 < z2)) ∧ t_obj cI h x sn th un ju ch tm ba W1)))) (by decide) rfl (Nat.le_of_ble_eq_true rfl) ?_
  intro p e s m below meth c ls A hx hb hml hown hts hr hlocks htb hK hP hD hS hA hX hl
  have hown : s.vm.findClass RL = some m.cls := hown
  have hl : lv_has ls 5 [(0, .ref h), (1, .int v), (2, .int z2), (3, .ref q)] := hl
  obtain ⟨fs, hfs⟩ := t_obj_hd hO
  refine lv_aload_n hx hb dL_meanDifference_0 rfl (lv_at hl 3 rfl) ?_
  refine lv_iconst (v := ((nI 0) : Int32)) hx hb dL_meanDifference_1 (by decide +kernel) ?_
  refine lv_aload_n hx hb dL_meanDifference_2 rfl (lv_at hl 0 rfl) ?_
  refine lv_iload_n hx hb dL_meanDifference_3 rfl (lv_at hl 1 rfl) ?_
  refine lv_iload_n hx hb dL_meanDifference_4 rfl (lv_at hl 2 rfl) ?_
  have hPc : va_P D vwCl Wo s.heap := t_endP (a := [(q, .inl (cL, 1, .inr (.inl o)))]) hP
  have hDc : va_D A Wo := t_endD (a := [(q, .inl (cL, 1, .inr (.inl o)))]) hD
  have hFc : ∀ q, va_A Wo s.heap.size q → A q := t_endF (a := []) hDc hS hA
  refine vx_calli (vx_runV (As := [.int v, .int z2]) (rest := [.int (nI 0), .ref q]) ⟨hx, hb, hml, hown, hts⟩ (c_X8_meanDifference l hl0 D cI cL Wo h x sn th un ju ch tm ba v z2 hO s.heap.size) (cwV 2 hts gL_meanDifference_X8_meanDifference rfl rfl rfl (by decide +kernel) ⟨Nat.le_of_ble_eq_true rfl, Nat.le_of_ble_eq_true rfl⟩) ⟨t_wPcX_blind, va_recv hK hPc (ci := 8) (q0 := 0) rfl hfs, fun U hU hW => ⟨rfl, by rw [hU], by rw [hU]; exact hPc, va_K.moved hW.alike hK, hDc.weaken (fun _ _ _ _ => trivial), by rw [hU]; exact (hX.narrow hFc).moved hW⟩⟩ rfl rfl hl.1 rfl (lv_room (Nat.le_of_ble_eq_true rfl)) dL_meanDifference_5 ⟨Nat.le_of_ble_eq_true rfl, Nat.le_of_ble_eq_true rfl⟩) hS (fun q _ h => hFc q h) hFc (fun q _ h => hFc q h) (fun E ce q9 u t H1 locs ht hvm hw hB hz1 hk1 hS hce hcv hcl => ?_) (fun r1 u t H1 locs ht hvm hw hB hz1 hk1 hS => ?_)
  · obtain ⟨⟨hw, hO1⟩, hP1, hK1, hD1⟩ := hB
    rw [ht] at hP1
    obtain ⟨hP, hD⟩ := t_jend (a := [(q, .inl (cL, 1, .inr (.inl o)))]) hP hD hk1 hFc hP1 hD1
    have hP : va_P D vwCl ((q, .inl (cL, 1, .inr (.inl o))) :: u) H1 := hP
    have hD : va_D A ((q, .inl (cL, 1, .inr (.inl o))) :: u) := hD
    clear hP1 hD1 hK1 hPc hDc hFc hvm hz1 hk1
    clear ht
    rcases hw with ⟨hE, hxc⟩ | ⟨hE, hxc⟩
    · subst hE
      refine vx_catch (own := RL) (name := "java/lang/IndexOutOfBoundsException") hown (tableOf []) ⟨0, 10, 13, 39⟩ (tableOf [(0, 10, 17, 13)]) (by rw [htb]; rfl) (fun z hz => absurd hz List.not_mem_nil) (by decide +kernel) (by decide) (hts (.classLink RL 39 "java/lang/IndexOutOfBoundsException") (List.mem_of_getElem? (i := 1) rfl)) (va_Nw.use rfl hX.2.2.2.2.2.2.2.2.2.1) hce hcv hcl ?_
      refine lv_astore (lv' := [(4, .ref q9), (0, .ref h), (1, .int v), (2, .int z2), (3, .ref q)]) hx hb dL_meanDifference_13 hl (by decide) rfl (fun ls hl => ?_)
      refine lv_iconst (v := ((nI 1) : Int32)) hx hb dL_meanDifference_15 (by decide +kernel) ?_
      exact W.iret (v := (nI 1)) hx hb hr (fun t ht hW => ⟨⟨_, ((q, .inl (cL, 1, .inr (.inl o))) :: u), rfl, ⟨_, u, rfl, Or.inr (Or.inl ⟨rfl, hxc, hO1⟩)⟩, ⟨by rw [ht]; exact hP, va_K.moved hW.alike hK, hD⟩⟩, hS.F ht⟩) hS.2.2 dL_meanDifference_16 hlocks
    · subst hE
      refine vx_catch (own := RL) (name := "java/lang/IllegalArgumentException") hown (tableOf [(0, 10, 13, 39)]) ⟨0, 10, 17, 13⟩ (tableOf []) (by rw [htb]; rfl) (fun z hz => by cases List.mem_singleton.mp hz; exact Or.inr ⟨by decide, _, (hts (.classLink RL 39 "java/lang/IndexOutOfBoundsException") (List.mem_of_getElem? (i := 1) rfl)), hX.2.2.2.2.2.2.2.2.2.2.2.1⟩) (by decide +kernel) (by decide) (hts (.classLink RL 13 "java/lang/IllegalArgumentException") (List.mem_of_getElem? (i := 2) rfl)) (va_Nw.use rfl hX.2.2.2.2.2.2.2.1) hce hcv hcl ?_
      refine lv_astore (lv' := [(4, .ref q9), (0, .ref h), (1, .int v), (2, .int z2), (3, .ref q)]) hx hb dL_meanDifference_17 hl (by decide) rfl (fun ls hl => ?_)
      refine lv_iconst (v := ((nI 2) : Int32)) hx hb dL_meanDifference_19 (by decide +kernel) ?_
      exact W.iret (v := (nI 2)) hx hb hr (fun t ht hW => ⟨⟨_, ((q, .inl (cL, 1, .inr (.inl o))) :: u), rfl, ⟨_, u, rfl, Or.inr (Or.inr ⟨rfl, hxc, hO1⟩)⟩, ⟨by rw [ht]; exact hP, va_K.moved hW.alike hK, hD⟩⟩, hS.F ht⟩) hS.2.2 dL_meanDifference_20 hlocks
  · obtain ⟨⟨hP1, hK1, hD1⟩, hz9⟩ := hB
    rw [ht] at hP1
    obtain ⟨hP, hD⟩ := t_jend (a := [(q, .inl (cL, 1, .inr (.inl o)))]) hP hD hk1 hFc hP1 hD1
    have hP : va_P D vwCl ((q, .inl (cL, 1, .inr (.inl o))) :: u) H1 := hP
    have hD : va_D A ((q, .inl (cL, 1, .inr (.inl o))) :: u) := hD
    clear hP1 hD1 hK1 hPc hDc hFc hvm hz1 hk1
    clear ht
    generalize H1 = H at hP hS ⊢
    refine lv_i2l hx hb dL_meanDifference_8 rfl ?_
    refine va_last hx hb hK hP hD hS 0 1 rfl rfl (vp_in_nI (by decide) (by decide)) dL_meanDifference_9 (fun H locs hP hD hS => ?_)
    have hP : va_P D vwCl ((q, .inl (cL, 1, .inr (.inl (vp_updL o (nI 0).toNatClampNeg r1.toInt64)))) :: u) H := hP
    have hD : va_D A ((q, .inl (cL, 1, .inr (.inl (vp_updL o (nI 0).toNatClampNeg r1.toInt64)))) :: u) := hD
    refine lv_goto (tgt := 21) hx hb dL_meanDifference_10 (by decide) ?_
    refine lv_iconst (v := ((nI 0) : Int32)) hx hb dL_meanDifference_21 (by decide +kernel) ?_
    exact W.iret (v := (nI 0)) hx hb hr (fun t ht hW => ⟨⟨_, ((q, .inl (cL, 1, .inr (.inl (vp_updL o (nI 0).toNatClampNeg r1.toInt64)))) :: u), rfl, ⟨_, u, rfl, Or.inl ⟨rfl, r1, (by rw [nI_clamp (by decide)]; exact pk_uLs), hw⟩⟩, ⟨by rw [ht]; exact hP, va_K.moved hW.alike hK, hD⟩⟩, hS.F ht⟩) hS.2.2 dL_meanDifference_22 hlocks

set_option maxHeartbeats 4000000 in
set_option maxRecDepth 100000 in
theorem c_L_candidates (l : Launch) (hl0 : l.stackTraces = false) (D : va_G) (cI cL : ClassId) (Wo : va_W) (h : Nat) (x : Nat → Int32) (sn : Nat) (th un ju ch : Int32) (tm : Nat) (ba : Int32) (v : Int32) (q : Nat) (o : Nat → Int64) (hO : t_obj cI h x sn th un ju ch tm ba Wo) (sz : Nat) : Met l yL_candidates wsL_candidates ({ frames := 9, cells := 1, slots := 6, locals := 381 }) (t_wPcX D cI cL [.ref h, .int v, .ref q] ((q, .inl (cL, 1, .inr (.inl o))) :: Wo) sz) (t_Qi D cI cL (fun r w1 => ∃ (o1 : Nat → Int64) (W1 : va_W), w1 = (q, .inl (cL, 1, .inr (.inl o1))) :: W1 ∧ ((r = nI 0 ∧ ∃ a : Int32, o1 0 = a.toInt64 ∧ (∃ j : Nat, v = nI j ∧ j < t_F sn ∧ a = nI (t_cs (t_df x j) (t_sm x j) th).length) ∧ t_obj cI h x sn th un ju ch tm ba W1) ∨ (r = nI 1 ∧ ((v < 0 ∨ nI (t_F sn) ≤ v)) ∧ t_obj cI h x sn th un ju ch tm ba W1))) (va_A ((q, .inl (cL, 1, .inr (.inl o))) :: Wo) sz)) 1 6 (va_A ((q, .inl (cL, 1, .inr (.inl o))) :: Wo) sz) := by
  refine t_ofH (Qc := t_Qi D cI cL (fun r w1 => ∃ (o1 : Nat → Int64) (W1 : va_W), w1 = (q, .inl (cL, 1, .inr (.inl o1))) :: W1 ∧ ((r = nI 0 ∧ ∃ a : Int32, o1 0 = a.toInt64 ∧ (∃ j : Nat, v = nI j ∧ j < t_F sn ∧ a = nI (t_cs (t_df x j) (t_sm x j) th).length) ∧ t_obj cI h x sn th un ju ch tm ba W1) ∨ (r = nI 1 ∧ ((v < 0 ∨ nI (t_F sn) ≤ v)) ∧ t_obj cI h x sn th un ju ch tm ba W1)))) (by decide) rfl (Nat.le_of_ble_eq_true rfl) ?_
  intro p e s m below meth c ls A hx hb hml hown hts hr hlocks htb hK hP hD hS hA hX hl
  have hown : s.vm.findClass RL = some m.cls := hown
  have hl : lv_has ls 4 [(0, .ref h), (1, .int v), (2, .ref q)] := hl
  obtain ⟨fs, hfs⟩ := t_obj_hd hO
  refine lv_aload_n hx hb dL_candidates_0 rfl (lv_at hl 2 rfl) ?_
  refine lv_iconst (v := ((nI 0) : Int32)) hx hb dL_candidates_1 (by decide +kernel) ?_
  refine lv_aload_n hx hb dL_candidates_2 rfl (lv_at hl 0 rfl) ?_
  refine lv_iload_n hx hb dL_candidates_3 rfl (lv_at hl 1 rfl) ?_
  have hPc : va_P D vwCl Wo s.heap := t_endP (a := [(q, .inl (cL, 1, .inr (.inl o)))]) hP
  have hDc : va_D A Wo := t_endD (a := [(q, .inl (cL, 1, .inr (.inl o)))]) hD
  have hFc : ∀ q, va_A Wo s.heap.size q → A q := t_endF (a := []) hDc hS hA
  refine vx_calli (vx_runV (As := [.int v]) (rest := [.int (nI 0), .ref q]) ⟨hx, hb, hml, hown, hts⟩ (c_X8_candidates l hl0 D cI cL Wo h x sn th un ju ch tm ba v hO s.heap.size) (cwV 1 hts gL_candidates_X8_candidates rfl rfl rfl (by decide +kernel) ⟨Nat.le_of_ble_eq_true rfl, Nat.le_of_ble_eq_true rfl⟩) ⟨t_wPcX_blind, va_recv hK hPc (ci := 8) (q0 := 0) rfl hfs, fun U hU hW => ⟨rfl, by rw [hU], by rw [hU]; exact hPc, va_K.moved hW.alike hK, hDc.weaken (fun _ _ _ _ => trivial), by rw [hU]; exact (hX.narrow hFc).moved hW⟩⟩ rfl rfl hl.1 rfl (lv_room (Nat.le_of_ble_eq_true rfl)) dL_candidates_4 ⟨Nat.le_of_ble_eq_true rfl, Nat.le_of_ble_eq_true rfl⟩) hS (fun q _ h => hFc q h) hFc (fun q _ h => hFc q h) (fun E ce q9 u t H1 locs ht hvm hw hB hz1 hk1 hS hce hcv hcl => ?_) (fun r1 u t H1 locs ht hvm hw hB hz1 hk1 hS => ?_)
  · obtain ⟨⟨hw, hO1⟩, hP1, hK1, hD1⟩ := hB
    rw [ht] at hP1
    obtain ⟨hP, hD⟩ := t_jend (a := [(q, .inl (cL, 1, .inr (.inl o)))]) hP hD hk1 hFc hP1 hD1
    have hP : va_P D vwCl ((q, .inl (cL, 1, .inr (.inl o))) :: u) H1 := hP
    have hD : va_D A ((q, .inl (cL, 1, .inr (.inl o))) :: u) := hD
    clear hP1 hD1 hK1 hPc hDc hFc hvm hz1 hk1
    clear ht
    obtain ⟨hE, hxc⟩ := hw
    subst hE
    refine vx_catch (own := RL) (name := "java/lang/IndexOutOfBoundsException") hown (tableOf []) ⟨0, 9, 12, 39⟩ (tableOf []) (by rw [htb]; rfl) (fun z hz => absurd hz List.not_mem_nil) (by decide +kernel) (by decide) (hts (.classLink RL 39 "java/lang/IndexOutOfBoundsException") (List.mem_of_getElem? (i := 1) rfl)) (va_Nw.use rfl hX.2.2.2.2.2.2.2.2.2.1) hce hcv hcl ?_
    refine lv_astore_n (lv' := [(3, .ref q9), (0, .ref h), (1, .int v), (2, .ref q)]) hx hb dL_candidates_12 rfl hl (by decide) rfl (fun ls hl => ?_)
    refine lv_iconst (v := ((nI 1) : Int32)) hx hb dL_candidates_13 (by decide +kernel) ?_
    exact W.iret (v := (nI 1)) hx hb hr (fun t ht hW => ⟨⟨_, ((q, .inl (cL, 1, .inr (.inl o))) :: u), rfl, ⟨_, u, rfl, Or.inr ⟨rfl, hxc, hO1⟩⟩, ⟨by rw [ht]; exact hP, va_K.moved hW.alike hK, hD⟩⟩, hS.F ht⟩) hS.2.2 dL_candidates_14 hlocks
  · obtain ⟨⟨hP1, hK1, hD1⟩, hz9⟩ := hB
    rw [ht] at hP1
    obtain ⟨hP, hD⟩ := t_jend (a := [(q, .inl (cL, 1, .inr (.inl o)))]) hP hD hk1 hFc hP1 hD1
    have hP : va_P D vwCl ((q, .inl (cL, 1, .inr (.inl o))) :: u) H1 := hP
    have hD : va_D A ((q, .inl (cL, 1, .inr (.inl o))) :: u) := hD
    clear hP1 hD1 hK1 hPc hDc hFc hvm hz1 hk1
    clear ht
    generalize H1 = H at hP hS ⊢
    refine lv_i2l hx hb dL_candidates_7 rfl ?_
    refine va_last hx hb hK hP hD hS 0 1 rfl rfl (vp_in_nI (by decide) (by decide)) dL_candidates_8 (fun H locs hP hD hS => ?_)
    have hP : va_P D vwCl ((q, .inl (cL, 1, .inr (.inl (vp_updL o (nI 0).toNatClampNeg r1.toInt64)))) :: u) H := hP
    have hD : va_D A ((q, .inl (cL, 1, .inr (.inl (vp_updL o (nI 0).toNatClampNeg r1.toInt64)))) :: u) := hD
    refine lv_goto (tgt := 15) hx hb dL_candidates_9 (by decide) ?_
    refine lv_iconst (v := ((nI 0) : Int32)) hx hb dL_candidates_15 (by decide +kernel) ?_
    exact W.iret (v := (nI 0)) hx hb hr (fun t ht hW => ⟨⟨_, ((q, .inl (cL, 1, .inr (.inl (vp_updL o (nI 0).toNatClampNeg r1.toInt64)))) :: u), rfl, ⟨_, u, rfl, Or.inl ⟨rfl, r1, (by rw [nI_clamp (by decide)]; exact pk_uLs), hw⟩⟩, ⟨by rw [ht]; exact hP, va_K.moved hW.alike hK, hD⟩⟩, hS.F ht⟩) hS.2.2 dL_candidates_16 hlocks

set_option maxHeartbeats 4000000 in
set_option maxRecDepth 100000 in
theorem c_L_candidateLag (l : Launch) (hl0 : l.stackTraces = false) (D : va_G) (cI cL : ClassId) (Wo : va_W) (h : Nat) (x : Nat → Int32) (sn : Nat) (th un ju ch : Int32) (tm : Nat) (ba : Int32) (v z2 : Int32) (q : Nat) (o : Nat → Int64) (hO : t_obj cI h x sn th un ju ch tm ba Wo) (sz : Nat) : Met l yL_candidateLag wsL_candidateLag ({ frames := 9, cells := 1, slots := 6, locals := 382 }) (t_wPcX D cI cL [.ref h, .int v, .int z2, .ref q] ((q, .inl (cL, 1, .inr (.inl o))) :: Wo) sz) (t_Qi D cI cL (fun r w1 => ∃ (o1 : Nat → Int64) (W1 : va_W), w1 = (q, .inl (cL, 1, .inr (.inl o1))) :: W1 ∧ ((r = nI 0 ∧ ∃ a : Int32, o1 0 = a.toInt64 ∧ (∃ j c0 : Nat, v = nI j ∧ j < t_F sn ∧ z2 = nI c0 ∧ c0 < (t_cs (t_df x j) (t_sm x j) th).length ∧ a = nI ((t_cs (t_df x j) (t_sm x j) th).getD c0 0)) ∧ t_obj cI h x sn th un ju ch tm ba W1) ∨ (r = nI 1 ∧ (((v < 0 ∨ nI (t_F sn) ≤ v) ∨ ∃ j : Nat, v = nI j ∧ j < t_F sn ∧ (z2 < 0 ∨ nI (t_cs (t_df x j) (t_sm x j) th).length ≤ z2))) ∧ t_obj cI h x sn th un ju ch tm ba W1))) (va_A ((q, .inl (cL, 1, .inr (.inl o))) :: Wo) sz)) 1 6 (va_A ((q, .inl (cL, 1, .inr (.inl o))) :: Wo) sz) := by
  refine t_ofH (Qc := t_Qi D cI cL (fun r w1 => ∃ (o1 : Nat → Int64) (W1 : va_W), w1 = (q, .inl (cL, 1, .inr (.inl o1))) :: W1 ∧ ((r = nI 0 ∧ ∃ a : Int32, o1 0 = a.toInt64 ∧ (∃ j c0 : Nat, v = nI j ∧ j < t_F sn ∧ z2 = nI c0 ∧ c0 < (t_cs (t_df x j) (t_sm x j) th).length ∧ a = nI ((t_cs (t_df x j) (t_sm x j) th).getD c0 0)) ∧ t_obj cI h x sn th un ju ch tm ba W1) ∨ (r = nI 1 ∧ (((v < 0 ∨ nI (t_F sn) ≤ v) ∨ ∃ j : Nat, v = nI j ∧ j < t_F sn ∧ (z2 < 0 ∨ nI (t_cs (t_df x j) (t_sm x j) th).length ≤ z2))) ∧ t_obj cI h x sn th un ju ch tm ba W1)))) (by decide) rfl (Nat.le_of_ble_eq_true rfl) ?_
  intro p e s m below meth c ls A hx hb hml hown hts hr hlocks htb hK hP hD hS hA hX hl
  have hown : s.vm.findClass RL = some m.cls := hown
  have hl : lv_has ls 5 [(0, .ref h), (1, .int v), (2, .int z2), (3, .ref q)] := hl
  obtain ⟨fs, hfs⟩ := t_obj_hd hO
  refine lv_aload_n hx hb dL_candidateLag_0 rfl (lv_at hl 3 rfl) ?_
  refine lv_iconst (v := ((nI 0) : Int32)) hx hb dL_candidateLag_1 (by decide +kernel) ?_
  refine lv_aload_n hx hb dL_candidateLag_2 rfl (lv_at hl 0 rfl) ?_
  refine lv_iload_n hx hb dL_candidateLag_3 rfl (lv_at hl 1 rfl) ?_
  refine lv_iload_n hx hb dL_candidateLag_4 rfl (lv_at hl 2 rfl) ?_
  have hPc : va_P D vwCl Wo s.heap := t_endP (a := [(q, .inl (cL, 1, .inr (.inl o)))]) hP
  have hDc : va_D A Wo := t_endD (a := [(q, .inl (cL, 1, .inr (.inl o)))]) hD
  have hFc : ∀ q, va_A Wo s.heap.size q → A q := t_endF (a := []) hDc hS hA
  refine vx_calli (vx_runV (As := [.int v, .int z2]) (rest := [.int (nI 0), .ref q]) ⟨hx, hb, hml, hown, hts⟩ (c_X8_candidateLag l hl0 D cI cL Wo h x sn th un ju ch tm ba v z2 hO s.heap.size) (cwV 2 hts gL_candidateLag_X8_candidateLag rfl rfl rfl (by decide +kernel) ⟨Nat.le_of_ble_eq_true rfl, Nat.le_of_ble_eq_true rfl⟩) ⟨t_wPcX_blind, va_recv hK hPc (ci := 8) (q0 := 0) rfl hfs, fun U hU hW => ⟨rfl, by rw [hU], by rw [hU]; exact hPc, va_K.moved hW.alike hK, hDc.weaken (fun _ _ _ _ => trivial), by rw [hU]; exact (hX.narrow hFc).moved hW⟩⟩ rfl rfl hl.1 rfl (lv_room (Nat.le_of_ble_eq_true rfl)) dL_candidateLag_5 ⟨Nat.le_of_ble_eq_true rfl, Nat.le_of_ble_eq_true rfl⟩) hS (fun q _ h => hFc q h) hFc (fun q _ h => hFc q h) (fun E ce q9 u t H1 locs ht hvm hw hB hz1 hk1 hS hce hcv hcl => ?_) (fun r1 u t H1 locs ht hvm hw hB hz1 hk1 hS => ?_)
  · obtain ⟨⟨hw, hO1⟩, hP1, hK1, hD1⟩ := hB
    rw [ht] at hP1
    obtain ⟨hP, hD⟩ := t_jend (a := [(q, .inl (cL, 1, .inr (.inl o)))]) hP hD hk1 hFc hP1 hD1
    have hP : va_P D vwCl ((q, .inl (cL, 1, .inr (.inl o))) :: u) H1 := hP
    have hD : va_D A ((q, .inl (cL, 1, .inr (.inl o))) :: u) := hD
    clear hP1 hD1 hK1 hPc hDc hFc hvm hz1 hk1
    clear ht
    obtain ⟨hE, hxc⟩ := hw
    subst hE
    refine vx_catch (own := RL) (name := "java/lang/IndexOutOfBoundsException") hown (tableOf []) ⟨0, 10, 13, 39⟩ (tableOf []) (by rw [htb]; rfl) (fun z hz => absurd hz List.not_mem_nil) (by decide +kernel) (by decide) (hts (.classLink RL 39 "java/lang/IndexOutOfBoundsException") (List.mem_of_getElem? (i := 1) rfl)) (va_Nw.use rfl hX.2.2.2.2.2.2.2.2.2.1) hce hcv hcl ?_
    refine lv_astore (lv' := [(4, .ref q9), (0, .ref h), (1, .int v), (2, .int z2), (3, .ref q)]) hx hb dL_candidateLag_13 hl (by decide) rfl (fun ls hl => ?_)
    refine lv_iconst (v := ((nI 1) : Int32)) hx hb dL_candidateLag_15 (by decide +kernel) ?_
    exact W.iret (v := (nI 1)) hx hb hr (fun t ht hW => ⟨⟨_, ((q, .inl (cL, 1, .inr (.inl o))) :: u), rfl, ⟨_, u, rfl, Or.inr ⟨rfl, hxc, hO1⟩⟩, ⟨by rw [ht]; exact hP, va_K.moved hW.alike hK, hD⟩⟩, hS.F ht⟩) hS.2.2 dL_candidateLag_16 hlocks
  · obtain ⟨⟨hP1, hK1, hD1⟩, hz9⟩ := hB
    rw [ht] at hP1
    obtain ⟨hP, hD⟩ := t_jend (a := [(q, .inl (cL, 1, .inr (.inl o)))]) hP hD hk1 hFc hP1 hD1
    have hP : va_P D vwCl ((q, .inl (cL, 1, .inr (.inl o))) :: u) H1 := hP
    have hD : va_D A ((q, .inl (cL, 1, .inr (.inl o))) :: u) := hD
    clear hP1 hD1 hK1 hPc hDc hFc hvm hz1 hk1
    clear ht
    generalize H1 = H at hP hS ⊢
    refine lv_i2l hx hb dL_candidateLag_8 rfl ?_
    refine va_last hx hb hK hP hD hS 0 1 rfl rfl (vp_in_nI (by decide) (by decide)) dL_candidateLag_9 (fun H locs hP hD hS => ?_)
    have hP : va_P D vwCl ((q, .inl (cL, 1, .inr (.inl (vp_updL o (nI 0).toNatClampNeg r1.toInt64)))) :: u) H := hP
    have hD : va_D A ((q, .inl (cL, 1, .inr (.inl (vp_updL o (nI 0).toNatClampNeg r1.toInt64)))) :: u) := hD
    refine lv_goto (tgt := 17) hx hb dL_candidateLag_10 (by decide) ?_
    refine lv_iconst (v := ((nI 0) : Int32)) hx hb dL_candidateLag_17 (by decide +kernel) ?_
    exact W.iret (v := (nI 0)) hx hb hr (fun t ht hW => ⟨⟨_, ((q, .inl (cL, 1, .inr (.inl (vp_updL o (nI 0).toNatClampNeg r1.toInt64)))) :: u), rfl, ⟨_, u, rfl, Or.inl ⟨rfl, r1, (by rw [nI_clamp (by decide)]; exact pk_uLs), hw⟩⟩, ⟨by rw [ht]; exact hP, va_K.moved hW.alike hK, hD⟩⟩, hS.F ht⟩) hS.2.2 dL_candidateLag_18 hlocks

set_option maxHeartbeats 4000000 in
set_option maxRecDepth 100000 in
theorem c_L_lag (l : Launch) (hl0 : l.stackTraces = false) (D : va_G) (cI cL : ClassId) (Wo : va_W) (h : Nat) (x : Nat → Int32) (sn : Nat) (th un ju ch : Int32) (tm : Nat) (ba : Int32) (v : Int32) (q : Nat) (o : Nat → Int64) (hO : t_obj cI h x sn th un ju ch tm ba Wo) (sz : Nat) : Met l yL_lag wsL_lag ({ frames := 9, cells := 1, slots := 6, locals := 381 }) (t_wPcX D cI cL [.ref h, .int v, .ref q] ((q, .inl (cL, 1, .inr (.inl o))) :: Wo) sz) (t_Qi D cI cL (fun r w1 => ∃ (o1 : Nat → Int64) (W1 : va_W), w1 = (q, .inl (cL, 1, .inr (.inl o1))) :: W1 ∧ ((r = nI 0 ∧ ∃ a : Int32, o1 0 = a.toInt64 ∧ (∃ j : Nat, v = nI j ∧ j < t_F sn ∧ a = nI (t_LX x th un ju ch (t_F sn) j)) ∧ t_obj cI h x sn th un ju ch tm ba W1) ∨ (r = nI 1 ∧ ((v < 0 ∨ nI (t_F sn) ≤ v)) ∧ t_obj cI h x sn th un ju ch tm ba W1))) (va_A ((q, .inl (cL, 1, .inr (.inl o))) :: Wo) sz)) 1 6 (va_A ((q, .inl (cL, 1, .inr (.inl o))) :: Wo) sz) := by
  refine t_ofH (Qc := t_Qi D cI cL (fun r w1 => ∃ (o1 : Nat → Int64) (W1 : va_W), w1 = (q, .inl (cL, 1, .inr (.inl o1))) :: W1 ∧ ((r = nI 0 ∧ ∃ a : Int32, o1 0 = a.toInt64 ∧ (∃ j : Nat, v = nI j ∧ j < t_F sn ∧ a = nI (t_LX x th un ju ch (t_F sn) j)) ∧ t_obj cI h x sn th un ju ch tm ba W1) ∨ (r = nI 1 ∧ ((v < 0 ∨ nI (t_F sn) ≤ v)) ∧ t_obj cI h x sn th un ju ch tm ba W1)))) (by decide) rfl (Nat.le_of_ble_eq_true rfl) ?_
  intro p e s m below meth c ls A hx hb hml hown hts hr hlocks htb hK hP hD hS hA hX hl
  have hown : s.vm.findClass RL = some m.cls := hown
  have hl : lv_has ls 4 [(0, .ref h), (1, .int v), (2, .ref q)] := hl
  obtain ⟨fs, hfs⟩ := t_obj_hd hO
  refine lv_aload_n hx hb dL_lag_0 rfl (lv_at hl 2 rfl) ?_
  refine lv_iconst (v := ((nI 0) : Int32)) hx hb dL_lag_1 (by decide +kernel) ?_
  refine lv_aload_n hx hb dL_lag_2 rfl (lv_at hl 0 rfl) ?_
  refine lv_iload_n hx hb dL_lag_3 rfl (lv_at hl 1 rfl) ?_
  have hPc : va_P D vwCl Wo s.heap := t_endP (a := [(q, .inl (cL, 1, .inr (.inl o)))]) hP
  have hDc : va_D A Wo := t_endD (a := [(q, .inl (cL, 1, .inr (.inl o)))]) hD
  have hFc : ∀ q, va_A Wo s.heap.size q → A q := t_endF (a := []) hDc hS hA
  refine vx_calli (vx_runV (As := [.int v]) (rest := [.int (nI 0), .ref q]) ⟨hx, hb, hml, hown, hts⟩ (c_X8_lag l hl0 D cI cL Wo h x sn th un ju ch tm ba v hO s.heap.size) (cwV 1 hts gL_lag_X8_lag rfl rfl rfl (by decide +kernel) ⟨Nat.le_of_ble_eq_true rfl, Nat.le_of_ble_eq_true rfl⟩) ⟨t_wPcX_blind, va_recv hK hPc (ci := 8) (q0 := 0) rfl hfs, fun U hU hW => ⟨rfl, by rw [hU], by rw [hU]; exact hPc, va_K.moved hW.alike hK, hDc.weaken (fun _ _ _ _ => trivial), by rw [hU]; exact (hX.narrow hFc).moved hW⟩⟩ rfl rfl hl.1 rfl (lv_room (Nat.le_of_ble_eq_true rfl)) dL_lag_4 ⟨Nat.le_of_ble_eq_true rfl, Nat.le_of_ble_eq_true rfl⟩) hS (fun q _ h => hFc q h) hFc (fun q _ h => hFc q h) (fun E ce q9 u t H1 locs ht hvm hw hB hz1 hk1 hS hce hcv hcl => ?_) (fun r1 u t H1 locs ht hvm hw hB hz1 hk1 hS => ?_)
  · obtain ⟨⟨hw, hO1⟩, hP1, hK1, hD1⟩ := hB
    rw [ht] at hP1
    obtain ⟨hP, hD⟩ := t_jend (a := [(q, .inl (cL, 1, .inr (.inl o)))]) hP hD hk1 hFc hP1 hD1
    have hP : va_P D vwCl ((q, .inl (cL, 1, .inr (.inl o))) :: u) H1 := hP
    have hD : va_D A ((q, .inl (cL, 1, .inr (.inl o))) :: u) := hD
    clear hP1 hD1 hK1 hPc hDc hFc hvm hz1 hk1
    clear ht
    obtain ⟨hE, hxc⟩ := hw
    subst hE
    refine vx_catch (own := RL) (name := "java/lang/IndexOutOfBoundsException") hown (tableOf []) ⟨0, 9, 12, 39⟩ (tableOf []) (by rw [htb]; rfl) (fun z hz => absurd hz List.not_mem_nil) (by decide +kernel) (by decide) (hts (.classLink RL 39 "java/lang/IndexOutOfBoundsException") (List.mem_of_getElem? (i := 1) rfl)) (va_Nw.use rfl hX.2.2.2.2.2.2.2.2.2.1) hce hcv hcl ?_
    refine lv_astore_n (lv' := [(3, .ref q9), (0, .ref h), (1, .int v), (2, .ref q)]) hx hb dL_lag_12 rfl hl (by decide) rfl (fun ls hl => ?_)
    refine lv_iconst (v := ((nI 1) : Int32)) hx hb dL_lag_13 (by decide +kernel) ?_
    exact W.iret (v := (nI 1)) hx hb hr (fun t ht hW => ⟨⟨_, ((q, .inl (cL, 1, .inr (.inl o))) :: u), rfl, ⟨_, u, rfl, Or.inr ⟨rfl, hxc, hO1⟩⟩, ⟨by rw [ht]; exact hP, va_K.moved hW.alike hK, hD⟩⟩, hS.F ht⟩) hS.2.2 dL_lag_14 hlocks
  · obtain ⟨⟨hP1, hK1, hD1⟩, hz9⟩ := hB
    rw [ht] at hP1
    obtain ⟨hP, hD⟩ := t_jend (a := [(q, .inl (cL, 1, .inr (.inl o)))]) hP hD hk1 hFc hP1 hD1
    have hP : va_P D vwCl ((q, .inl (cL, 1, .inr (.inl o))) :: u) H1 := hP
    have hD : va_D A ((q, .inl (cL, 1, .inr (.inl o))) :: u) := hD
    clear hP1 hD1 hK1 hPc hDc hFc hvm hz1 hk1
    clear ht
    generalize H1 = H at hP hS ⊢
    refine lv_i2l hx hb dL_lag_7 rfl ?_
    refine va_last hx hb hK hP hD hS 0 1 rfl rfl (vp_in_nI (by decide) (by decide)) dL_lag_8 (fun H locs hP hD hS => ?_)
    have hP : va_P D vwCl ((q, .inl (cL, 1, .inr (.inl (vp_updL o (nI 0).toNatClampNeg r1.toInt64)))) :: u) H := hP
    have hD : va_D A ((q, .inl (cL, 1, .inr (.inl (vp_updL o (nI 0).toNatClampNeg r1.toInt64)))) :: u) := hD
    refine lv_goto (tgt := 15) hx hb dL_lag_9 (by decide) ?_
    refine lv_iconst (v := ((nI 0) : Int32)) hx hb dL_lag_15 (by decide +kernel) ?_
    exact W.iret (v := (nI 0)) hx hb hr (fun t ht hW => ⟨⟨_, ((q, .inl (cL, 1, .inr (.inl (vp_updL o (nI 0).toNatClampNeg r1.toInt64)))) :: u), rfl, ⟨_, u, rfl, Or.inl ⟨rfl, r1, (by rw [nI_clamp (by decide)]; exact pk_uLs), hw⟩⟩, ⟨by rw [ht]; exact hP, va_K.moved hW.alike hK, hD⟩⟩, hS.F ht⟩) hS.2.2 dL_lag_16 hlocks

set_option maxHeartbeats 4000000 in
set_option maxRecDepth 100000 in
theorem c_L_period (l : Launch) (hl0 : l.stackTraces = false) (D : va_G) (cI cL : ClassId) (Wo : va_W) (h : Nat) (x : Nat → Int32) (sn : Nat) (th un ju ch : Int32) (tm : Nat) (ba : Int32) (v : Int32) (q : Nat) (o : Nat → Int64) (hO : t_obj cI h x sn th un ju ch tm ba Wo) (sz : Nat) : Met l yL_period wsL_period ({ frames := 9, cells := 1, slots := 6, locals := 381 }) (t_wPcX D cI cL [.ref h, .int v, .ref q] ((q, .inl (cL, 1, .inr (.inl o))) :: Wo) sz) (t_Qi D cI cL (fun r w1 => ∃ (o1 : Nat → Int64) (W1 : va_W), w1 = (q, .inl (cL, 1, .inr (.inl o1))) :: W1 ∧ ((r = nI 0 ∧ ∃ a : Int32, o1 0 = a.toInt64 ∧ (∃ j : Nat, v = nI j ∧ j < t_F sn ∧ a = t_PE x th un ju ch (t_F sn) j) ∧ t_obj cI h x sn th un ju ch tm ba W1) ∨ (r = nI 1 ∧ ((v < 0 ∨ nI (t_F sn) ≤ v)) ∧ t_obj cI h x sn th un ju ch tm ba W1))) (va_A ((q, .inl (cL, 1, .inr (.inl o))) :: Wo) sz)) 1 6 (va_A ((q, .inl (cL, 1, .inr (.inl o))) :: Wo) sz) := by
  refine t_ofH (Qc := t_Qi D cI cL (fun r w1 => ∃ (o1 : Nat → Int64) (W1 : va_W), w1 = (q, .inl (cL, 1, .inr (.inl o1))) :: W1 ∧ ((r = nI 0 ∧ ∃ a : Int32, o1 0 = a.toInt64 ∧ (∃ j : Nat, v = nI j ∧ j < t_F sn ∧ a = t_PE x th un ju ch (t_F sn) j) ∧ t_obj cI h x sn th un ju ch tm ba W1) ∨ (r = nI 1 ∧ ((v < 0 ∨ nI (t_F sn) ≤ v)) ∧ t_obj cI h x sn th un ju ch tm ba W1)))) (by decide) rfl (Nat.le_of_ble_eq_true rfl) ?_
  intro p e s m below meth c ls A hx hb hml hown hts hr hlocks htb hK hP hD hS hA hX hl
  have hown : s.vm.findClass RL = some m.cls := hown
  have hl : lv_has ls 4 [(0, .ref h), (1, .int v), (2, .ref q)] := hl
  obtain ⟨fs, hfs⟩ := t_obj_hd hO
  refine lv_aload_n hx hb dL_period_0 rfl (lv_at hl 2 rfl) ?_
  refine lv_iconst (v := ((nI 0) : Int32)) hx hb dL_period_1 (by decide +kernel) ?_
  refine lv_aload_n hx hb dL_period_2 rfl (lv_at hl 0 rfl) ?_
  refine lv_iload_n hx hb dL_period_3 rfl (lv_at hl 1 rfl) ?_
  have hPc : va_P D vwCl Wo s.heap := t_endP (a := [(q, .inl (cL, 1, .inr (.inl o)))]) hP
  have hDc : va_D A Wo := t_endD (a := [(q, .inl (cL, 1, .inr (.inl o)))]) hD
  have hFc : ∀ q, va_A Wo s.heap.size q → A q := t_endF (a := []) hDc hS hA
  refine vx_calli (vx_runV (As := [.int v]) (rest := [.int (nI 0), .ref q]) ⟨hx, hb, hml, hown, hts⟩ (c_X8_period l hl0 D cI cL Wo h x sn th un ju ch tm ba v hO s.heap.size) (cwV 1 hts gL_period_X8_period rfl rfl rfl (by decide +kernel) ⟨Nat.le_of_ble_eq_true rfl, Nat.le_of_ble_eq_true rfl⟩) ⟨t_wPcX_blind, va_recv hK hPc (ci := 8) (q0 := 0) rfl hfs, fun U hU hW => ⟨rfl, by rw [hU], by rw [hU]; exact hPc, va_K.moved hW.alike hK, hDc.weaken (fun _ _ _ _ => trivial), by rw [hU]; exact (hX.narrow hFc).moved hW⟩⟩ rfl rfl hl.1 rfl (lv_room (Nat.le_of_ble_eq_true rfl)) dL_period_4 ⟨Nat.le_of_ble_eq_true rfl, Nat.le_of_ble_eq_true rfl⟩) hS (fun q _ h => hFc q h) hFc (fun q _ h => hFc q h) (fun E ce q9 u t H1 locs ht hvm hw hB hz1 hk1 hS hce hcv hcl => ?_) (fun r1 u t H1 locs ht hvm hw hB hz1 hk1 hS => ?_)
  · obtain ⟨⟨hw, hO1⟩, hP1, hK1, hD1⟩ := hB
    rw [ht] at hP1
    obtain ⟨hP, hD⟩ := t_jend (a := [(q, .inl (cL, 1, .inr (.inl o)))]) hP hD hk1 hFc hP1 hD1
    have hP : va_P D vwCl ((q, .inl (cL, 1, .inr (.inl o))) :: u) H1 := hP
    have hD : va_D A ((q, .inl (cL, 1, .inr (.inl o))) :: u) := hD
    clear hP1 hD1 hK1 hPc hDc hFc hvm hz1 hk1
    clear ht
    obtain ⟨hE, hxc⟩ := hw
    subst hE
    refine vx_catch (own := RL) (name := "java/lang/IndexOutOfBoundsException") hown (tableOf []) ⟨0, 9, 12, 39⟩ (tableOf []) (by rw [htb]; rfl) (fun z hz => absurd hz List.not_mem_nil) (by decide +kernel) (by decide) (hts (.classLink RL 39 "java/lang/IndexOutOfBoundsException") (List.mem_of_getElem? (i := 1) rfl)) (va_Nw.use rfl hX.2.2.2.2.2.2.2.2.2.1) hce hcv hcl ?_
    refine lv_astore_n (lv' := [(3, .ref q9), (0, .ref h), (1, .int v), (2, .ref q)]) hx hb dL_period_12 rfl hl (by decide) rfl (fun ls hl => ?_)
    refine lv_iconst (v := ((nI 1) : Int32)) hx hb dL_period_13 (by decide +kernel) ?_
    exact W.iret (v := (nI 1)) hx hb hr (fun t ht hW => ⟨⟨_, ((q, .inl (cL, 1, .inr (.inl o))) :: u), rfl, ⟨_, u, rfl, Or.inr ⟨rfl, hxc, hO1⟩⟩, ⟨by rw [ht]; exact hP, va_K.moved hW.alike hK, hD⟩⟩, hS.F ht⟩) hS.2.2 dL_period_14 hlocks
  · obtain ⟨⟨hP1, hK1, hD1⟩, hz9⟩ := hB
    rw [ht] at hP1
    obtain ⟨hP, hD⟩ := t_jend (a := [(q, .inl (cL, 1, .inr (.inl o)))]) hP hD hk1 hFc hP1 hD1
    have hP : va_P D vwCl ((q, .inl (cL, 1, .inr (.inl o))) :: u) H1 := hP
    have hD : va_D A ((q, .inl (cL, 1, .inr (.inl o))) :: u) := hD
    clear hP1 hD1 hK1 hPc hDc hFc hvm hz1 hk1
    clear ht
    generalize H1 = H at hP hS ⊢
    refine lv_i2l hx hb dL_period_7 rfl ?_
    refine va_last hx hb hK hP hD hS 0 1 rfl rfl (vp_in_nI (by decide) (by decide)) dL_period_8 (fun H locs hP hD hS => ?_)
    have hP : va_P D vwCl ((q, .inl (cL, 1, .inr (.inl (vp_updL o (nI 0).toNatClampNeg r1.toInt64)))) :: u) H := hP
    have hD : va_D A ((q, .inl (cL, 1, .inr (.inl (vp_updL o (nI 0).toNatClampNeg r1.toInt64)))) :: u) := hD
    refine lv_goto (tgt := 15) hx hb dL_period_9 (by decide) ?_
    refine lv_iconst (v := ((nI 0) : Int32)) hx hb dL_period_15 (by decide +kernel) ?_
    exact W.iret (v := (nI 0)) hx hb hr (fun t ht hW => ⟨⟨_, ((q, .inl (cL, 1, .inr (.inl (vp_updL o (nI 0).toNatClampNeg r1.toInt64)))) :: u), rfl, ⟨_, u, rfl, Or.inl ⟨rfl, r1, (by rw [nI_clamp (by decide)]; exact pk_uLs), hw⟩⟩, ⟨by rw [ht]; exact hP, va_K.moved hW.alike hK, hD⟩⟩, hS.F ht⟩) hS.2.2 dL_period_16 hlocks

set_option maxHeartbeats 4000000 in
set_option maxRecDepth 100000 in
theorem c_L_name (l : Launch) (hl0 : l.stackTraces = false) (D : va_G) (cI cL : ClassId) (Wo : va_W) (h : Nat) (x : Nat → Int32) (sn : Nat) (th un ju ch : Int32) (tm : Nat) (ba : Int32) (v : Int32) (q : Nat) (o : Nat → Int64) (hO : t_obj cI h x sn th un ju ch tm ba Wo) (sz : Nat) : Met l yL_name wsL_name ({ frames := 9, cells := 1, slots := 6, locals := 381 }) (t_wPcX D cI cL [.ref h, .int v, .ref q] ((q, .inl (cL, 1, .inr (.inl o))) :: Wo) sz) (t_Qi D cI cL (fun r w1 => ∃ (o1 : Nat → Int64) (W1 : va_W), w1 = (q, .inl (cL, 1, .inr (.inl o1))) :: W1 ∧ ((r = nI 0 ∧ ∃ a : Int32, o1 0 = a.toInt64 ∧ (∃ j : Nat, v = nI j ∧ j < t_F sn ∧ a = t_nm ((t_PT x th un ju ch tm ba (t_F sn)) j)) ∧ t_obj cI h x sn th un ju ch tm ba W1) ∨ (r = nI 1 ∧ ((v < 0 ∨ nI (t_F sn) ≤ v)) ∧ t_obj cI h x sn th un ju ch tm ba W1))) (va_A ((q, .inl (cL, 1, .inr (.inl o))) :: Wo) sz)) 1 6 (va_A ((q, .inl (cL, 1, .inr (.inl o))) :: Wo) sz) := by
  refine t_ofH (Qc := t_Qi D cI cL (fun r w1 => ∃ (o1 : Nat → Int64) (W1 : va_W), w1 = (q, .inl (cL, 1, .inr (.inl o1))) :: W1 ∧ ((r = nI 0 ∧ ∃ a : Int32, o1 0 = a.toInt64 ∧ (∃ j : Nat, v = nI j ∧ j < t_F sn ∧ a = t_nm ((t_PT x th un ju ch tm ba (t_F sn)) j)) ∧ t_obj cI h x sn th un ju ch tm ba W1) ∨ (r = nI 1 ∧ ((v < 0 ∨ nI (t_F sn) ≤ v)) ∧ t_obj cI h x sn th un ju ch tm ba W1)))) (by decide) rfl (Nat.le_of_ble_eq_true rfl) ?_
  intro p e s m below meth c ls A hx hb hml hown hts hr hlocks htb hK hP hD hS hA hX hl
  have hown : s.vm.findClass RL = some m.cls := hown
  have hl : lv_has ls 4 [(0, .ref h), (1, .int v), (2, .ref q)] := hl
  obtain ⟨fs, hfs⟩ := t_obj_hd hO
  refine lv_aload_n hx hb dL_name_0 rfl (lv_at hl 2 rfl) ?_
  refine lv_iconst (v := ((nI 0) : Int32)) hx hb dL_name_1 (by decide +kernel) ?_
  refine lv_aload_n hx hb dL_name_2 rfl (lv_at hl 0 rfl) ?_
  refine lv_iload_n hx hb dL_name_3 rfl (lv_at hl 1 rfl) ?_
  have hPc : va_P D vwCl Wo s.heap := t_endP (a := [(q, .inl (cL, 1, .inr (.inl o)))]) hP
  have hDc : va_D A Wo := t_endD (a := [(q, .inl (cL, 1, .inr (.inl o)))]) hD
  have hFc : ∀ q, va_A Wo s.heap.size q → A q := t_endF (a := []) hDc hS hA
  refine vx_calli (vx_runV (As := [.int v]) (rest := [.int (nI 0), .ref q]) ⟨hx, hb, hml, hown, hts⟩ (c_X8_name l hl0 D cI cL Wo h x sn th un ju ch tm ba v hO s.heap.size) (cwV 1 hts gL_name_X8_name rfl rfl rfl (by decide +kernel) ⟨Nat.le_of_ble_eq_true rfl, Nat.le_of_ble_eq_true rfl⟩) ⟨t_wPcX_blind, va_recv hK hPc (ci := 8) (q0 := 0) rfl hfs, fun U hU hW => ⟨rfl, by rw [hU], by rw [hU]; exact hPc, va_K.moved hW.alike hK, hDc.weaken (fun _ _ _ _ => trivial), by rw [hU]; exact (hX.narrow hFc).moved hW⟩⟩ rfl rfl hl.1 rfl (lv_room (Nat.le_of_ble_eq_true rfl)) dL_name_4 ⟨Nat.le_of_ble_eq_true rfl, Nat.le_of_ble_eq_true rfl⟩) hS (fun q _ h => hFc q h) hFc (fun q _ h => hFc q h) (fun E ce q9 u t H1 locs ht hvm hw hB hz1 hk1 hS hce hcv hcl => ?_) (fun r1 u t H1 locs ht hvm hw hB hz1 hk1 hS => ?_)
  · obtain ⟨⟨hw, hO1⟩, hP1, hK1, hD1⟩ := hB
    rw [ht] at hP1
    obtain ⟨hP, hD⟩ := t_jend (a := [(q, .inl (cL, 1, .inr (.inl o)))]) hP hD hk1 hFc hP1 hD1
    have hP : va_P D vwCl ((q, .inl (cL, 1, .inr (.inl o))) :: u) H1 := hP
    have hD : va_D A ((q, .inl (cL, 1, .inr (.inl o))) :: u) := hD
    clear hP1 hD1 hK1 hPc hDc hFc hvm hz1 hk1
    clear ht
    obtain ⟨hE, hxc⟩ := hw
    subst hE
    refine vx_catch (own := RL) (name := "java/lang/IndexOutOfBoundsException") hown (tableOf []) ⟨0, 9, 12, 39⟩ (tableOf []) (by rw [htb]; rfl) (fun z hz => absurd hz List.not_mem_nil) (by decide +kernel) (by decide) (hts (.classLink RL 39 "java/lang/IndexOutOfBoundsException") (List.mem_of_getElem? (i := 1) rfl)) (va_Nw.use rfl hX.2.2.2.2.2.2.2.2.2.1) hce hcv hcl ?_
    refine lv_astore_n (lv' := [(3, .ref q9), (0, .ref h), (1, .int v), (2, .ref q)]) hx hb dL_name_12 rfl hl (by decide) rfl (fun ls hl => ?_)
    refine lv_iconst (v := ((nI 1) : Int32)) hx hb dL_name_13 (by decide +kernel) ?_
    exact W.iret (v := (nI 1)) hx hb hr (fun t ht hW => ⟨⟨_, ((q, .inl (cL, 1, .inr (.inl o))) :: u), rfl, ⟨_, u, rfl, Or.inr ⟨rfl, hxc, hO1⟩⟩, ⟨by rw [ht]; exact hP, va_K.moved hW.alike hK, hD⟩⟩, hS.F ht⟩) hS.2.2 dL_name_14 hlocks
  · obtain ⟨⟨hP1, hK1, hD1⟩, hz9⟩ := hB
    rw [ht] at hP1
    obtain ⟨hP, hD⟩ := t_jend (a := [(q, .inl (cL, 1, .inr (.inl o)))]) hP hD hk1 hFc hP1 hD1
    have hP : va_P D vwCl ((q, .inl (cL, 1, .inr (.inl o))) :: u) H1 := hP
    have hD : va_D A ((q, .inl (cL, 1, .inr (.inl o))) :: u) := hD
    clear hP1 hD1 hK1 hPc hDc hFc hvm hz1 hk1
    clear ht
    generalize H1 = H at hP hS ⊢
    refine lv_i2l hx hb dL_name_7 rfl ?_
    refine va_last hx hb hK hP hD hS 0 1 rfl rfl (vp_in_nI (by decide) (by decide)) dL_name_8 (fun H locs hP hD hS => ?_)
    have hP : va_P D vwCl ((q, .inl (cL, 1, .inr (.inl (vp_updL o (nI 0).toNatClampNeg r1.toInt64)))) :: u) H := hP
    have hD : va_D A ((q, .inl (cL, 1, .inr (.inl (vp_updL o (nI 0).toNatClampNeg r1.toInt64)))) :: u) := hD
    refine lv_goto (tgt := 15) hx hb dL_name_9 (by decide) ?_
    refine lv_iconst (v := ((nI 0) : Int32)) hx hb dL_name_15 (by decide +kernel) ?_
    exact W.iret (v := (nI 0)) hx hb hr (fun t ht hW => ⟨⟨_, ((q, .inl (cL, 1, .inr (.inl (vp_updL o (nI 0).toNatClampNeg r1.toInt64)))) :: u), rfl, ⟨_, u, rfl, Or.inl ⟨rfl, r1, (by rw [nI_clamp (by decide)]; exact pk_uLs), hw⟩⟩, ⟨by rw [ht]; exact hP, va_K.moved hW.alike hK, hD⟩⟩, hS.F ht⟩) hS.2.2 dL_name_16 hlocks

set_option maxHeartbeats 4000000 in
set_option maxRecDepth 100000 in
theorem c_L_octave (l : Launch) (hl0 : l.stackTraces = false) (D : va_G) (cI cL : ClassId) (Wo : va_W) (h : Nat) (x : Nat → Int32) (sn : Nat) (th un ju ch : Int32) (tm : Nat) (ba : Int32) (v : Int32) (q : Nat) (o : Nat → Int64) (hO : t_obj cI h x sn th un ju ch tm ba Wo) (sz : Nat) : Met l yL_octave wsL_octave ({ frames := 9, cells := 1, slots := 6, locals := 381 }) (t_wPcX D cI cL [.ref h, .int v, .ref q] ((q, .inl (cL, 1, .inr (.inl o))) :: Wo) sz) (t_Qi D cI cL (fun r w1 => ∃ (o1 : Nat → Int64) (W1 : va_W), w1 = (q, .inl (cL, 1, .inr (.inl o1))) :: W1 ∧ ((r = nI 0 ∧ ∃ a : Int32, o1 0 = a.toInt64 ∧ (∃ j : Nat, v = nI j ∧ j < t_F sn ∧ a = t_oc ((t_PT x th un ju ch tm ba (t_F sn)) j)) ∧ t_obj cI h x sn th un ju ch tm ba W1) ∨ (r = nI 1 ∧ ((v < 0 ∨ nI (t_F sn) ≤ v)) ∧ t_obj cI h x sn th un ju ch tm ba W1))) (va_A ((q, .inl (cL, 1, .inr (.inl o))) :: Wo) sz)) 1 6 (va_A ((q, .inl (cL, 1, .inr (.inl o))) :: Wo) sz) := by
  refine t_ofH (Qc := t_Qi D cI cL (fun r w1 => ∃ (o1 : Nat → Int64) (W1 : va_W), w1 = (q, .inl (cL, 1, .inr (.inl o1))) :: W1 ∧ ((r = nI 0 ∧ ∃ a : Int32, o1 0 = a.toInt64 ∧ (∃ j : Nat, v = nI j ∧ j < t_F sn ∧ a = t_oc ((t_PT x th un ju ch tm ba (t_F sn)) j)) ∧ t_obj cI h x sn th un ju ch tm ba W1) ∨ (r = nI 1 ∧ ((v < 0 ∨ nI (t_F sn) ≤ v)) ∧ t_obj cI h x sn th un ju ch tm ba W1)))) (by decide) rfl (Nat.le_of_ble_eq_true rfl) ?_
  intro p e s m below meth c ls A hx hb hml hown hts hr hlocks htb hK hP hD hS hA hX hl
  have hown : s.vm.findClass RL = some m.cls := hown
  have hl : lv_has ls 4 [(0, .ref h), (1, .int v), (2, .ref q)] := hl
  obtain ⟨fs, hfs⟩ := t_obj_hd hO
  refine lv_aload_n hx hb dL_octave_0 rfl (lv_at hl 2 rfl) ?_
  refine lv_iconst (v := ((nI 0) : Int32)) hx hb dL_octave_1 (by decide +kernel) ?_
  refine lv_aload_n hx hb dL_octave_2 rfl (lv_at hl 0 rfl) ?_
  refine lv_iload_n hx hb dL_octave_3 rfl (lv_at hl 1 rfl) ?_
  have hPc : va_P D vwCl Wo s.heap := t_endP (a := [(q, .inl (cL, 1, .inr (.inl o)))]) hP
  have hDc : va_D A Wo := t_endD (a := [(q, .inl (cL, 1, .inr (.inl o)))]) hD
  have hFc : ∀ q, va_A Wo s.heap.size q → A q := t_endF (a := []) hDc hS hA
  refine vx_calli (vx_runV (As := [.int v]) (rest := [.int (nI 0), .ref q]) ⟨hx, hb, hml, hown, hts⟩ (c_X8_octave l hl0 D cI cL Wo h x sn th un ju ch tm ba v hO s.heap.size) (cwV 1 hts gL_octave_X8_octave rfl rfl rfl (by decide +kernel) ⟨Nat.le_of_ble_eq_true rfl, Nat.le_of_ble_eq_true rfl⟩) ⟨t_wPcX_blind, va_recv hK hPc (ci := 8) (q0 := 0) rfl hfs, fun U hU hW => ⟨rfl, by rw [hU], by rw [hU]; exact hPc, va_K.moved hW.alike hK, hDc.weaken (fun _ _ _ _ => trivial), by rw [hU]; exact (hX.narrow hFc).moved hW⟩⟩ rfl rfl hl.1 rfl (lv_room (Nat.le_of_ble_eq_true rfl)) dL_octave_4 ⟨Nat.le_of_ble_eq_true rfl, Nat.le_of_ble_eq_true rfl⟩) hS (fun q _ h => hFc q h) hFc (fun q _ h => hFc q h) (fun E ce q9 u t H1 locs ht hvm hw hB hz1 hk1 hS hce hcv hcl => ?_) (fun r1 u t H1 locs ht hvm hw hB hz1 hk1 hS => ?_)
  · obtain ⟨⟨hw, hO1⟩, hP1, hK1, hD1⟩ := hB
    rw [ht] at hP1
    obtain ⟨hP, hD⟩ := t_jend (a := [(q, .inl (cL, 1, .inr (.inl o)))]) hP hD hk1 hFc hP1 hD1
    have hP : va_P D vwCl ((q, .inl (cL, 1, .inr (.inl o))) :: u) H1 := hP
    have hD : va_D A ((q, .inl (cL, 1, .inr (.inl o))) :: u) := hD
    clear hP1 hD1 hK1 hPc hDc hFc hvm hz1 hk1
    clear ht
    obtain ⟨hE, hxc⟩ := hw
    subst hE
    refine vx_catch (own := RL) (name := "java/lang/IndexOutOfBoundsException") hown (tableOf []) ⟨0, 9, 12, 39⟩ (tableOf []) (by rw [htb]; rfl) (fun z hz => absurd hz List.not_mem_nil) (by decide +kernel) (by decide) (hts (.classLink RL 39 "java/lang/IndexOutOfBoundsException") (List.mem_of_getElem? (i := 1) rfl)) (va_Nw.use rfl hX.2.2.2.2.2.2.2.2.2.1) hce hcv hcl ?_
    refine lv_astore_n (lv' := [(3, .ref q9), (0, .ref h), (1, .int v), (2, .ref q)]) hx hb dL_octave_12 rfl hl (by decide) rfl (fun ls hl => ?_)
    refine lv_iconst (v := ((nI 1) : Int32)) hx hb dL_octave_13 (by decide +kernel) ?_
    exact W.iret (v := (nI 1)) hx hb hr (fun t ht hW => ⟨⟨_, ((q, .inl (cL, 1, .inr (.inl o))) :: u), rfl, ⟨_, u, rfl, Or.inr ⟨rfl, hxc, hO1⟩⟩, ⟨by rw [ht]; exact hP, va_K.moved hW.alike hK, hD⟩⟩, hS.F ht⟩) hS.2.2 dL_octave_14 hlocks
  · obtain ⟨⟨hP1, hK1, hD1⟩, hz9⟩ := hB
    rw [ht] at hP1
    obtain ⟨hP, hD⟩ := t_jend (a := [(q, .inl (cL, 1, .inr (.inl o)))]) hP hD hk1 hFc hP1 hD1
    have hP : va_P D vwCl ((q, .inl (cL, 1, .inr (.inl o))) :: u) H1 := hP
    have hD : va_D A ((q, .inl (cL, 1, .inr (.inl o))) :: u) := hD
    clear hP1 hD1 hK1 hPc hDc hFc hvm hz1 hk1
    clear ht
    generalize H1 = H at hP hS ⊢
    refine lv_i2l hx hb dL_octave_7 rfl ?_
    refine va_last hx hb hK hP hD hS 0 1 rfl rfl (vp_in_nI (by decide) (by decide)) dL_octave_8 (fun H locs hP hD hS => ?_)
    have hP : va_P D vwCl ((q, .inl (cL, 1, .inr (.inl (vp_updL o (nI 0).toNatClampNeg r1.toInt64)))) :: u) H := hP
    have hD : va_D A ((q, .inl (cL, 1, .inr (.inl (vp_updL o (nI 0).toNatClampNeg r1.toInt64)))) :: u) := hD
    refine lv_goto (tgt := 15) hx hb dL_octave_9 (by decide) ?_
    refine lv_iconst (v := ((nI 0) : Int32)) hx hb dL_octave_15 (by decide +kernel) ?_
    exact W.iret (v := (nI 0)) hx hb hr (fun t ht hW => ⟨⟨_, ((q, .inl (cL, 1, .inr (.inl (vp_updL o (nI 0).toNatClampNeg r1.toInt64)))) :: u), rfl, ⟨_, u, rfl, Or.inl ⟨rfl, r1, (by rw [nI_clamp (by decide)]; exact pk_uLs), hw⟩⟩, ⟨by rw [ht]; exact hP, va_K.moved hW.alike hK, hD⟩⟩, hS.F ht⟩) hS.2.2 dL_octave_16 hlocks

set_option maxHeartbeats 4000000 in
set_option maxRecDepth 100000 in
theorem c_L_isOnset (l : Launch) (hl0 : l.stackTraces = false) (D : va_G) (cI cL : ClassId) (Wo : va_W) (h : Nat) (x : Nat → Int32) (sn : Nat) (th un ju ch : Int32) (tm : Nat) (ba : Int32) (v : Int32) (q : Nat) (o : Nat → Int64) (hO : t_obj cI h x sn th un ju ch tm ba Wo) (sz : Nat) : Met l yL_isOnset wsL_isOnset ({ frames := 9, cells := 1, slots := 6, locals := 381 }) (t_wPcX D cI cL [.ref h, .int v, .ref q] ((q, .inl (cL, 1, .inr (.inl o))) :: Wo) sz) (t_Qi D cI cL (fun r w1 => ∃ (o1 : Nat → Int64) (W1 : va_W), w1 = (q, .inl (cL, 1, .inr (.inl o1))) :: W1 ∧ ((r = nI 0 ∧ ∃ a : Int32, o1 0 = a.toInt64 ∧ (∃ j : Nat, v = nI j ∧ j < t_F sn ∧ a = t_b (t_on x j)) ∧ t_obj cI h x sn th un ju ch tm ba W1) ∨ (r = nI 1 ∧ ((v < 0 ∨ nI (t_F sn) ≤ v)) ∧ t_obj cI h x sn th un ju ch tm ba W1))) (va_A ((q, .inl (cL, 1, .inr (.inl o))) :: Wo) sz)) 1 6 (va_A ((q, .inl (cL, 1, .inr (.inl o))) :: Wo) sz) := by
  refine t_ofH (Qc := t_Qi D cI cL (fun r w1 => ∃ (o1 : Nat → Int64) (W1 : va_W), w1 = (q, .inl (cL, 1, .inr (.inl o1))) :: W1 ∧ ((r = nI 0 ∧ ∃ a : Int32, o1 0 = a.toInt64 ∧ (∃ j : Nat, v = nI j ∧ j < t_F sn ∧ a = t_b (t_on x j)) ∧ t_obj cI h x sn th un ju ch tm ba W1) ∨ (r = nI 1 ∧ ((v < 0 ∨ nI (t_F sn) ≤ v)) ∧ t_obj cI h x sn th un ju ch tm ba W1)))) (by decide) rfl (Nat.le_of_ble_eq_true rfl) ?_
  intro p e s m below meth c ls A hx hb hml hown hts hr hlocks htb hK hP hD hS hA hX hl
  have hown : s.vm.findClass RL = some m.cls := hown
  have hl : lv_has ls 4 [(0, .ref h), (1, .int v), (2, .ref q)] := hl
  obtain ⟨fs, hfs⟩ := t_obj_hd hO
  refine lv_aload_n hx hb dL_isOnset_0 rfl (lv_at hl 2 rfl) ?_
  refine lv_iconst (v := ((nI 0) : Int32)) hx hb dL_isOnset_1 (by decide +kernel) ?_
  refine lv_aload_n hx hb dL_isOnset_2 rfl (lv_at hl 0 rfl) ?_
  refine lv_iload_n hx hb dL_isOnset_3 rfl (lv_at hl 1 rfl) ?_
  have hPc : va_P D vwCl Wo s.heap := t_endP (a := [(q, .inl (cL, 1, .inr (.inl o)))]) hP
  have hDc : va_D A Wo := t_endD (a := [(q, .inl (cL, 1, .inr (.inl o)))]) hD
  have hFc : ∀ q, va_A Wo s.heap.size q → A q := t_endF (a := []) hDc hS hA
  refine vx_calli (vx_runV (As := [.int v]) (rest := [.int (nI 0), .ref q]) ⟨hx, hb, hml, hown, hts⟩ (c_X8_isOnset l hl0 D cI cL Wo h x sn th un ju ch tm ba v hO s.heap.size) (cwV 1 hts gL_isOnset_X8_isOnset rfl rfl rfl (by decide +kernel) ⟨Nat.le_of_ble_eq_true rfl, Nat.le_of_ble_eq_true rfl⟩) ⟨t_wPcX_blind, va_recv hK hPc (ci := 8) (q0 := 0) rfl hfs, fun U hU hW => ⟨rfl, by rw [hU], by rw [hU]; exact hPc, va_K.moved hW.alike hK, hDc.weaken (fun _ _ _ _ => trivial), by rw [hU]; exact (hX.narrow hFc).moved hW⟩⟩ rfl rfl hl.1 rfl (lv_room (Nat.le_of_ble_eq_true rfl)) dL_isOnset_4 ⟨Nat.le_of_ble_eq_true rfl, Nat.le_of_ble_eq_true rfl⟩) hS (fun q _ h => hFc q h) hFc (fun q _ h => hFc q h) (fun E ce q9 u t H1 locs ht hvm hw hB hz1 hk1 hS hce hcv hcl => ?_) (fun r1 u t H1 locs ht hvm hw hB hz1 hk1 hS => ?_)
  · obtain ⟨⟨hw, hO1⟩, hP1, hK1, hD1⟩ := hB
    rw [ht] at hP1
    obtain ⟨hP, hD⟩ := t_jend (a := [(q, .inl (cL, 1, .inr (.inl o)))]) hP hD hk1 hFc hP1 hD1
    have hP : va_P D vwCl ((q, .inl (cL, 1, .inr (.inl o))) :: u) H1 := hP
    have hD : va_D A ((q, .inl (cL, 1, .inr (.inl o))) :: u) := hD
    clear hP1 hD1 hK1 hPc hDc hFc hvm hz1 hk1
    clear ht
    obtain ⟨hE, hxc⟩ := hw
    subst hE
    refine vx_catch (own := RL) (name := "java/lang/IndexOutOfBoundsException") hown (tableOf []) ⟨0, 16, 19, 39⟩ (tableOf []) (by rw [htb]; rfl) (fun z hz => absurd hz List.not_mem_nil) (by decide +kernel) (by decide) (hts (.classLink RL 39 "java/lang/IndexOutOfBoundsException") (List.mem_of_getElem? (i := 1) rfl)) (va_Nw.use rfl hX.2.2.2.2.2.2.2.2.2.1) hce hcv hcl ?_
    refine lv_astore_n (lv' := [(3, .ref q9), (0, .ref h), (1, .int v), (2, .ref q)]) hx hb dL_isOnset_19 rfl hl (by decide) rfl (fun ls hl => ?_)
    refine lv_iconst (v := ((nI 1) : Int32)) hx hb dL_isOnset_20 (by decide +kernel) ?_
    exact W.iret (v := (nI 1)) hx hb hr (fun t ht hW => ⟨⟨_, ((q, .inl (cL, 1, .inr (.inl o))) :: u), rfl, ⟨_, u, rfl, Or.inr ⟨rfl, hxc, hO1⟩⟩, ⟨by rw [ht]; exact hP, va_K.moved hW.alike hK, hD⟩⟩, hS.F ht⟩) hS.2.2 dL_isOnset_21 hlocks
  · obtain ⟨⟨hP1, hK1, hD1⟩, hz9⟩ := hB
    rw [ht] at hP1
    obtain ⟨hP, hD⟩ := t_jend (a := [(q, .inl (cL, 1, .inr (.inl o)))]) hP hD hk1 hFc hP1 hD1
    have hP : va_P D vwCl ((q, .inl (cL, 1, .inr (.inl o))) :: u) H1 := hP
    have hD : va_D A ((q, .inl (cL, 1, .inr (.inl o))) :: u) := hD
    clear hP1 hD1 hK1 hPc hDc hFc hvm hz1 hk1
    clear ht
    generalize H1 = H at hP hS ⊢
    obtain ⟨⟨j1, hj1, hj2, hj3⟩, hO1⟩ := hw
    subst hj3
    refine tv_if_eqB (tgt := 14) hx hb dL_isOnset_7 (by decide) (fun q7_1 => ?_) (fun q7_1 => ?_)
    · refine lv_lconst (v := 0) hx hb dL_isOnset_14 (by decide +kernel) ?_
      refine va_last hx hb hK hP hD hS 0 1 rfl rfl (vp_in_nI (by decide) (by decide)) dL_isOnset_15 (fun H locs hP hD hS => ?_)
      have hP : va_P D vwCl ((q, .inl (cL, 1, .inr (.inl (vp_updL o (nI 0).toNatClampNeg 0)))) :: u) H := hP
      have hD : va_D A ((q, .inl (cL, 1, .inr (.inl (vp_updL o (nI 0).toNatClampNeg 0)))) :: u) := hD
      refine lv_goto (tgt := 22) hx hb dL_isOnset_16 (by decide) ?_
      refine lv_iconst (v := ((nI 0) : Int32)) hx hb dL_isOnset_22 (by decide +kernel) ?_
      exact W.iret (v := (nI 0)) hx hb hr (fun t ht hW => ⟨⟨_, ((q, .inl (cL, 1, .inr (.inl (vp_updL o (nI 0).toNatClampNeg 0)))) :: u), rfl, ⟨_, u, rfl, Or.inl ⟨rfl, t_b (t_on x j1), (by rw [nI_clamp (by decide)]; exact pk_uLs.trans (by rw [q7_1]; decide +kernel)), ⟨j1, hj1, hj2, rfl⟩, hO1⟩⟩, ⟨by rw [ht]; exact hP, va_K.moved hW.alike hK, hD⟩⟩, hS.F ht⟩) hS.2.2 dL_isOnset_23 hlocks
    · refine lv_lconst (v := 1) hx hb dL_isOnset_10 (by decide +kernel) ?_
      refine lv_goto (tgt := 15) hx hb dL_isOnset_11 (by decide) ?_
      refine va_last hx hb hK hP hD hS 0 1 rfl rfl (vp_in_nI (by decide) (by decide)) dL_isOnset_15 (fun H locs hP hD hS => ?_)
      have hP : va_P D vwCl ((q, .inl (cL, 1, .inr (.inl (vp_updL o (nI 0).toNatClampNeg 1)))) :: u) H := hP
      have hD : va_D A ((q, .inl (cL, 1, .inr (.inl (vp_updL o (nI 0).toNatClampNeg 1)))) :: u) := hD
      refine lv_goto (tgt := 22) hx hb dL_isOnset_16 (by decide) ?_
      refine lv_iconst (v := ((nI 0) : Int32)) hx hb dL_isOnset_22 (by decide +kernel) ?_
      exact W.iret (v := (nI 0)) hx hb hr (fun t ht hW => ⟨⟨_, ((q, .inl (cL, 1, .inr (.inl (vp_updL o (nI 0).toNatClampNeg 1)))) :: u), rfl, ⟨_, u, rfl, Or.inl ⟨rfl, t_b (t_on x j1), (by rw [nI_clamp (by decide)]; exact pk_uLs.trans (by rw [q7_1]; decide +kernel)), ⟨j1, hj1, hj2, rfl⟩, hO1⟩⟩, ⟨by rw [ht]; exact hP, va_K.moved hW.alike hK, hD⟩⟩, hS.F ht⟩) hS.2.2 dL_isOnset_23 hlocks

set_option maxHeartbeats 4000000 in
set_option maxRecDepth 100000 in
theorem c_L_noteStart (l : Launch) (hl0 : l.stackTraces = false) (D : va_G) (cI cL : ClassId) (Wo : va_W) (h : Nat) (x : Nat → Int32) (sn : Nat) (th un ju ch : Int32) (tm : Nat) (ba : Int32) (v : Int32) (q : Nat) (o : Nat → Int64) (hO : t_obj cI h x sn th un ju ch tm ba Wo) (sz : Nat) : Met l yL_noteStart wsL_noteStart ({ frames := 9, cells := 1, slots := 6, locals := 381 }) (t_wPcX D cI cL [.ref h, .int v, .ref q] ((q, .inl (cL, 1, .inr (.inl o))) :: Wo) sz) (t_Qi D cI cL (fun r w1 => ∃ (o1 : Nat → Int64) (W1 : va_W), w1 = (q, .inl (cL, 1, .inr (.inl o1))) :: W1 ∧ ((r = nI 0 ∧ ∃ a : Int32, o1 0 = a.toInt64 ∧ (∃ j : Nat, v = nI j ∧ j < t_nn (t_PT x th un ju ch tm ba (t_F sn)) (t_on x) (t_F sn) ∧ a = nI (t_sts (t_PT x th un ju ch tm ba (t_F sn)) (t_on x) (t_F sn) j)) ∧ t_obj cI h x sn th un ju ch tm ba W1) ∨ (r = nI 1 ∧ ((v < 0 ∨ nI (t_nn (t_PT x th un ju ch tm ba (t_F sn)) (t_on x) (t_F sn)) ≤ v)) ∧ t_obj cI h x sn th un ju ch tm ba W1))) (va_A ((q, .inl (cL, 1, .inr (.inl o))) :: Wo) sz)) 1 6 (va_A ((q, .inl (cL, 1, .inr (.inl o))) :: Wo) sz) := by
  refine t_ofH (Qc := t_Qi D cI cL (fun r w1 => ∃ (o1 : Nat → Int64) (W1 : va_W), w1 = (q, .inl (cL, 1, .inr (.inl o1))) :: W1 ∧ ((r = nI 0 ∧ ∃ a : Int32, o1 0 = a.toInt64 ∧ (∃ j : Nat, v = nI j ∧ j < t_nn (t_PT x th un ju ch tm ba (t_F sn)) (t_on x) (t_F sn) ∧ a = nI (t_sts (t_PT x th un ju ch tm ba (t_F sn)) (t_on x) (t_F sn) j)) ∧ t_obj cI h x sn th un ju ch tm ba W1) ∨ (r = nI 1 ∧ ((v < 0 ∨ nI (t_nn (t_PT x th un ju ch tm ba (t_F sn)) (t_on x) (t_F sn)) ≤ v)) ∧ t_obj cI h x sn th un ju ch tm ba W1)))) (by decide) rfl (Nat.le_of_ble_eq_true rfl) ?_
  intro p e s m below meth c ls A hx hb hml hown hts hr hlocks htb hK hP hD hS hA hX hl
  have hown : s.vm.findClass RL = some m.cls := hown
  have hl : lv_has ls 4 [(0, .ref h), (1, .int v), (2, .ref q)] := hl
  obtain ⟨fs, hfs⟩ := t_obj_hd hO
  refine lv_aload_n hx hb dL_noteStart_0 rfl (lv_at hl 2 rfl) ?_
  refine lv_iconst (v := ((nI 0) : Int32)) hx hb dL_noteStart_1 (by decide +kernel) ?_
  refine lv_aload_n hx hb dL_noteStart_2 rfl (lv_at hl 0 rfl) ?_
  refine lv_iload_n hx hb dL_noteStart_3 rfl (lv_at hl 1 rfl) ?_
  have hPc : va_P D vwCl Wo s.heap := t_endP (a := [(q, .inl (cL, 1, .inr (.inl o)))]) hP
  have hDc : va_D A Wo := t_endD (a := [(q, .inl (cL, 1, .inr (.inl o)))]) hD
  have hFc : ∀ q, va_A Wo s.heap.size q → A q := t_endF (a := []) hDc hS hA
  refine vx_calli (vx_runV (As := [.int v]) (rest := [.int (nI 0), .ref q]) ⟨hx, hb, hml, hown, hts⟩ (c_X8_noteStart l hl0 D cI cL Wo h x sn th un ju ch tm ba v hO s.heap.size) (cwV 1 hts gL_noteStart_X8_noteStart rfl rfl rfl (by decide +kernel) ⟨Nat.le_of_ble_eq_true rfl, Nat.le_of_ble_eq_true rfl⟩) ⟨t_wPcX_blind, va_recv hK hPc (ci := 8) (q0 := 0) rfl hfs, fun U hU hW => ⟨rfl, by rw [hU], by rw [hU]; exact hPc, va_K.moved hW.alike hK, hDc.weaken (fun _ _ _ _ => trivial), by rw [hU]; exact (hX.narrow hFc).moved hW⟩⟩ rfl rfl hl.1 rfl (lv_room (Nat.le_of_ble_eq_true rfl)) dL_noteStart_4 ⟨Nat.le_of_ble_eq_true rfl, Nat.le_of_ble_eq_true rfl⟩) hS (fun q _ h => hFc q h) hFc (fun q _ h => hFc q h) (fun E ce q9 u t H1 locs ht hvm hw hB hz1 hk1 hS hce hcv hcl => ?_) (fun r1 u t H1 locs ht hvm hw hB hz1 hk1 hS => ?_)
  · obtain ⟨⟨hw, hO1⟩, hP1, hK1, hD1⟩ := hB
    rw [ht] at hP1
    obtain ⟨hP, hD⟩ := t_jend (a := [(q, .inl (cL, 1, .inr (.inl o)))]) hP hD hk1 hFc hP1 hD1
    have hP : va_P D vwCl ((q, .inl (cL, 1, .inr (.inl o))) :: u) H1 := hP
    have hD : va_D A ((q, .inl (cL, 1, .inr (.inl o))) :: u) := hD
    clear hP1 hD1 hK1 hPc hDc hFc hvm hz1 hk1
    clear ht
    obtain ⟨hE, hxc⟩ := hw
    subst hE
    refine vx_catch (own := RL) (name := "java/lang/IndexOutOfBoundsException") hown (tableOf []) ⟨0, 9, 12, 39⟩ (tableOf []) (by rw [htb]; rfl) (fun z hz => absurd hz List.not_mem_nil) (by decide +kernel) (by decide) (hts (.classLink RL 39 "java/lang/IndexOutOfBoundsException") (List.mem_of_getElem? (i := 1) rfl)) (va_Nw.use rfl hX.2.2.2.2.2.2.2.2.2.1) hce hcv hcl ?_
    refine lv_astore_n (lv' := [(3, .ref q9), (0, .ref h), (1, .int v), (2, .ref q)]) hx hb dL_noteStart_12 rfl hl (by decide) rfl (fun ls hl => ?_)
    refine lv_iconst (v := ((nI 1) : Int32)) hx hb dL_noteStart_13 (by decide +kernel) ?_
    exact W.iret (v := (nI 1)) hx hb hr (fun t ht hW => ⟨⟨_, ((q, .inl (cL, 1, .inr (.inl o))) :: u), rfl, ⟨_, u, rfl, Or.inr ⟨rfl, hxc, hO1⟩⟩, ⟨by rw [ht]; exact hP, va_K.moved hW.alike hK, hD⟩⟩, hS.F ht⟩) hS.2.2 dL_noteStart_14 hlocks
  · obtain ⟨⟨hP1, hK1, hD1⟩, hz9⟩ := hB
    rw [ht] at hP1
    obtain ⟨hP, hD⟩ := t_jend (a := [(q, .inl (cL, 1, .inr (.inl o)))]) hP hD hk1 hFc hP1 hD1
    have hP : va_P D vwCl ((q, .inl (cL, 1, .inr (.inl o))) :: u) H1 := hP
    have hD : va_D A ((q, .inl (cL, 1, .inr (.inl o))) :: u) := hD
    clear hP1 hD1 hK1 hPc hDc hFc hvm hz1 hk1
    clear ht
    generalize H1 = H at hP hS ⊢
    refine lv_i2l hx hb dL_noteStart_7 rfl ?_
    refine va_last hx hb hK hP hD hS 0 1 rfl rfl (vp_in_nI (by decide) (by decide)) dL_noteStart_8 (fun H locs hP hD hS => ?_)
    have hP : va_P D vwCl ((q, .inl (cL, 1, .inr (.inl (vp_updL o (nI 0).toNatClampNeg r1.toInt64)))) :: u) H := hP
    have hD : va_D A ((q, .inl (cL, 1, .inr (.inl (vp_updL o (nI 0).toNatClampNeg r1.toInt64)))) :: u) := hD
    refine lv_goto (tgt := 15) hx hb dL_noteStart_9 (by decide) ?_
    refine lv_iconst (v := ((nI 0) : Int32)) hx hb dL_noteStart_15 (by decide +kernel) ?_
    exact W.iret (v := (nI 0)) hx hb hr (fun t ht hW => ⟨⟨_, ((q, .inl (cL, 1, .inr (.inl (vp_updL o (nI 0).toNatClampNeg r1.toInt64)))) :: u), rfl, ⟨_, u, rfl, Or.inl ⟨rfl, r1, (by rw [nI_clamp (by decide)]; exact pk_uLs), hw⟩⟩, ⟨by rw [ht]; exact hP, va_K.moved hW.alike hK, hD⟩⟩, hS.F ht⟩) hS.2.2 dL_noteStart_16 hlocks

set_option maxHeartbeats 4000000 in
set_option maxRecDepth 100000 in
theorem c_L_noteLength (l : Launch) (hl0 : l.stackTraces = false) (D : va_G) (cI cL : ClassId) (Wo : va_W) (h : Nat) (x : Nat → Int32) (sn : Nat) (th un ju ch : Int32) (tm : Nat) (ba : Int32) (v : Int32) (q : Nat) (o : Nat → Int64) (hO : t_obj cI h x sn th un ju ch tm ba Wo) (sz : Nat) : Met l yL_noteLength wsL_noteLength ({ frames := 9, cells := 1, slots := 6, locals := 381 }) (t_wPcX D cI cL [.ref h, .int v, .ref q] ((q, .inl (cL, 1, .inr (.inl o))) :: Wo) sz) (t_Qi D cI cL (fun r w1 => ∃ (o1 : Nat → Int64) (W1 : va_W), w1 = (q, .inl (cL, 1, .inr (.inl o1))) :: W1 ∧ ((r = nI 0 ∧ ∃ a : Int32, o1 0 = a.toInt64 ∧ (∃ j : Nat, v = nI j ∧ j < t_nn (t_PT x th un ju ch tm ba (t_F sn)) (t_on x) (t_F sn) ∧ a = nI (t_lns (t_PT x th un ju ch tm ba (t_F sn)) (t_on x) (t_F sn) j)) ∧ t_obj cI h x sn th un ju ch tm ba W1) ∨ (r = nI 1 ∧ ((v < 0 ∨ nI (t_nn (t_PT x th un ju ch tm ba (t_F sn)) (t_on x) (t_F sn)) ≤ v)) ∧ t_obj cI h x sn th un ju ch tm ba W1))) (va_A ((q, .inl (cL, 1, .inr (.inl o))) :: Wo) sz)) 1 6 (va_A ((q, .inl (cL, 1, .inr (.inl o))) :: Wo) sz) := by
  refine t_ofH (Qc := t_Qi D cI cL (fun r w1 => ∃ (o1 : Nat → Int64) (W1 : va_W), w1 = (q, .inl (cL, 1, .inr (.inl o1))) :: W1 ∧ ((r = nI 0 ∧ ∃ a : Int32, o1 0 = a.toInt64 ∧ (∃ j : Nat, v = nI j ∧ j < t_nn (t_PT x th un ju ch tm ba (t_F sn)) (t_on x) (t_F sn) ∧ a = nI (t_lns (t_PT x th un ju ch tm ba (t_F sn)) (t_on x) (t_F sn) j)) ∧ t_obj cI h x sn th un ju ch tm ba W1) ∨ (r = nI 1 ∧ ((v < 0 ∨ nI (t_nn (t_PT x th un ju ch tm ba (t_F sn)) (t_on x) (t_F sn)) ≤ v)) ∧ t_obj cI h x sn th un ju ch tm ba W1)))) (by decide) rfl (Nat.le_of_ble_eq_true rfl) ?_
  intro p e s m below meth c ls A hx hb hml hown hts hr hlocks htb hK hP hD hS hA hX hl
  have hown : s.vm.findClass RL = some m.cls := hown
  have hl : lv_has ls 4 [(0, .ref h), (1, .int v), (2, .ref q)] := hl
  obtain ⟨fs, hfs⟩ := t_obj_hd hO
  refine lv_aload_n hx hb dL_noteLength_0 rfl (lv_at hl 2 rfl) ?_
  refine lv_iconst (v := ((nI 0) : Int32)) hx hb dL_noteLength_1 (by decide +kernel) ?_
  refine lv_aload_n hx hb dL_noteLength_2 rfl (lv_at hl 0 rfl) ?_
  refine lv_iload_n hx hb dL_noteLength_3 rfl (lv_at hl 1 rfl) ?_
  have hPc : va_P D vwCl Wo s.heap := t_endP (a := [(q, .inl (cL, 1, .inr (.inl o)))]) hP
  have hDc : va_D A Wo := t_endD (a := [(q, .inl (cL, 1, .inr (.inl o)))]) hD
  have hFc : ∀ q, va_A Wo s.heap.size q → A q := t_endF (a := []) hDc hS hA
  refine vx_calli (vx_runV (As := [.int v]) (rest := [.int (nI 0), .ref q]) ⟨hx, hb, hml, hown, hts⟩ (c_X8_noteLength l hl0 D cI cL Wo h x sn th un ju ch tm ba v hO s.heap.size) (cwV 1 hts gL_noteLength_X8_noteLength rfl rfl rfl (by decide +kernel) ⟨Nat.le_of_ble_eq_true rfl, Nat.le_of_ble_eq_true rfl⟩) ⟨t_wPcX_blind, va_recv hK hPc (ci := 8) (q0 := 0) rfl hfs, fun U hU hW => ⟨rfl, by rw [hU], by rw [hU]; exact hPc, va_K.moved hW.alike hK, hDc.weaken (fun _ _ _ _ => trivial), by rw [hU]; exact (hX.narrow hFc).moved hW⟩⟩ rfl rfl hl.1 rfl (lv_room (Nat.le_of_ble_eq_true rfl)) dL_noteLength_4 ⟨Nat.le_of_ble_eq_true rfl, Nat.le_of_ble_eq_true rfl⟩) hS (fun q _ h => hFc q h) hFc (fun q _ h => hFc q h) (fun E ce q9 u t H1 locs ht hvm hw hB hz1 hk1 hS hce hcv hcl => ?_) (fun r1 u t H1 locs ht hvm hw hB hz1 hk1 hS => ?_)
  · obtain ⟨⟨hw, hO1⟩, hP1, hK1, hD1⟩ := hB
    rw [ht] at hP1
    obtain ⟨hP, hD⟩ := t_jend (a := [(q, .inl (cL, 1, .inr (.inl o)))]) hP hD hk1 hFc hP1 hD1
    have hP : va_P D vwCl ((q, .inl (cL, 1, .inr (.inl o))) :: u) H1 := hP
    have hD : va_D A ((q, .inl (cL, 1, .inr (.inl o))) :: u) := hD
    clear hP1 hD1 hK1 hPc hDc hFc hvm hz1 hk1
    clear ht
    obtain ⟨hE, hxc⟩ := hw
    subst hE
    refine vx_catch (own := RL) (name := "java/lang/IndexOutOfBoundsException") hown (tableOf []) ⟨0, 9, 12, 39⟩ (tableOf []) (by rw [htb]; rfl) (fun z hz => absurd hz List.not_mem_nil) (by decide +kernel) (by decide) (hts (.classLink RL 39 "java/lang/IndexOutOfBoundsException") (List.mem_of_getElem? (i := 1) rfl)) (va_Nw.use rfl hX.2.2.2.2.2.2.2.2.2.1) hce hcv hcl ?_
    refine lv_astore_n (lv' := [(3, .ref q9), (0, .ref h), (1, .int v), (2, .ref q)]) hx hb dL_noteLength_12 rfl hl (by decide) rfl (fun ls hl => ?_)
    refine lv_iconst (v := ((nI 1) : Int32)) hx hb dL_noteLength_13 (by decide +kernel) ?_
    exact W.iret (v := (nI 1)) hx hb hr (fun t ht hW => ⟨⟨_, ((q, .inl (cL, 1, .inr (.inl o))) :: u), rfl, ⟨_, u, rfl, Or.inr ⟨rfl, hxc, hO1⟩⟩, ⟨by rw [ht]; exact hP, va_K.moved hW.alike hK, hD⟩⟩, hS.F ht⟩) hS.2.2 dL_noteLength_14 hlocks
  · obtain ⟨⟨hP1, hK1, hD1⟩, hz9⟩ := hB
    rw [ht] at hP1
    obtain ⟨hP, hD⟩ := t_jend (a := [(q, .inl (cL, 1, .inr (.inl o)))]) hP hD hk1 hFc hP1 hD1
    have hP : va_P D vwCl ((q, .inl (cL, 1, .inr (.inl o))) :: u) H1 := hP
    have hD : va_D A ((q, .inl (cL, 1, .inr (.inl o))) :: u) := hD
    clear hP1 hD1 hK1 hPc hDc hFc hvm hz1 hk1
    clear ht
    generalize H1 = H at hP hS ⊢
    refine lv_i2l hx hb dL_noteLength_7 rfl ?_
    refine va_last hx hb hK hP hD hS 0 1 rfl rfl (vp_in_nI (by decide) (by decide)) dL_noteLength_8 (fun H locs hP hD hS => ?_)
    have hP : va_P D vwCl ((q, .inl (cL, 1, .inr (.inl (vp_updL o (nI 0).toNatClampNeg r1.toInt64)))) :: u) H := hP
    have hD : va_D A ((q, .inl (cL, 1, .inr (.inl (vp_updL o (nI 0).toNatClampNeg r1.toInt64)))) :: u) := hD
    refine lv_goto (tgt := 15) hx hb dL_noteLength_9 (by decide) ?_
    refine lv_iconst (v := ((nI 0) : Int32)) hx hb dL_noteLength_15 (by decide +kernel) ?_
    exact W.iret (v := (nI 0)) hx hb hr (fun t ht hW => ⟨⟨_, ((q, .inl (cL, 1, .inr (.inl (vp_updL o (nI 0).toNatClampNeg r1.toInt64)))) :: u), rfl, ⟨_, u, rfl, Or.inl ⟨rfl, r1, (by rw [nI_clamp (by decide)]; exact pk_uLs), hw⟩⟩, ⟨by rw [ht]; exact hP, va_K.moved hW.alike hK, hD⟩⟩, hS.F ht⟩) hS.2.2 dL_noteLength_16 hlocks

set_option maxHeartbeats 4000000 in
set_option maxRecDepth 100000 in
theorem c_L_noteOf (l : Launch) (hl0 : l.stackTraces = false) (D : va_G) (cI cL : ClassId) (Wo : va_W) (h : Nat) (x : Nat → Int32) (sn : Nat) (th un ju ch : Int32) (tm : Nat) (ba : Int32) (v : Int32) (q : Nat) (o : Nat → Int64) (hO : t_obj cI h x sn th un ju ch tm ba Wo) (sz : Nat) : Met l yL_noteOf wsL_noteOf ({ frames := 9, cells := 1, slots := 6, locals := 381 }) (t_wPcX D cI cL [.ref h, .int v, .ref q] ((q, .inl (cL, 1, .inr (.inl o))) :: Wo) sz) (t_Qi D cI cL (fun r w1 => ∃ (o1 : Nat → Int64) (W1 : va_W), w1 = (q, .inl (cL, 1, .inr (.inl o1))) :: W1 ∧ ((r = nI 0 ∧ ∃ a : Int32, o1 0 = a.toInt64 ∧ (∃ j : Nat, v = nI j ∧ j < t_F sn ∧ a = t_of (t_PT x th un ju ch tm ba (t_F sn)) (t_on x) j) ∧ t_obj cI h x sn th un ju ch tm ba W1) ∨ (r = nI 1 ∧ ((v < 0 ∨ nI (t_F sn) ≤ v)) ∧ t_obj cI h x sn th un ju ch tm ba W1))) (va_A ((q, .inl (cL, 1, .inr (.inl o))) :: Wo) sz)) 1 6 (va_A ((q, .inl (cL, 1, .inr (.inl o))) :: Wo) sz) := by
  refine t_ofH (Qc := t_Qi D cI cL (fun r w1 => ∃ (o1 : Nat → Int64) (W1 : va_W), w1 = (q, .inl (cL, 1, .inr (.inl o1))) :: W1 ∧ ((r = nI 0 ∧ ∃ a : Int32, o1 0 = a.toInt64 ∧ (∃ j : Nat, v = nI j ∧ j < t_F sn ∧ a = t_of (t_PT x th un ju ch tm ba (t_F sn)) (t_on x) j) ∧ t_obj cI h x sn th un ju ch tm ba W1) ∨ (r = nI 1 ∧ ((v < 0 ∨ nI (t_F sn) ≤ v)) ∧ t_obj cI h x sn th un ju ch tm ba W1)))) (by decide) rfl (Nat.le_of_ble_eq_true rfl) ?_
  intro p e s m below meth c ls A hx hb hml hown hts hr hlocks htb hK hP hD hS hA hX hl
  have hown : s.vm.findClass RL = some m.cls := hown
  have hl : lv_has ls 4 [(0, .ref h), (1, .int v), (2, .ref q)] := hl
  obtain ⟨fs, hfs⟩ := t_obj_hd hO
  refine lv_aload_n hx hb dL_noteOf_0 rfl (lv_at hl 2 rfl) ?_
  refine lv_iconst (v := ((nI 0) : Int32)) hx hb dL_noteOf_1 (by decide +kernel) ?_
  refine lv_aload_n hx hb dL_noteOf_2 rfl (lv_at hl 0 rfl) ?_
  refine lv_iload_n hx hb dL_noteOf_3 rfl (lv_at hl 1 rfl) ?_
  have hPc : va_P D vwCl Wo s.heap := t_endP (a := [(q, .inl (cL, 1, .inr (.inl o)))]) hP
  have hDc : va_D A Wo := t_endD (a := [(q, .inl (cL, 1, .inr (.inl o)))]) hD
  have hFc : ∀ q, va_A Wo s.heap.size q → A q := t_endF (a := []) hDc hS hA
  refine vx_calli (vx_runV (As := [.int v]) (rest := [.int (nI 0), .ref q]) ⟨hx, hb, hml, hown, hts⟩ (c_X8_noteOf l hl0 D cI cL Wo h x sn th un ju ch tm ba v hO s.heap.size) (cwV 1 hts gL_noteOf_X8_noteOf rfl rfl rfl (by decide +kernel) ⟨Nat.le_of_ble_eq_true rfl, Nat.le_of_ble_eq_true rfl⟩) ⟨t_wPcX_blind, va_recv hK hPc (ci := 8) (q0 := 0) rfl hfs, fun U hU hW => ⟨rfl, by rw [hU], by rw [hU]; exact hPc, va_K.moved hW.alike hK, hDc.weaken (fun _ _ _ _ => trivial), by rw [hU]; exact (hX.narrow hFc).moved hW⟩⟩ rfl rfl hl.1 rfl (lv_room (Nat.le_of_ble_eq_true rfl)) dL_noteOf_4 ⟨Nat.le_of_ble_eq_true rfl, Nat.le_of_ble_eq_true rfl⟩) hS (fun q _ h => hFc q h) hFc (fun q _ h => hFc q h) (fun E ce q9 u t H1 locs ht hvm hw hB hz1 hk1 hS hce hcv hcl => ?_) (fun r1 u t H1 locs ht hvm hw hB hz1 hk1 hS => ?_)
  · obtain ⟨⟨hw, hO1⟩, hP1, hK1, hD1⟩ := hB
    rw [ht] at hP1
    obtain ⟨hP, hD⟩ := t_jend (a := [(q, .inl (cL, 1, .inr (.inl o)))]) hP hD hk1 hFc hP1 hD1
    have hP : va_P D vwCl ((q, .inl (cL, 1, .inr (.inl o))) :: u) H1 := hP
    have hD : va_D A ((q, .inl (cL, 1, .inr (.inl o))) :: u) := hD
    clear hP1 hD1 hK1 hPc hDc hFc hvm hz1 hk1
    clear ht
    obtain ⟨hE, hxc⟩ := hw
    subst hE
    refine vx_catch (own := RL) (name := "java/lang/IndexOutOfBoundsException") hown (tableOf []) ⟨0, 9, 12, 39⟩ (tableOf []) (by rw [htb]; rfl) (fun z hz => absurd hz List.not_mem_nil) (by decide +kernel) (by decide) (hts (.classLink RL 39 "java/lang/IndexOutOfBoundsException") (List.mem_of_getElem? (i := 1) rfl)) (va_Nw.use rfl hX.2.2.2.2.2.2.2.2.2.1) hce hcv hcl ?_
    refine lv_astore_n (lv' := [(3, .ref q9), (0, .ref h), (1, .int v), (2, .ref q)]) hx hb dL_noteOf_12 rfl hl (by decide) rfl (fun ls hl => ?_)
    refine lv_iconst (v := ((nI 1) : Int32)) hx hb dL_noteOf_13 (by decide +kernel) ?_
    exact W.iret (v := (nI 1)) hx hb hr (fun t ht hW => ⟨⟨_, ((q, .inl (cL, 1, .inr (.inl o))) :: u), rfl, ⟨_, u, rfl, Or.inr ⟨rfl, hxc, hO1⟩⟩, ⟨by rw [ht]; exact hP, va_K.moved hW.alike hK, hD⟩⟩, hS.F ht⟩) hS.2.2 dL_noteOf_14 hlocks
  · obtain ⟨⟨hP1, hK1, hD1⟩, hz9⟩ := hB
    rw [ht] at hP1
    obtain ⟨hP, hD⟩ := t_jend (a := [(q, .inl (cL, 1, .inr (.inl o)))]) hP hD hk1 hFc hP1 hD1
    have hP : va_P D vwCl ((q, .inl (cL, 1, .inr (.inl o))) :: u) H1 := hP
    have hD : va_D A ((q, .inl (cL, 1, .inr (.inl o))) :: u) := hD
    clear hP1 hD1 hK1 hPc hDc hFc hvm hz1 hk1
    clear ht
    generalize H1 = H at hP hS ⊢
    refine lv_i2l hx hb dL_noteOf_7 rfl ?_
    refine va_last hx hb hK hP hD hS 0 1 rfl rfl (vp_in_nI (by decide) (by decide)) dL_noteOf_8 (fun H locs hP hD hS => ?_)
    have hP : va_P D vwCl ((q, .inl (cL, 1, .inr (.inl (vp_updL o (nI 0).toNatClampNeg r1.toInt64)))) :: u) H := hP
    have hD : va_D A ((q, .inl (cL, 1, .inr (.inl (vp_updL o (nI 0).toNatClampNeg r1.toInt64)))) :: u) := hD
    refine lv_goto (tgt := 15) hx hb dL_noteOf_9 (by decide) ?_
    refine lv_iconst (v := ((nI 0) : Int32)) hx hb dL_noteOf_15 (by decide +kernel) ?_
    exact W.iret (v := (nI 0)) hx hb hr (fun t ht hW => ⟨⟨_, ((q, .inl (cL, 1, .inr (.inl (vp_updL o (nI 0).toNatClampNeg r1.toInt64)))) :: u), rfl, ⟨_, u, rfl, Or.inl ⟨rfl, r1, (by rw [nI_clamp (by decide)]; exact pk_uLs), hw⟩⟩, ⟨by rw [ht]; exact hP, va_K.moved hW.alike hK, hD⟩⟩, hS.F ht⟩) hS.2.2 dL_noteOf_16 hlocks
