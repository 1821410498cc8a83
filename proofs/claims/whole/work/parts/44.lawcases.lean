theorem t_bo_z {b : Int32} (h : ∃ B : Bool, b = t_b B) (h2 : b = 0) : b.toInt64 = 0 := by rw [h2]; decide +kernel
theorem t_bo_o {b : Int32} (h : ∃ B : Bool, b = t_b B) (h2 : ¬ b = 0) : b.toInt64 = 1 := by
  obtain ⟨B, hB⟩ := h
  cases B
  · exact absurd hB h2
  · rw [hB]; decide +kernel
theorem t_pr_isOnsetB {cI : ClassId} {h g : Nat} {x y : Nat → Int32} {n : Nat} {th un ju ch : Int32} {tm : Nat} {ba : Int32} {v r b : Int32} {o1 : Nat → Int64} {W1 M1 : va_W} (hag : t_agr x y n) (hn : n ≤ 1024) (hw : (r = nI 0 ∧ ∃ a : Int32, o1 0 = a.toInt64 ∧ (∃ j : Nat, v = nI j ∧ j < t_F n ∧ a = t_b (t_on x j)) ∧ t_obj cI h x n th un ju ch tm ba W1) ∨ (r = nI 1 ∧ ((v < 0 ∨ nI (t_F n) ≤ v)) ∧ t_obj cI h x n th un ju ch tm ba W1)) (hm : ((v < 0 ∨ nI (t_F n) ≤ v) ∧ t_mob cI g y n th un ju ch tm ba (nI 1) M1) ∨ (∃ j : Nat, v = nI j ∧ j < t_F n ∧ b = t_b (t_on y j) ∧ t_mob cI g y n th un ju ch tm ba (nI 0) M1)) : r = nI 0 → ∃ B : Bool, b = t_b B := by
  intro h0
  have hF := t_F_le hn
  rcases hm with ⟨hc, hM⟩ | ⟨i, hi1, hi2, hi3, hM⟩
  · rcases hw with ⟨hr, a, ho, ⟨j, hj1, hj2, hj3⟩, hO⟩ | ⟨hr, hc2, hO⟩
    · exact (t_noF hj1 hj2 (by omega) hc).elim
    · exact absurd (hr.symm.trans h0) t_nI10
  · exact ⟨_, hi3⟩
set_option maxHeartbeats 4000000 in
set_option maxRecDepth 100000 in
theorem law_c0 {p : Program} {l : Launch} {e : Env} {s : State} {m : MethodId} {below : List Frame} {meth : Method} {c : Code} {D : va_G} {cI cL : ClassId} {b L : Nat} {xs : Nat → Int32} {h g q k : Nat} {o : Nat → Int64} {Wo Wm : va_W} {H : Heap} {locs : List Loc} {ls : Array Slot} (hl0 : l.stackTraces = false) (C0 : lw_At p s m meth c b L xs) (hL : L ≤ 2560) (hk : 5 * k + 5 ≤ L) (hK : va_K D vwCl [(cI, .int), (cL, .long)] s) (hX : t_X (fun q : Nat => s.heap.size ≤ q) s s.heap) (hLI : t_LI cI h g Wo Wm) (hP : va_P D vwCl ((q, .inl (cL, 1, .inr (.inl o))) :: (Wo ++ Wm)) H) (hD : va_D (fun q : Nat => s.heap.size ≤ q) ((q, .inl (cL, 1, .inr (.inl o))) :: (Wo ++ Wm))) (hS : va_S (fun q : Nat => s.heap.size ≤ q) s.heap H locs) (hl : lv_has ls 7 [(0, .ref b), (1, .ref h), (2, .ref g), (3, .ref q), (4, .int (nI (5 * k)))]) (kk : ∀ (o : Nat → Int64) (Wo Wm : va_W) (H : Heap) (locs : List Loc) (ls : Array Slot), t_LI cI h g Wo Wm → va_P D vwCl ((q, .inl (cL, 1, .inr (.inl o))) :: (Wo ++ Wm)) H → va_D (fun q : Nat => s.heap.size ≤ q) ((q, .inl (cL, 1, .inr (.inl o))) :: (Wo ++ Wm)) → va_S (fun q : Nat => s.heap.size ≤ q) s.heap H locs → lv_has ls 7 [(0, .ref b), (1, .ref h), (2, .ref g), (3, .ref q), (4, .int (nI (5 * k)))] → W p l e room_1 s m #[Value.ref b] below meth c H locs (47 + (k + 1)) (8436 + 6 * (k + 1)) (lw_Z below #[Value.ref b] s) (F0 m 1520 ls [])) : W p l e room_1 s m #[Value.ref b] below meth c H locs (47 + k) (8436 + 6 * k) (lw_Z below #[Value.ref b] s) (F0 m 156 ls []) := by
  obtain ⟨hx, hb, hr, hml, hown, hts, hXs, hbl, hlocks, hgv⟩ := id C0
  have hown : s.vm.findClass RL = some m.cls := hown
  have hts : ∀ w ∈ wsL_law, w.before #[Value.ref b] s = true := fun w h => hts w (wsL_law_in w h)
  have hA : ∀ q : Nat, s.heap.size ≤ q → (fun q : Nat => s.heap.size ≤ q) q := fun _ h => h
  have hbA : ¬ (fun q : Nat => s.heap.size ≤ q) b := Nat.not_le.mpr hbl
  obtain ⟨x, y, n, th, un, ju, ch, tm, ba, thr, hO, hM, hag⟩ := hLI
  have hn := t_mob_n hM
  obtain ⟨fs, hfs⟩ := t_obj_hd hO
  obtain ⟨fsm, hfsm⟩ := t_mob_hd hM
  refine lv_aload_n hx hb dL_law_156 rfl (lv_at hl 1 rfl) ?_
  refine lv_aload_n hx hb dL_law_157 rfl (lv_at hl 0 rfl) ?_
  refine lv_iload hx hb dL_law_158 (lv_at hl 4 rfl) ?_
  refine lv_iconst (v := ((nI 1) : Int32)) hx hb dL_law_160 (by decide +kernel) ?_
  refine tv_iadd (a := 5 * k) (b := 1) hx hb dL_law_161 ?_
  refine va_sld hx hb hXs hbl hbA hS (vp_in_nI (by omega) (by omega)) dL_law_162 ?_
  refine tv_re (y := xs ((5 * k) + 1)) (by rw [nI_clamp (by omega)]) ?_
  refine lv_aload_n hx hb dL_law_163 rfl (lv_at hl 3 rfl) ?_
  have hPc : va_P D vwCl ((q, .inl (cL, 1, .inr (.inl o))) :: Wo) H := t_fstP (b := (q, .inl (cL, 1, .inr (.inl o))) :: Wo) (c := Wm) hP
  have hDc : va_D (fun q : Nat => s.heap.size ≤ q) ((q, .inl (cL, 1, .inr (.inl o))) :: Wo) := t_fstD (b := (q, .inl (cL, 1, .inr (.inl o))) :: Wo) (c := Wm) hD
  have hFc := t_fstF (b := (q, .inl (cL, 1, .inr (.inl o))) :: Wo) (c := Wm) hD hS hA
  refine va_calli (vx_runSW (As := [.ref h, .int (xs ((5 * k) + 1)), .ref q]) (rest := []) ⟨hx, hb, hml, hown, hts⟩ (c_L_feed l hl0 D cI cL Wo h x n th un ju ch tm ba (xs ((5 * k) + 1)) q o hO H.size) (vx_cwSW 3 hts gL_law_L_feed rfl rfl rfl (by decide +kernel) ⟨Nat.le_of_ble_eq_true rfl, Nat.le_of_ble_eq_true rfl⟩) ⟨t_wPcX_blind, fun U hU hW => ⟨rfl, by rw [hU], by rw [hU]; exact hPc, va_K.moved hW.alike hK, hDc.weaken (fun _ _ _ _ => trivial), by rw [hU]; exact ((hX.kept hS.2.1).narrow hFc).moved hW⟩⟩ rfl rfl hl.1 rfl (lv_room (Nat.le_of_ble_eq_true rfl)) dL_law_164 ⟨(show 47 + k + 1 ≤ 1074 by omega), (show 8436 + 6 * k + 6 ≤ 11629 by omega)⟩) hS (fun q _ h => hFc q h) hFc (fun r1 u t H1 locs ht hvm hw hB hz1 hk1 hS => ?_)
  obtain ⟨hP1, hK1, hD1⟩ := hB
  rw [ht] at hP1
  obtain ⟨hP, hD⟩ := t_jfst (b := (q, .inl (cL, 1, .inr (.inl o))) :: Wo) (c := Wm) hP hD hk1 hFc hP1 hD1
  obtain ⟨o1, W1, hu, hwc⟩ := hw
  subst hu
  have hP : va_P D vwCl ((q, .inl (cL, 1, .inr (.inl o1))) :: (W1 ++ Wm)) H1 := hP
  have hD : va_D (fun q : Nat => s.heap.size ≤ q) ((q, .inl (cL, 1, .inr (.inl o1))) :: (W1 ++ Wm)) := hD
  clear hP1 hD1 hK1 hPc hDc hFc hvm hz1 hk1 ht
  generalize H1 = H at hP hS ⊢
  refine lv_istore (lv' := [(5, .int r1), (0, .ref b), (1, .ref h), (2, .ref g), (3, .ref q), (4, .int (nI (5 * k)))]) hx hb dL_law_167 hl (by decide) rfl (fun ls hl => ?_)
  refine lv_aload_n hx hb dL_law_169 rfl (lv_at hl 3 rfl) ?_
  refine lv_aload_n hx hb dL_law_170 rfl (lv_at hl 1 rfl) ?_
  refine lv_iload hx hb dL_law_171 (lv_at hl 5 rfl) ?_
  refine lv_iconst (v := ((nI 1) : Int32)) hx hb dL_law_173 (by decide +kernel) ?_
  refine tv_iadd (a := 5 * k) (b := 1) hx hb dL_law_174 ?_
  refine va_sld hx hb hXs hbl hbA hS (vp_in_nI (by omega) (by omega)) dL_law_175 ?_
  refine tv_re (y := xs ((5 * k) + 1)) (by rw [nI_clamp (by omega)]) ?_
  have hPc : va_P D vwCl Wm H := t_endP (a := (q, .inl (cL, 1, .inr (.inl o1))) :: W1) hP
  have hDc : va_D (fun q : Nat => s.heap.size ≤ q) Wm := t_endD (a := (q, .inl (cL, 1, .inr (.inl o1))) :: W1) hD
  have hFc := t_endF (a := (q, .inl (cL, 1, .inr (.inl o1))) :: W1) hD hS hA
  refine va_calli (va_runV (As := [.int (xs ((5 * k) + 1))]) (rest := []) ⟨hx, hb, hml, hown, hts⟩ (c_X9_feed l D cI cL Wm g y n th un ju ch tm ba thr (xs ((5 * k) + 1)) hM H.size) (cwV 1 hts gL_law_X9_feed rfl rfl rfl (by decide +kernel) ⟨Nat.le_of_ble_eq_true rfl, Nat.le_of_ble_eq_true rfl⟩) ⟨t_wPc_blind, va_recv hK hPc (ci := 9) (q0 := 0) rfl hfsm, fun U hU hW => ⟨rfl, by rw [hU], by rw [hU]; exact hPc, va_K.moved hW.alike hK, hDc.weaken (fun _ _ _ _ => trivial)⟩⟩ rfl rfl hl.1 rfl (lv_room (Nat.le_of_ble_eq_true rfl)) dL_law_176 ⟨(show 47 + k + 1 + 0 ≤ 1074 by omega), (show 8436 + 6 * k + 6 + 0 ≤ 11629 by omega)⟩) hS (fun q _ h => hFc q h) hFc (fun b1 u t H1 locs ht hvm hw hB hz1 hk1 hS => ?_)
  obtain ⟨hP1, hK1, hD1⟩ := hB
  rw [ht] at hP1
  obtain ⟨hP, hD⟩ := t_jend (a := (q, .inl (cL, 1, .inr (.inl o1))) :: W1) hP hD hk1 hFc hP1 hD1
  have hwm := hw
  obtain ⟨M1, huM1⟩ : ∃ W1, W1 = u := ⟨_, rfl⟩
  rw [← huM1] at hP hD hwm
  have hP : va_P D vwCl ((q, .inl (cL, 1, .inr (.inl o1))) :: (W1 ++ M1)) H1 := hP
  have hD : va_D (fun q : Nat => s.heap.size ≤ q) ((q, .inl (cL, 1, .inr (.inl o1))) :: (W1 ++ M1)) := hD
  clear hP1 hD1 hK1 hPc hDc hFc hvm hz1 hk1 ht
  generalize H1 = H at hP hS ⊢
  obtain ⟨h0, x2, y2, n2, th2, un2, ju2, ch2, tm2, ba2, hO2, hM2, hag2⟩ := t_pr_feed (r := r1)  hag hn hwc hwm
  refine lv_istore (lv' := [(6, .int b1), (5, .int r1), (0, .ref b), (1, .ref h), (2, .ref g), (3, .ref q), (4, .int (nI (5 * k)))]) hx hb dL_law_179 hl (by decide) rfl (fun ls hl => ?_)
  refine lv_aload_n hx hb dL_law_181 rfl (lv_at hl 4 rfl) ?_
  have hPc : va_P D vwCl M1 H := t_endP (a := (q, .inl (cL, 1, .inr (.inl o1))) :: W1) hP
  have hDc : va_D (fun q : Nat => s.heap.size ≤ q) M1 := t_endD (a := (q, .inl (cL, 1, .inr (.inl o1))) :: W1) hD
  have hFc := t_endF (a := (q, .inl (cL, 1, .inr (.inl o1))) :: W1) hD hS hA
  obtain ⟨fsm, hfsm⟩ := t_mob_hd hM2
  refine va_calli (va_runV (As := []) (rest := []) ⟨hx, hb, hml, hown, hts⟩ (c_X9_thrown l D cI cL M1 g y2 n2 th2 un2 ju2 ch2 tm2 ba2 r1 hM2 H.size) (cwV 0 hts gL_law_X9_thrown rfl rfl rfl (by decide +kernel) ⟨Nat.le_of_ble_eq_true rfl, Nat.le_of_ble_eq_true rfl⟩) ⟨t_wPc_blind, va_recv hK hPc (ci := 9) (q0 := 0) rfl hfsm, fun U hU hW => ⟨rfl, by rw [hU], by rw [hU]; exact hPc, va_K.moved hW.alike hK, hDc.weaken (fun _ _ _ _ => trivial)⟩⟩ rfl rfl hl.1 rfl (lv_room (Nat.le_of_ble_eq_true rfl)) dL_law_182 ⟨(show 47 + k + 1 + 0 ≤ 1074 by omega), (show 8436 + 6 * k + 6 + 0 ≤ 11629 by omega)⟩) hS (fun q _ h => hFc q h) hFc (fun r3 u t H1 locs ht hvm hw hB hz1 hk1 hS => ?_)
  obtain ⟨hP1, hK1, hD1⟩ := hB
  rw [ht] at hP1
  obtain ⟨hP, hD⟩ := t_jend (a := (q, .inl (cL, 1, .inr (.inl o1))) :: W1) hP hD hk1 hFc hP1 hD1
  obtain ⟨M2, huM2⟩ : ∃ W1, W1 = u := ⟨_, rfl⟩
  rw [← huM2] at hP hD hw
  have hP : va_P D vwCl ((q, .inl (cL, 1, .inr (.inl o1))) :: (W1 ++ M2)) H1 := hP
  have hD : va_D (fun q : Nat => s.heap.size ≤ q) ((q, .inl (cL, 1, .inr (.inl o1))) :: (W1 ++ M2)) := hD
  clear hP1 hD1 hK1 hPc hDc hFc hvm hz1 hk1 ht
  generalize H1 = H at hP hS ⊢
  obtain ⟨h3, hM3⟩ := hw
  refine tv_re (y := r1) h3 ?_
  have hLI2 : t_LI cI h g W1 M2 := t_LJ_LI hO2 hM3 hag2
  refine lv_iload hx hb dL_law_185 (lv_at hl 1 rfl) ?_
  refine lv_icmp_eq (tgt := 192) hx hb dL_law_187 (by decide) (fun q187_1 => ?_) (fun q187_1 => absurd rfl q187_1)
  refine lv_iload hx hb dL_law_192 (lv_at hl 1 rfl) ?_
  refine lv_if_ne (tgt := 209) hx hb dL_law_194 (by decide) (fun q194_2 => ?_) (fun q194_2 => ?_)
  · refine lv_goto (tgt := 1520) hx hb dL_law_209 (by decide) ?_
    exact kk _ _ _ _ _ _ hLI2 hP hD hS (lv_sub hl [2, 3, 4, 5, 6] rfl)
  · refine lv_aload_n hx hb dL_law_197 rfl (lv_at hl 5 rfl) ?_
    refine lv_iconst (v := ((nI 0) : Int32)) hx hb dL_law_198 (by decide +kernel) ?_
    refine va_lald hx hb hK hP 0 1 rfl rfl (vp_in_nI (by decide) (by decide)) dL_law_199 ?_
    refine tv_reL (y := o1 0) (by rw [nI_clamp (by decide)]) ?_
    refine lv_iload hx hb dL_law_200 (lv_at hl 0 rfl) ?_
    refine lv_i2l hx hb dL_law_202 rfl ?_
    refine W.lcmp hx hb dL_law_203 ?_
    refine tv_cmp_eq (tgt := 209) hx hb dL_law_204 (by decide) (fun q204_3 => ?_) (fun q204_3 => absurd (h0 (q194_2.trans nI_0.symm)) q204_3)
    refine lv_goto (tgt := 1520) hx hb dL_law_209 (by decide) ?_
    exact kk _ _ _ _ _ _ hLI2 hP hD hS (lv_sub hl [2, 3, 4, 5, 6] rfl)

set_option maxHeartbeats 4000000 in
set_option maxRecDepth 100000 in
theorem law_c1 {p : Program} {l : Launch} {e : Env} {s : State} {m : MethodId} {below : List Frame} {meth : Method} {c : Code} {D : va_G} {cI cL : ClassId} {b L : Nat} {xs : Nat → Int32} {h g q k : Nat} {o : Nat → Int64} {Wo Wm : va_W} {H : Heap} {locs : List Loc} {ls : Array Slot} (hl0 : l.stackTraces = false) (C0 : lw_At p s m meth c b L xs) (hL : L ≤ 2560) (hk : 5 * k + 5 ≤ L) (hK : va_K D vwCl [(cI, .int), (cL, .long)] s) (hX : t_X (fun q : Nat => s.heap.size ≤ q) s s.heap) (hLI : t_LI cI h g Wo Wm) (hP : va_P D vwCl ((q, .inl (cL, 1, .inr (.inl o))) :: (Wo ++ Wm)) H) (hD : va_D (fun q : Nat => s.heap.size ≤ q) ((q, .inl (cL, 1, .inr (.inl o))) :: (Wo ++ Wm))) (hS : va_S (fun q : Nat => s.heap.size ≤ q) s.heap H locs) (hl : lv_has ls 7 [(0, .ref b), (1, .ref h), (2, .ref g), (3, .ref q), (4, .int (nI (5 * k)))]) (kk : ∀ (o : Nat → Int64) (Wo Wm : va_W) (H : Heap) (locs : List Loc) (ls : Array Slot), t_LI cI h g Wo Wm → va_P D vwCl ((q, .inl (cL, 1, .inr (.inl o))) :: (Wo ++ Wm)) H → va_D (fun q : Nat => s.heap.size ≤ q) ((q, .inl (cL, 1, .inr (.inl o))) :: (Wo ++ Wm)) → va_S (fun q : Nat => s.heap.size ≤ q) s.heap H locs → lv_has ls 7 [(0, .ref b), (1, .ref h), (2, .ref g), (3, .ref q), (4, .int (nI (5 * k)))] → W p l e room_1 s m #[Value.ref b] below meth c H locs (47 + (k + 1)) (8436 + 6 * (k + 1)) (lw_Z below #[Value.ref b] s) (F0 m 1520 ls [])) : W p l e room_1 s m #[Value.ref b] below meth c H locs (47 + k) (8436 + 6 * k) (lw_Z below #[Value.ref b] s) (F0 m 212 ls []) := by
  obtain ⟨hx, hb, hr, hml, hown, hts, hXs, hbl, hlocks, hgv⟩ := id C0
  have hown : s.vm.findClass RL = some m.cls := hown
  have hts : ∀ w ∈ wsL_law, w.before #[Value.ref b] s = true := fun w h => hts w (wsL_law_in w h)
  have hA : ∀ q : Nat, s.heap.size ≤ q → (fun q : Nat => s.heap.size ≤ q) q := fun _ h => h
  have hbA : ¬ (fun q : Nat => s.heap.size ≤ q) b := Nat.not_le.mpr hbl
  obtain ⟨x, y, n, th, un, ju, ch, tm, ba, thr, hO, hM, hag⟩ := hLI
  have hn := t_mob_n hM
  obtain ⟨fs, hfs⟩ := t_obj_hd hO
  obtain ⟨fsm, hfsm⟩ := t_mob_hd hM
  refine lv_aload_n hx hb dL_law_212 rfl (lv_at hl 1 rfl) ?_
  refine lv_aload_n hx hb dL_law_213 rfl (lv_at hl 0 rfl) ?_
  refine lv_iload hx hb dL_law_214 (lv_at hl 4 rfl) ?_
  refine lv_iconst (v := ((nI 1) : Int32)) hx hb dL_law_216 (by decide +kernel) ?_
  refine tv_iadd (a := 5 * k) (b := 1) hx hb dL_law_217 ?_
  refine va_sld hx hb hXs hbl hbA hS (vp_in_nI (by omega) (by omega)) dL_law_218 ?_
  refine tv_re (y := xs ((5 * k) + 1)) (by rw [nI_clamp (by omega)]) ?_
  refine lv_aload_n hx hb dL_law_219 rfl (lv_at hl 0 rfl) ?_
  refine lv_iload hx hb dL_law_220 (lv_at hl 4 rfl) ?_
  refine lv_iconst (v := ((nI 2) : Int32)) hx hb dL_law_222 (by decide +kernel) ?_
  refine tv_iadd (a := 5 * k) (b := 2) hx hb dL_law_223 ?_
  refine va_sld hx hb hXs hbl hbA hS (vp_in_nI (by omega) (by omega)) dL_law_224 ?_
  refine tv_re (y := xs ((5 * k) + 2)) (by rw [nI_clamp (by omega)]) ?_
  refine lv_aload_n hx hb dL_law_225 rfl (lv_at hl 0 rfl) ?_
  refine lv_iload hx hb dL_law_226 (lv_at hl 4 rfl) ?_
  refine lv_iconst (v := ((nI 3) : Int32)) hx hb dL_law_228 (by decide +kernel) ?_
  refine tv_iadd (a := 5 * k) (b := 3) hx hb dL_law_229 ?_
  refine va_sld hx hb hXs hbl hbA hS (vp_in_nI (by omega) (by omega)) dL_law_230 ?_
  refine tv_re (y := xs ((5 * k) + 3)) (by rw [nI_clamp (by omega)]) ?_
  refine lv_aload_n hx hb dL_law_231 rfl (lv_at hl 0 rfl) ?_
  refine lv_iload hx hb dL_law_232 (lv_at hl 4 rfl) ?_
  refine lv_iconst (v := ((nI 4) : Int32)) hx hb dL_law_234 (by decide +kernel) ?_
  refine tv_iadd (a := 5 * k) (b := 4) hx hb dL_law_235 ?_
  refine va_sld hx hb hXs hbl hbA hS (vp_in_nI (by omega) (by omega)) dL_law_236 ?_
  refine tv_re (y := xs ((5 * k) + 4)) (by rw [nI_clamp (by omega)]) ?_
  refine lv_aload_n hx hb dL_law_237 rfl (lv_at hl 3 rfl) ?_
  have hPc : va_P D vwCl ((q, .inl (cL, 1, .inr (.inl o))) :: Wo) H := t_fstP (b := (q, .inl (cL, 1, .inr (.inl o))) :: Wo) (c := Wm) hP
  have hDc : va_D (fun q : Nat => s.heap.size ≤ q) ((q, .inl (cL, 1, .inr (.inl o))) :: Wo) := t_fstD (b := (q, .inl (cL, 1, .inr (.inl o))) :: Wo) (c := Wm) hD
  have hFc := t_fstF (b := (q, .inl (cL, 1, .inr (.inl o))) :: Wo) (c := Wm) hD hS hA
  refine va_calli (vx_runSW (As := [.ref h, .int (xs ((5 * k) + 1)), .int (xs ((5 * k) + 2)), .int (xs ((5 * k) + 3)), .int (xs ((5 * k) + 4)), .ref q]) (rest := []) ⟨hx, hb, hml, hown, hts⟩ (c_L_feedWave l hl0 D cI cL Wo h x n th un ju ch tm ba (xs ((5 * k) + 1)) (xs ((5 * k) + 2)) (xs ((5 * k) + 3)) (xs ((5 * k) + 4)) q o hO H.size) (vx_cwSW 6 hts gL_law_L_feedWave rfl rfl rfl (by decide +kernel) ⟨Nat.le_of_ble_eq_true rfl, Nat.le_of_ble_eq_true rfl⟩) ⟨t_wPcX_blind, fun U hU hW => ⟨rfl, by rw [hU], by rw [hU]; exact hPc, va_K.moved hW.alike hK, hDc.weaken (fun _ _ _ _ => trivial), by rw [hU]; exact ((hX.kept hS.2.1).narrow hFc).moved hW⟩⟩ rfl rfl hl.1 rfl (lv_room (Nat.le_of_ble_eq_true rfl)) dL_law_238 ⟨(show 47 + k + 1 ≤ 1074 by omega), (show 8436 + 6 * k + 6 ≤ 11629 by omega)⟩) hS (fun q _ h => hFc q h) hFc (fun r1 u t H1 locs ht hvm hw hB hz1 hk1 hS => ?_)
  obtain ⟨hP1, hK1, hD1⟩ := hB
  rw [ht] at hP1
  obtain ⟨hP, hD⟩ := t_jfst (b := (q, .inl (cL, 1, .inr (.inl o))) :: Wo) (c := Wm) hP hD hk1 hFc hP1 hD1
  obtain ⟨o1, W1, hu, hwc⟩ := hw
  subst hu
  have hP : va_P D vwCl ((q, .inl (cL, 1, .inr (.inl o1))) :: (W1 ++ Wm)) H1 := hP
  have hD : va_D (fun q : Nat => s.heap.size ≤ q) ((q, .inl (cL, 1, .inr (.inl o1))) :: (W1 ++ Wm)) := hD
  clear hP1 hD1 hK1 hPc hDc hFc hvm hz1 hk1 ht
  generalize H1 = H at hP hS ⊢
  refine lv_istore (lv' := [(5, .int r1), (0, .ref b), (1, .ref h), (2, .ref g), (3, .ref q), (4, .int (nI (5 * k)))]) hx hb dL_law_241 hl (by decide) rfl (fun ls hl => ?_)
  refine lv_aload_n hx hb dL_law_243 rfl (lv_at hl 3 rfl) ?_
  refine lv_aload_n hx hb dL_law_244 rfl (lv_at hl 1 rfl) ?_
  refine lv_iload hx hb dL_law_245 (lv_at hl 5 rfl) ?_
  refine lv_iconst (v := ((nI 1) : Int32)) hx hb dL_law_247 (by decide +kernel) ?_
  refine tv_iadd (a := 5 * k) (b := 1) hx hb dL_law_248 ?_
  refine va_sld hx hb hXs hbl hbA hS (vp_in_nI (by omega) (by omega)) dL_law_249 ?_
  refine tv_re (y := xs ((5 * k) + 1)) (by rw [nI_clamp (by omega)]) ?_
  refine lv_aload_n hx hb dL_law_250 rfl (lv_at hl 1 rfl) ?_
  refine lv_iload hx hb dL_law_251 (lv_at hl 5 rfl) ?_
  refine lv_iconst (v := ((nI 2) : Int32)) hx hb dL_law_253 (by decide +kernel) ?_
  refine tv_iadd (a := 5 * k) (b := 2) hx hb dL_law_254 ?_
  refine va_sld hx hb hXs hbl hbA hS (vp_in_nI (by omega) (by omega)) dL_law_255 ?_
  refine tv_re (y := xs ((5 * k) + 2)) (by rw [nI_clamp (by omega)]) ?_
  refine lv_aload_n hx hb dL_law_256 rfl (lv_at hl 1 rfl) ?_
  refine lv_iload hx hb dL_law_257 (lv_at hl 5 rfl) ?_
  refine lv_iconst (v := ((nI 3) : Int32)) hx hb dL_law_259 (by decide +kernel) ?_
  refine tv_iadd (a := 5 * k) (b := 3) hx hb dL_law_260 ?_
  refine va_sld hx hb hXs hbl hbA hS (vp_in_nI (by omega) (by omega)) dL_law_261 ?_
  refine tv_re (y := xs ((5 * k) + 3)) (by rw [nI_clamp (by omega)]) ?_
  refine lv_aload_n hx hb dL_law_262 rfl (lv_at hl 1 rfl) ?_
  refine lv_iload hx hb dL_law_263 (lv_at hl 5 rfl) ?_
  refine lv_iconst (v := ((nI 4) : Int32)) hx hb dL_law_265 (by decide +kernel) ?_
  refine tv_iadd (a := 5 * k) (b := 4) hx hb dL_law_266 ?_
  refine va_sld hx hb hXs hbl hbA hS (vp_in_nI (by omega) (by omega)) dL_law_267 ?_
  refine tv_re (y := xs ((5 * k) + 4)) (by rw [nI_clamp (by omega)]) ?_
  have hPc : va_P D vwCl Wm H := t_endP (a := (q, .inl (cL, 1, .inr (.inl o1))) :: W1) hP
  have hDc : va_D (fun q : Nat => s.heap.size ≤ q) Wm := t_endD (a := (q, .inl (cL, 1, .inr (.inl o1))) :: W1) hD
  have hFc := t_endF (a := (q, .inl (cL, 1, .inr (.inl o1))) :: W1) hD hS hA
  refine va_calli (va_runV (As := [.int (xs ((5 * k) + 1)), .int (xs ((5 * k) + 2)), .int (xs ((5 * k) + 3)), .int (xs ((5 * k) + 4))]) (rest := []) ⟨hx, hb, hml, hown, hts⟩ (c_X9_feedWave2 l D cI cL Wm g y n th un ju ch tm ba thr (xs ((5 * k) + 1)) (xs ((5 * k) + 2)) (xs ((5 * k) + 3)) (xs ((5 * k) + 4)) hM H.size) (cwV 4 hts gL_law_X9_feedWave rfl rfl rfl (by decide +kernel) ⟨Nat.le_of_ble_eq_true rfl, Nat.le_of_ble_eq_true rfl⟩) ⟨t_wPc_blind, va_recv hK hPc (ci := 9) (q0 := 0) rfl hfsm, fun U hU hW => ⟨rfl, by rw [hU], by rw [hU]; exact hPc, va_K.moved hW.alike hK, hDc.weaken (fun _ _ _ _ => trivial)⟩⟩ rfl rfl hl.1 rfl (lv_room (Nat.le_of_ble_eq_true rfl)) dL_law_268 ⟨(show 47 + k + 1 + 0 ≤ 1074 by omega), (show 8436 + 6 * k + 6 + 0 ≤ 11629 by omega)⟩) hS (fun q _ h => hFc q h) hFc (fun b1 u t H1 locs ht hvm hw hB hz1 hk1 hS => ?_)
  obtain ⟨hP1, hK1, hD1⟩ := hB
  rw [ht] at hP1
  obtain ⟨hP, hD⟩ := t_jend (a := (q, .inl (cL, 1, .inr (.inl o1))) :: W1) hP hD hk1 hFc hP1 hD1
  have hwm := hw
  obtain ⟨M1, huM1⟩ : ∃ W1, W1 = u := ⟨_, rfl⟩
  rw [← huM1] at hP hD hwm
  have hP : va_P D vwCl ((q, .inl (cL, 1, .inr (.inl o1))) :: (W1 ++ M1)) H1 := hP
  have hD : va_D (fun q : Nat => s.heap.size ≤ q) ((q, .inl (cL, 1, .inr (.inl o1))) :: (W1 ++ M1)) := hD
  clear hP1 hD1 hK1 hPc hDc hFc hvm hz1 hk1 ht
  generalize H1 = H at hP hS ⊢
  obtain ⟨h0, x2, y2, n2, th2, un2, ju2, ch2, tm2, ba2, hO2, hM2, hag2⟩ := t_pr_feedWave (r := r1)  hag hn hwc hwm
  refine lv_istore (lv' := [(6, .int b1), (5, .int r1), (0, .ref b), (1, .ref h), (2, .ref g), (3, .ref q), (4, .int (nI (5 * k)))]) hx hb dL_law_271 hl (by decide) rfl (fun ls hl => ?_)
  refine lv_aload_n hx hb dL_law_273 rfl (lv_at hl 4 rfl) ?_
  have hPc : va_P D vwCl M1 H := t_endP (a := (q, .inl (cL, 1, .inr (.inl o1))) :: W1) hP
  have hDc : va_D (fun q : Nat => s.heap.size ≤ q) M1 := t_endD (a := (q, .inl (cL, 1, .inr (.inl o1))) :: W1) hD
  have hFc := t_endF (a := (q, .inl (cL, 1, .inr (.inl o1))) :: W1) hD hS hA
  obtain ⟨fsm, hfsm⟩ := t_mob_hd hM2
  refine va_calli (va_runV (As := []) (rest := []) ⟨hx, hb, hml, hown, hts⟩ (c_X9_thrown l D cI cL M1 g y2 n2 th2 un2 ju2 ch2 tm2 ba2 r1 hM2 H.size) (cwV 0 hts gL_law_X9_thrown rfl rfl rfl (by decide +kernel) ⟨Nat.le_of_ble_eq_true rfl, Nat.le_of_ble_eq_true rfl⟩) ⟨t_wPc_blind, va_recv hK hPc (ci := 9) (q0 := 0) rfl hfsm, fun U hU hW => ⟨rfl, by rw [hU], by rw [hU]; exact hPc, va_K.moved hW.alike hK, hDc.weaken (fun _ _ _ _ => trivial)⟩⟩ rfl rfl hl.1 rfl (lv_room (Nat.le_of_ble_eq_true rfl)) dL_law_274 ⟨(show 47 + k + 1 + 0 ≤ 1074 by omega), (show 8436 + 6 * k + 6 + 0 ≤ 11629 by omega)⟩) hS (fun q _ h => hFc q h) hFc (fun r3 u t H1 locs ht hvm hw hB hz1 hk1 hS => ?_)
  obtain ⟨hP1, hK1, hD1⟩ := hB
  rw [ht] at hP1
  obtain ⟨hP, hD⟩ := t_jend (a := (q, .inl (cL, 1, .inr (.inl o1))) :: W1) hP hD hk1 hFc hP1 hD1
  obtain ⟨M2, huM2⟩ : ∃ W1, W1 = u := ⟨_, rfl⟩
  rw [← huM2] at hP hD hw
  have hP : va_P D vwCl ((q, .inl (cL, 1, .inr (.inl o1))) :: (W1 ++ M2)) H1 := hP
  have hD : va_D (fun q : Nat => s.heap.size ≤ q) ((q, .inl (cL, 1, .inr (.inl o1))) :: (W1 ++ M2)) := hD
  clear hP1 hD1 hK1 hPc hDc hFc hvm hz1 hk1 ht
  generalize H1 = H at hP hS ⊢
  obtain ⟨h3, hM3⟩ := hw
  refine tv_re (y := r1) h3 ?_
  have hLI2 : t_LI cI h g W1 M2 := t_LJ_LI hO2 hM3 hag2
  refine lv_iload hx hb dL_law_277 (lv_at hl 1 rfl) ?_
  refine lv_icmp_eq (tgt := 284) hx hb dL_law_279 (by decide) (fun q279_1 => ?_) (fun q279_1 => absurd rfl q279_1)
  refine lv_iload hx hb dL_law_284 (lv_at hl 1 rfl) ?_
  refine lv_if_ne (tgt := 301) hx hb dL_law_286 (by decide) (fun q286_2 => ?_) (fun q286_2 => ?_)
  · refine lv_goto (tgt := 1520) hx hb dL_law_301 (by decide) ?_
    exact kk _ _ _ _ _ _ hLI2 hP hD hS (lv_sub hl [2, 3, 4, 5, 6] rfl)
  · refine lv_aload_n hx hb dL_law_289 rfl (lv_at hl 5 rfl) ?_
    refine lv_iconst (v := ((nI 0) : Int32)) hx hb dL_law_290 (by decide +kernel) ?_
    refine va_lald hx hb hK hP 0 1 rfl rfl (vp_in_nI (by decide) (by decide)) dL_law_291 ?_
    refine tv_reL (y := o1 0) (by rw [nI_clamp (by decide)]) ?_
    refine lv_iload hx hb dL_law_292 (lv_at hl 0 rfl) ?_
    refine lv_i2l hx hb dL_law_294 rfl ?_
    refine W.lcmp hx hb dL_law_295 ?_
    refine tv_cmp_eq (tgt := 301) hx hb dL_law_296 (by decide) (fun q296_3 => ?_) (fun q296_3 => absurd (h0 (q286_2.trans nI_0.symm)) q296_3)
    refine lv_goto (tgt := 1520) hx hb dL_law_301 (by decide) ?_
    exact kk _ _ _ _ _ _ hLI2 hP hD hS (lv_sub hl [2, 3, 4, 5, 6] rfl)

set_option maxHeartbeats 4000000 in
set_option maxRecDepth 100000 in
theorem law_c2 {p : Program} {l : Launch} {e : Env} {s : State} {m : MethodId} {below : List Frame} {meth : Method} {c : Code} {D : va_G} {cI cL : ClassId} {b L : Nat} {xs : Nat → Int32} {h g q k : Nat} {o : Nat → Int64} {Wo Wm : va_W} {H : Heap} {locs : List Loc} {ls : Array Slot} (hl0 : l.stackTraces = false) (C0 : lw_At p s m meth c b L xs) (hL : L ≤ 2560) (hk : 5 * k + 5 ≤ L) (hK : va_K D vwCl [(cI, .int), (cL, .long)] s) (hX : t_X (fun q : Nat => s.heap.size ≤ q) s s.heap) (hLI : t_LI cI h g Wo Wm) (hP : va_P D vwCl ((q, .inl (cL, 1, .inr (.inl o))) :: (Wo ++ Wm)) H) (hD : va_D (fun q : Nat => s.heap.size ≤ q) ((q, .inl (cL, 1, .inr (.inl o))) :: (Wo ++ Wm))) (hS : va_S (fun q : Nat => s.heap.size ≤ q) s.heap H locs) (hl : lv_has ls 7 [(0, .ref b), (1, .ref h), (2, .ref g), (3, .ref q), (4, .int (nI (5 * k)))]) (kk : ∀ (o : Nat → Int64) (Wo Wm : va_W) (H : Heap) (locs : List Loc) (ls : Array Slot), t_LI cI h g Wo Wm → va_P D vwCl ((q, .inl (cL, 1, .inr (.inl o))) :: (Wo ++ Wm)) H → va_D (fun q : Nat => s.heap.size ≤ q) ((q, .inl (cL, 1, .inr (.inl o))) :: (Wo ++ Wm)) → va_S (fun q : Nat => s.heap.size ≤ q) s.heap H locs → lv_has ls 7 [(0, .ref b), (1, .ref h), (2, .ref g), (3, .ref q), (4, .int (nI (5 * k)))] → W p l e room_1 s m #[Value.ref b] below meth c H locs (47 + (k + 1)) (8436 + 6 * (k + 1)) (lw_Z below #[Value.ref b] s) (F0 m 1520 ls [])) : W p l e room_1 s m #[Value.ref b] below meth c H locs (47 + k) (8436 + 6 * k) (lw_Z below #[Value.ref b] s) (F0 m 304 ls []) := by
  obtain ⟨hx, hb, hr, hml, hown, hts, hXs, hbl, hlocks, hgv⟩ := id C0
  have hown : s.vm.findClass RL = some m.cls := hown
  have hts : ∀ w ∈ wsL_law, w.before #[Value.ref b] s = true := fun w h => hts w (wsL_law_in w h)
  have hA : ∀ q : Nat, s.heap.size ≤ q → (fun q : Nat => s.heap.size ≤ q) q := fun _ h => h
  have hbA : ¬ (fun q : Nat => s.heap.size ≤ q) b := Nat.not_le.mpr hbl
  obtain ⟨x, y, n, th, un, ju, ch, tm, ba, thr, hO, hM, hag⟩ := hLI
  have hn := t_mob_n hM
  obtain ⟨fs, hfs⟩ := t_obj_hd hO
  obtain ⟨fsm, hfsm⟩ := t_mob_hd hM
  refine lv_aload_n hx hb dL_law_304 rfl (lv_at hl 1 rfl) ?_
  refine lv_aload_n hx hb dL_law_305 rfl (lv_at hl 0 rfl) ?_
  refine lv_iload hx hb dL_law_306 (lv_at hl 4 rfl) ?_
  refine lv_iconst (v := ((nI 1) : Int32)) hx hb dL_law_308 (by decide +kernel) ?_
  refine tv_iadd (a := 5 * k) (b := 1) hx hb dL_law_309 ?_
  refine va_sld hx hb hXs hbl hbA hS (vp_in_nI (by omega) (by omega)) dL_law_310 ?_
  refine tv_re (y := xs ((5 * k) + 1)) (by rw [nI_clamp (by omega)]) ?_
  refine lv_aload_n hx hb dL_law_311 rfl (lv_at hl 0 rfl) ?_
  refine lv_iload hx hb dL_law_312 (lv_at hl 4 rfl) ?_
  refine lv_iconst (v := ((nI 2) : Int32)) hx hb dL_law_314 (by decide +kernel) ?_
  refine tv_iadd (a := 5 * k) (b := 2) hx hb dL_law_315 ?_
  refine va_sld hx hb hXs hbl hbA hS (vp_in_nI (by omega) (by omega)) dL_law_316 ?_
  refine tv_re (y := xs ((5 * k) + 2)) (by rw [nI_clamp (by omega)]) ?_
  refine lv_aload_n hx hb dL_law_317 rfl (lv_at hl 0 rfl) ?_
  refine lv_iload hx hb dL_law_318 (lv_at hl 4 rfl) ?_
  refine lv_iconst (v := ((nI 3) : Int32)) hx hb dL_law_320 (by decide +kernel) ?_
  refine tv_iadd (a := 5 * k) (b := 3) hx hb dL_law_321 ?_
  refine va_sld hx hb hXs hbl hbA hS (vp_in_nI (by omega) (by omega)) dL_law_322 ?_
  refine tv_re (y := xs ((5 * k) + 3)) (by rw [nI_clamp (by omega)]) ?_
  refine lv_aload_n hx hb dL_law_323 rfl (lv_at hl 3 rfl) ?_
  have hPc : va_P D vwCl ((q, .inl (cL, 1, .inr (.inl o))) :: Wo) H := t_fstP (b := (q, .inl (cL, 1, .inr (.inl o))) :: Wo) (c := Wm) hP
  have hDc : va_D (fun q : Nat => s.heap.size ≤ q) ((q, .inl (cL, 1, .inr (.inl o))) :: Wo) := t_fstD (b := (q, .inl (cL, 1, .inr (.inl o))) :: Wo) (c := Wm) hD
  have hFc := t_fstF (b := (q, .inl (cL, 1, .inr (.inl o))) :: Wo) (c := Wm) hD hS hA
  refine va_calli (vx_runSW (As := [.ref h, .int (xs ((5 * k) + 1)), .int (xs ((5 * k) + 2)), .int (xs ((5 * k) + 3)), .ref q]) (rest := []) ⟨hx, hb, hml, hown, hts⟩ (c_L_feedNoise l hl0 D cI cL Wo h x n th un ju ch tm ba (xs ((5 * k) + 1)) (xs ((5 * k) + 2)) (xs ((5 * k) + 3)) q o hO H.size) (vx_cwSW 5 hts gL_law_L_feedNoise rfl rfl rfl (by decide +kernel) ⟨Nat.le_of_ble_eq_true rfl, Nat.le_of_ble_eq_true rfl⟩) ⟨t_wPcX_blind, fun U hU hW => ⟨rfl, by rw [hU], by rw [hU]; exact hPc, va_K.moved hW.alike hK, hDc.weaken (fun _ _ _ _ => trivial), by rw [hU]; exact ((hX.kept hS.2.1).narrow hFc).moved hW⟩⟩ rfl rfl hl.1 rfl (lv_room (Nat.le_of_ble_eq_true rfl)) dL_law_324 ⟨(show 47 + k + 1 ≤ 1074 by omega), (show 8436 + 6 * k + 6 ≤ 11629 by omega)⟩) hS (fun q _ h => hFc q h) hFc (fun r1 u t H1 locs ht hvm hw hB hz1 hk1 hS => ?_)
  obtain ⟨hP1, hK1, hD1⟩ := hB
  rw [ht] at hP1
  obtain ⟨hP, hD⟩ := t_jfst (b := (q, .inl (cL, 1, .inr (.inl o))) :: Wo) (c := Wm) hP hD hk1 hFc hP1 hD1
  obtain ⟨o1, W1, hu, hwc⟩ := hw
  subst hu
  have hP : va_P D vwCl ((q, .inl (cL, 1, .inr (.inl o1))) :: (W1 ++ Wm)) H1 := hP
  have hD : va_D (fun q : Nat => s.heap.size ≤ q) ((q, .inl (cL, 1, .inr (.inl o1))) :: (W1 ++ Wm)) := hD
  clear hP1 hD1 hK1 hPc hDc hFc hvm hz1 hk1 ht
  generalize H1 = H at hP hS ⊢
  refine lv_istore (lv' := [(5, .int r1), (0, .ref b), (1, .ref h), (2, .ref g), (3, .ref q), (4, .int (nI (5 * k)))]) hx hb dL_law_327 hl (by decide) rfl (fun ls hl => ?_)
  refine lv_aload_n hx hb dL_law_329 rfl (lv_at hl 3 rfl) ?_
  refine lv_aload_n hx hb dL_law_330 rfl (lv_at hl 1 rfl) ?_
  refine lv_iload hx hb dL_law_331 (lv_at hl 5 rfl) ?_
  refine lv_iconst (v := ((nI 1) : Int32)) hx hb dL_law_333 (by decide +kernel) ?_
  refine tv_iadd (a := 5 * k) (b := 1) hx hb dL_law_334 ?_
  refine va_sld hx hb hXs hbl hbA hS (vp_in_nI (by omega) (by omega)) dL_law_335 ?_
  refine tv_re (y := xs ((5 * k) + 1)) (by rw [nI_clamp (by omega)]) ?_
  refine lv_aload_n hx hb dL_law_336 rfl (lv_at hl 1 rfl) ?_
  refine lv_iload hx hb dL_law_337 (lv_at hl 5 rfl) ?_
  refine lv_iconst (v := ((nI 2) : Int32)) hx hb dL_law_339 (by decide +kernel) ?_
  refine tv_iadd (a := 5 * k) (b := 2) hx hb dL_law_340 ?_
  refine va_sld hx hb hXs hbl hbA hS (vp_in_nI (by omega) (by omega)) dL_law_341 ?_
  refine tv_re (y := xs ((5 * k) + 2)) (by rw [nI_clamp (by omega)]) ?_
  refine lv_aload_n hx hb dL_law_342 rfl (lv_at hl 1 rfl) ?_
  refine lv_iload hx hb dL_law_343 (lv_at hl 5 rfl) ?_
  refine lv_iconst (v := ((nI 3) : Int32)) hx hb dL_law_345 (by decide +kernel) ?_
  refine tv_iadd (a := 5 * k) (b := 3) hx hb dL_law_346 ?_
  refine va_sld hx hb hXs hbl hbA hS (vp_in_nI (by omega) (by omega)) dL_law_347 ?_
  refine tv_re (y := xs ((5 * k) + 3)) (by rw [nI_clamp (by omega)]) ?_
  have hPc : va_P D vwCl Wm H := t_endP (a := (q, .inl (cL, 1, .inr (.inl o1))) :: W1) hP
  have hDc : va_D (fun q : Nat => s.heap.size ≤ q) Wm := t_endD (a := (q, .inl (cL, 1, .inr (.inl o1))) :: W1) hD
  have hFc := t_endF (a := (q, .inl (cL, 1, .inr (.inl o1))) :: W1) hD hS hA
  refine va_calli (va_runV (As := [.int (xs ((5 * k) + 1)), .int (xs ((5 * k) + 2)), .int (xs ((5 * k) + 3))]) (rest := []) ⟨hx, hb, hml, hown, hts⟩ (c_X9_feedNoise2 l D cI cL Wm g y n th un ju ch tm ba thr (xs ((5 * k) + 1)) (xs ((5 * k) + 2)) (xs ((5 * k) + 3)) hM H.size) (cwV 3 hts gL_law_X9_feedNoise rfl rfl rfl (by decide +kernel) ⟨Nat.le_of_ble_eq_true rfl, Nat.le_of_ble_eq_true rfl⟩) ⟨t_wPc_blind, va_recv hK hPc (ci := 9) (q0 := 0) rfl hfsm, fun U hU hW => ⟨rfl, by rw [hU], by rw [hU]; exact hPc, va_K.moved hW.alike hK, hDc.weaken (fun _ _ _ _ => trivial)⟩⟩ rfl rfl hl.1 rfl (lv_room (Nat.le_of_ble_eq_true rfl)) dL_law_348 ⟨(show 47 + k + 1 + 0 ≤ 1074 by omega), (show 8436 + 6 * k + 6 + 0 ≤ 11629 by omega)⟩) hS (fun q _ h => hFc q h) hFc (fun b1 u t H1 locs ht hvm hw hB hz1 hk1 hS => ?_)
  obtain ⟨hP1, hK1, hD1⟩ := hB
  rw [ht] at hP1
  obtain ⟨hP, hD⟩ := t_jend (a := (q, .inl (cL, 1, .inr (.inl o1))) :: W1) hP hD hk1 hFc hP1 hD1
  have hwm := hw
  obtain ⟨M1, huM1⟩ : ∃ W1, W1 = u := ⟨_, rfl⟩
  rw [← huM1] at hP hD hwm
  have hP : va_P D vwCl ((q, .inl (cL, 1, .inr (.inl o1))) :: (W1 ++ M1)) H1 := hP
  have hD : va_D (fun q : Nat => s.heap.size ≤ q) ((q, .inl (cL, 1, .inr (.inl o1))) :: (W1 ++ M1)) := hD
  clear hP1 hD1 hK1 hPc hDc hFc hvm hz1 hk1 ht
  generalize H1 = H at hP hS ⊢
  obtain ⟨h0, x2, y2, n2, th2, un2, ju2, ch2, tm2, ba2, hO2, hM2, hag2⟩ := t_pr_feedNoise (r := r1)  hag hn hwc hwm
  refine lv_istore (lv' := [(6, .int b1), (5, .int r1), (0, .ref b), (1, .ref h), (2, .ref g), (3, .ref q), (4, .int (nI (5 * k)))]) hx hb dL_law_351 hl (by decide) rfl (fun ls hl => ?_)
  refine lv_aload_n hx hb dL_law_353 rfl (lv_at hl 4 rfl) ?_
  have hPc : va_P D vwCl M1 H := t_endP (a := (q, .inl (cL, 1, .inr (.inl o1))) :: W1) hP
  have hDc : va_D (fun q : Nat => s.heap.size ≤ q) M1 := t_endD (a := (q, .inl (cL, 1, .inr (.inl o1))) :: W1) hD
  have hFc := t_endF (a := (q, .inl (cL, 1, .inr (.inl o1))) :: W1) hD hS hA
  obtain ⟨fsm, hfsm⟩ := t_mob_hd hM2
  refine va_calli (va_runV (As := []) (rest := []) ⟨hx, hb, hml, hown, hts⟩ (c_X9_thrown l D cI cL M1 g y2 n2 th2 un2 ju2 ch2 tm2 ba2 r1 hM2 H.size) (cwV 0 hts gL_law_X9_thrown rfl rfl rfl (by decide +kernel) ⟨Nat.le_of_ble_eq_true rfl, Nat.le_of_ble_eq_true rfl⟩) ⟨t_wPc_blind, va_recv hK hPc (ci := 9) (q0 := 0) rfl hfsm, fun U hU hW => ⟨rfl, by rw [hU], by rw [hU]; exact hPc, va_K.moved hW.alike hK, hDc.weaken (fun _ _ _ _ => trivial)⟩⟩ rfl rfl hl.1 rfl (lv_room (Nat.le_of_ble_eq_true rfl)) dL_law_354 ⟨(show 47 + k + 1 + 0 ≤ 1074 by omega), (show 8436 + 6 * k + 6 + 0 ≤ 11629 by omega)⟩) hS (fun q _ h => hFc q h) hFc (fun r3 u t H1 locs ht hvm hw hB hz1 hk1 hS => ?_)
  obtain ⟨hP1, hK1, hD1⟩ := hB
  rw [ht] at hP1
  obtain ⟨hP, hD⟩ := t_jend (a := (q, .inl (cL, 1, .inr (.inl o1))) :: W1) hP hD hk1 hFc hP1 hD1
  obtain ⟨M2, huM2⟩ : ∃ W1, W1 = u := ⟨_, rfl⟩
  rw [← huM2] at hP hD hw
  have hP : va_P D vwCl ((q, .inl (cL, 1, .inr (.inl o1))) :: (W1 ++ M2)) H1 := hP
  have hD : va_D (fun q : Nat => s.heap.size ≤ q) ((q, .inl (cL, 1, .inr (.inl o1))) :: (W1 ++ M2)) := hD
  clear hP1 hD1 hK1 hPc hDc hFc hvm hz1 hk1 ht
  generalize H1 = H at hP hS ⊢
  obtain ⟨h3, hM3⟩ := hw
  refine tv_re (y := r1) h3 ?_
  have hLI2 : t_LI cI h g W1 M2 := t_LJ_LI hO2 hM3 hag2
  refine lv_iload hx hb dL_law_357 (lv_at hl 1 rfl) ?_
  refine lv_icmp_eq (tgt := 364) hx hb dL_law_359 (by decide) (fun q359_1 => ?_) (fun q359_1 => absurd rfl q359_1)
  refine lv_iload hx hb dL_law_364 (lv_at hl 1 rfl) ?_
  refine lv_if_ne (tgt := 381) hx hb dL_law_366 (by decide) (fun q366_2 => ?_) (fun q366_2 => ?_)
  · refine lv_goto (tgt := 1520) hx hb dL_law_381 (by decide) ?_
    exact kk _ _ _ _ _ _ hLI2 hP hD hS (lv_sub hl [2, 3, 4, 5, 6] rfl)
  · refine lv_aload_n hx hb dL_law_369 rfl (lv_at hl 5 rfl) ?_
    refine lv_iconst (v := ((nI 0) : Int32)) hx hb dL_law_370 (by decide +kernel) ?_
    refine va_lald hx hb hK hP 0 1 rfl rfl (vp_in_nI (by decide) (by decide)) dL_law_371 ?_
    refine tv_reL (y := o1 0) (by rw [nI_clamp (by decide)]) ?_
    refine lv_iload hx hb dL_law_372 (lv_at hl 0 rfl) ?_
    refine lv_i2l hx hb dL_law_374 rfl ?_
    refine W.lcmp hx hb dL_law_375 ?_
    refine tv_cmp_eq (tgt := 381) hx hb dL_law_376 (by decide) (fun q376_3 => ?_) (fun q376_3 => absurd (h0 (q366_2.trans nI_0.symm)) q376_3)
    refine lv_goto (tgt := 1520) hx hb dL_law_381 (by decide) ?_
    exact kk _ _ _ _ _ _ hLI2 hP hD hS (lv_sub hl [2, 3, 4, 5, 6] rfl)

set_option maxHeartbeats 4000000 in
set_option maxRecDepth 100000 in
theorem law_c3 {p : Program} {l : Launch} {e : Env} {s : State} {m : MethodId} {below : List Frame} {meth : Method} {c : Code} {D : va_G} {cI cL : ClassId} {b L : Nat} {xs : Nat → Int32} {h g q k : Nat} {o : Nat → Int64} {Wo Wm : va_W} {H : Heap} {locs : List Loc} {ls : Array Slot} (hl0 : l.stackTraces = false) (C0 : lw_At p s m meth c b L xs) (hL : L ≤ 2560) (hk : 5 * k + 5 ≤ L) (hK : va_K D vwCl [(cI, .int), (cL, .long)] s) (hX : t_X (fun q : Nat => s.heap.size ≤ q) s s.heap) (hLI : t_LI cI h g Wo Wm) (hP : va_P D vwCl ((q, .inl (cL, 1, .inr (.inl o))) :: (Wo ++ Wm)) H) (hD : va_D (fun q : Nat => s.heap.size ≤ q) ((q, .inl (cL, 1, .inr (.inl o))) :: (Wo ++ Wm))) (hS : va_S (fun q : Nat => s.heap.size ≤ q) s.heap H locs) (hl : lv_has ls 7 [(0, .ref b), (1, .ref h), (2, .ref g), (3, .ref q), (4, .int (nI (5 * k)))]) (kk : ∀ (o : Nat → Int64) (Wo Wm : va_W) (H : Heap) (locs : List Loc) (ls : Array Slot), t_LI cI h g Wo Wm → va_P D vwCl ((q, .inl (cL, 1, .inr (.inl o))) :: (Wo ++ Wm)) H → va_D (fun q : Nat => s.heap.size ≤ q) ((q, .inl (cL, 1, .inr (.inl o))) :: (Wo ++ Wm)) → va_S (fun q : Nat => s.heap.size ≤ q) s.heap H locs → lv_has ls 7 [(0, .ref b), (1, .ref h), (2, .ref g), (3, .ref q), (4, .int (nI (5 * k)))] → W p l e room_1 s m #[Value.ref b] below meth c H locs (47 + (k + 1)) (8436 + 6 * (k + 1)) (lw_Z below #[Value.ref b] s) (F0 m 1520 ls [])) : W p l e room_1 s m #[Value.ref b] below meth c H locs (47 + k) (8436 + 6 * k) (lw_Z below #[Value.ref b] s) (F0 m 384 ls []) := by
  obtain ⟨hx, hb, hr, hml, hown, hts, hXs, hbl, hlocks, hgv⟩ := id C0
  have hown : s.vm.findClass RL = some m.cls := hown
  have hts : ∀ w ∈ wsL_law, w.before #[Value.ref b] s = true := fun w h => hts w (wsL_law_in w h)
  have hA : ∀ q : Nat, s.heap.size ≤ q → (fun q : Nat => s.heap.size ≤ q) q := fun _ h => h
  have hbA : ¬ (fun q : Nat => s.heap.size ≤ q) b := Nat.not_le.mpr hbl
  obtain ⟨x, y, n, th, un, ju, ch, tm, ba, thr, hO, hM, hag⟩ := hLI
  have hn := t_mob_n hM
  obtain ⟨fs, hfs⟩ := t_obj_hd hO
  obtain ⟨fsm, hfsm⟩ := t_mob_hd hM
  refine lv_aload_n hx hb dL_law_384 rfl (lv_at hl 1 rfl) ?_
  have hPc : va_P D vwCl Wo H := t_midP (a := [(q, .inl (cL, 1, .inr (.inl o)))]) (b := Wo) (c := Wm) hP
  have hDc : va_D (fun q : Nat => s.heap.size ≤ q) Wo := t_midD (a := [(q, .inl (cL, 1, .inr (.inl o)))]) (b := Wo) (c := Wm) hD
  have hFc := t_midF (a := [(q, .inl (cL, 1, .inr (.inl o)))]) (b := Wo) (c := Wm) hD hS hA
  refine va_calli (va_runV (As := []) (rest := []) ⟨hx, hb, hml, hown, hts⟩ (c_X8_clear l D cI cL Wo h x n th un ju ch tm ba hO H.size) (cwV 0 hts gL_law_X8_clear rfl rfl rfl (by decide +kernel) ⟨Nat.le_of_ble_eq_true rfl, Nat.le_of_ble_eq_true rfl⟩) ⟨t_wPcX_blind, va_recv hK hPc (ci := 8) (q0 := 0) rfl hfs, fun U hU hW => ⟨rfl, by rw [hU], by rw [hU]; exact hPc, va_K.moved hW.alike hK, hDc.weaken (fun _ _ _ _ => trivial), by rw [hU]; exact ((hX.kept hS.2.1).narrow hFc).moved hW⟩⟩ rfl rfl hl.1 rfl (lv_room (Nat.le_of_ble_eq_true rfl)) dL_law_385 ⟨(show 47 + k + 0 ≤ 1074 by omega), (show 8436 + 6 * k + 0 ≤ 11629 by omega)⟩) hS (fun q _ h => hFc q h) hFc (fun r1 u t H1 locs ht hvm hw hB hz1 hk1 hS => ?_)
  obtain ⟨hP1, hK1, hD1⟩ := hB
  rw [ht] at hP1
  obtain ⟨hP, hD⟩ := t_jmid (a := [(q, .inl (cL, 1, .inr (.inl o)))]) (b := Wo) (c := Wm) hP hD hk1 hFc hP1 hD1
  have hwc := hw
  obtain ⟨W1, hu⟩ : ∃ W1, W1 = u := ⟨_, rfl⟩
  rw [← hu] at hP hD hwc
  have hP : va_P D vwCl ((q, .inl (cL, 1, .inr (.inl o))) :: (W1 ++ Wm)) H1 := hP
  have hD : va_D (fun q : Nat => s.heap.size ≤ q) ((q, .inl (cL, 1, .inr (.inl o))) :: (W1 ++ Wm)) := hD
  clear hP1 hD1 hK1 hPc hDc hFc hvm hz1 hk1 ht
  generalize H1 = H at hP hS ⊢
  refine lv_aload_n hx hb dL_law_388 rfl (lv_at hl 2 rfl) ?_
  have hPc : va_P D vwCl Wm H := t_endP (a := (q, .inl (cL, 1, .inr (.inl o))) :: W1) hP
  have hDc : va_D (fun q : Nat => s.heap.size ≤ q) Wm := t_endD (a := (q, .inl (cL, 1, .inr (.inl o))) :: W1) hD
  have hFc := t_endF (a := (q, .inl (cL, 1, .inr (.inl o))) :: W1) hD hS hA
  refine va_calli (va_runV (As := []) (rest := [.int r1]) ⟨hx, hb, hml, hown, hts⟩ (c_X9_clear l D cI cL Wm g y n th un ju ch tm ba thr  hM H.size) (cwV 0 hts gL_law_X9_clear rfl rfl rfl (by decide +kernel) ⟨Nat.le_of_ble_eq_true rfl, Nat.le_of_ble_eq_true rfl⟩) ⟨t_wPc_blind, va_recv hK hPc (ci := 9) (q0 := 0) rfl hfsm, fun U hU hW => ⟨rfl, by rw [hU], by rw [hU]; exact hPc, va_K.moved hW.alike hK, hDc.weaken (fun _ _ _ _ => trivial)⟩⟩ rfl rfl hl.1 rfl (lv_room (Nat.le_of_ble_eq_true rfl)) dL_law_389 ⟨(show 47 + k + 0 ≤ 1074 by omega), (show 8436 + 6 * k + 0 ≤ 11629 by omega)⟩) hS (fun q _ h => hFc q h) hFc (fun b1 u t H1 locs ht hvm hw hB hz1 hk1 hS => ?_)
  obtain ⟨hP1, hK1, hD1⟩ := hB
  rw [ht] at hP1
  obtain ⟨hP, hD⟩ := t_jend (a := (q, .inl (cL, 1, .inr (.inl o))) :: W1) hP hD hk1 hFc hP1 hD1
  have hwm := hw
  obtain ⟨M1, huM1⟩ : ∃ W1, W1 = u := ⟨_, rfl⟩
  rw [← huM1] at hP hD hwm
  have hP : va_P D vwCl ((q, .inl (cL, 1, .inr (.inl o))) :: (W1 ++ M1)) H1 := hP
  have hD : va_D (fun q : Nat => s.heap.size ≤ q) ((q, .inl (cL, 1, .inr (.inl o))) :: (W1 ++ M1)) := hD
  clear hP1 hD1 hK1 hPc hDc hFc hvm hz1 hk1 ht
  generalize H1 = H at hP hS ⊢
  obtain ⟨heq, hLI2⟩ := t_pr_clear hag hn hwc hwm
  refine lv_icmp_eq (tgt := 1520) hx hb dL_law_392 (by decide) (fun q392_1 => ?_) (fun q392_1 => absurd heq q392_1)
  refine W.widen (k := 47 + k + 1) (n := 8436 + 6 * k + 6) (by omega) (by omega) ?_
  exact kk _ _ _ _ _ _ hLI2 hP hD hS (lv_sub hl [0, 1, 2, 3, 4] rfl)

set_option maxHeartbeats 4000000 in
set_option maxRecDepth 100000 in
theorem law_c4 {p : Program} {l : Launch} {e : Env} {s : State} {m : MethodId} {below : List Frame} {meth : Method} {c : Code} {D : va_G} {cI cL : ClassId} {b L : Nat} {xs : Nat → Int32} {h g q k : Nat} {o : Nat → Int64} {Wo Wm : va_W} {H : Heap} {locs : List Loc} {ls : Array Slot} (hl0 : l.stackTraces = false) (C0 : lw_At p s m meth c b L xs) (hL : L ≤ 2560) (hk : 5 * k + 5 ≤ L) (hK : va_K D vwCl [(cI, .int), (cL, .long)] s) (hX : t_X (fun q : Nat => s.heap.size ≤ q) s s.heap) (hLI : t_LI cI h g Wo Wm) (hP : va_P D vwCl ((q, .inl (cL, 1, .inr (.inl o))) :: (Wo ++ Wm)) H) (hD : va_D (fun q : Nat => s.heap.size ≤ q) ((q, .inl (cL, 1, .inr (.inl o))) :: (Wo ++ Wm))) (hS : va_S (fun q : Nat => s.heap.size ≤ q) s.heap H locs) (hl : lv_has ls 7 [(0, .ref b), (1, .ref h), (2, .ref g), (3, .ref q), (4, .int (nI (5 * k)))]) (kk : ∀ (o : Nat → Int64) (Wo Wm : va_W) (H : Heap) (locs : List Loc) (ls : Array Slot), t_LI cI h g Wo Wm → va_P D vwCl ((q, .inl (cL, 1, .inr (.inl o))) :: (Wo ++ Wm)) H → va_D (fun q : Nat => s.heap.size ≤ q) ((q, .inl (cL, 1, .inr (.inl o))) :: (Wo ++ Wm)) → va_S (fun q : Nat => s.heap.size ≤ q) s.heap H locs → lv_has ls 7 [(0, .ref b), (1, .ref h), (2, .ref g), (3, .ref q), (4, .int (nI (5 * k)))] → W p l e room_1 s m #[Value.ref b] below meth c H locs (47 + (k + 1)) (8436 + 6 * (k + 1)) (lw_Z below #[Value.ref b] s) (F0 m 1520 ls [])) : W p l e room_1 s m #[Value.ref b] below meth c H locs (47 + k) (8436 + 6 * k) (lw_Z below #[Value.ref b] s) (F0 m 397 ls []) := by
  obtain ⟨hx, hb, hr, hml, hown, hts, hXs, hbl, hlocks, hgv⟩ := id C0
  have hown : s.vm.findClass RL = some m.cls := hown
  have hts : ∀ w ∈ wsL_law, w.before #[Value.ref b] s = true := fun w h => hts w (wsL_law_in w h)
  have hA : ∀ q : Nat, s.heap.size ≤ q → (fun q : Nat => s.heap.size ≤ q) q := fun _ h => h
  have hbA : ¬ (fun q : Nat => s.heap.size ≤ q) b := Nat.not_le.mpr hbl
  obtain ⟨x, y, n, th, un, ju, ch, tm, ba, thr, hO, hM, hag⟩ := hLI
  have hn := t_mob_n hM
  obtain ⟨fs, hfs⟩ := t_obj_hd hO
  obtain ⟨fsm, hfsm⟩ := t_mob_hd hM
  refine lv_aload_n hx hb dL_law_397 rfl (lv_at hl 1 rfl) ?_
  refine lv_aload_n hx hb dL_law_398 rfl (lv_at hl 0 rfl) ?_
  refine lv_iload hx hb dL_law_399 (lv_at hl 4 rfl) ?_
  refine lv_iconst (v := ((nI 1) : Int32)) hx hb dL_law_401 (by decide +kernel) ?_
  refine tv_iadd (a := 5 * k) (b := 1) hx hb dL_law_402 ?_
  refine va_sld hx hb hXs hbl hbA hS (vp_in_nI (by omega) (by omega)) dL_law_403 ?_
  refine tv_re (y := xs ((5 * k) + 1)) (by rw [nI_clamp (by omega)]) ?_
  refine lv_aload_n hx hb dL_law_404 rfl (lv_at hl 3 rfl) ?_
  have hPc : va_P D vwCl ((q, .inl (cL, 1, .inr (.inl o))) :: Wo) H := t_fstP (b := (q, .inl (cL, 1, .inr (.inl o))) :: Wo) (c := Wm) hP
  have hDc : va_D (fun q : Nat => s.heap.size ≤ q) ((q, .inl (cL, 1, .inr (.inl o))) :: Wo) := t_fstD (b := (q, .inl (cL, 1, .inr (.inl o))) :: Wo) (c := Wm) hD
  have hFc := t_fstF (b := (q, .inl (cL, 1, .inr (.inl o))) :: Wo) (c := Wm) hD hS hA
  refine va_calli (vx_runSW (As := [.ref h, .int (xs ((5 * k) + 1)), .ref q]) (rest := []) ⟨hx, hb, hml, hown, hts⟩ (c_L_setThreshold l hl0 D cI cL Wo h x n th un ju ch tm ba (xs ((5 * k) + 1)) q o hO H.size) (vx_cwSW 3 hts gL_law_L_setThreshold rfl rfl rfl (by decide +kernel) ⟨Nat.le_of_ble_eq_true rfl, Nat.le_of_ble_eq_true rfl⟩) ⟨t_wPcX_blind, fun U hU hW => ⟨rfl, by rw [hU], by rw [hU]; exact hPc, va_K.moved hW.alike hK, hDc.weaken (fun _ _ _ _ => trivial), by rw [hU]; exact ((hX.kept hS.2.1).narrow hFc).moved hW⟩⟩ rfl rfl hl.1 rfl (lv_room (Nat.le_of_ble_eq_true rfl)) dL_law_405 ⟨(show 47 + k + 1 ≤ 1074 by omega), (show 8436 + 6 * k + 6 ≤ 11629 by omega)⟩) hS (fun q _ h => hFc q h) hFc (fun r1 u t H1 locs ht hvm hw hB hz1 hk1 hS => ?_)
  obtain ⟨hP1, hK1, hD1⟩ := hB
  rw [ht] at hP1
  obtain ⟨hP, hD⟩ := t_jfst (b := (q, .inl (cL, 1, .inr (.inl o))) :: Wo) (c := Wm) hP hD hk1 hFc hP1 hD1
  obtain ⟨o1, W1, hu, hwc⟩ := hw
  subst hu
  have hP : va_P D vwCl ((q, .inl (cL, 1, .inr (.inl o1))) :: (W1 ++ Wm)) H1 := hP
  have hD : va_D (fun q : Nat => s.heap.size ≤ q) ((q, .inl (cL, 1, .inr (.inl o1))) :: (W1 ++ Wm)) := hD
  clear hP1 hD1 hK1 hPc hDc hFc hvm hz1 hk1 ht
  generalize H1 = H at hP hS ⊢
  refine lv_istore (lv' := [(5, .int r1), (0, .ref b), (1, .ref h), (2, .ref g), (3, .ref q), (4, .int (nI (5 * k)))]) hx hb dL_law_408 hl (by decide) rfl (fun ls hl => ?_)
  refine lv_aload_n hx hb dL_law_410 rfl (lv_at hl 3 rfl) ?_
  refine lv_aload_n hx hb dL_law_411 rfl (lv_at hl 1 rfl) ?_
  refine lv_iload hx hb dL_law_412 (lv_at hl 5 rfl) ?_
  refine lv_iconst (v := ((nI 1) : Int32)) hx hb dL_law_414 (by decide +kernel) ?_
  refine tv_iadd (a := 5 * k) (b := 1) hx hb dL_law_415 ?_
  refine va_sld hx hb hXs hbl hbA hS (vp_in_nI (by omega) (by omega)) dL_law_416 ?_
  refine tv_re (y := xs ((5 * k) + 1)) (by rw [nI_clamp (by omega)]) ?_
  have hPc : va_P D vwCl Wm H := t_endP (a := (q, .inl (cL, 1, .inr (.inl o1))) :: W1) hP
  have hDc : va_D (fun q : Nat => s.heap.size ≤ q) Wm := t_endD (a := (q, .inl (cL, 1, .inr (.inl o1))) :: W1) hD
  have hFc := t_endF (a := (q, .inl (cL, 1, .inr (.inl o1))) :: W1) hD hS hA
  refine va_calli (va_runV (As := [.int (xs ((5 * k) + 1))]) (rest := []) ⟨hx, hb, hml, hown, hts⟩ (c_X9_setThreshold l D cI cL Wm g y n th un ju ch tm ba thr (xs ((5 * k) + 1)) hM H.size) (cwV 1 hts gL_law_X9_setThreshold rfl rfl rfl (by decide +kernel) ⟨Nat.le_of_ble_eq_true rfl, Nat.le_of_ble_eq_true rfl⟩) ⟨t_wPc_blind, va_recv hK hPc (ci := 9) (q0 := 0) rfl hfsm, fun U hU hW => ⟨rfl, by rw [hU], by rw [hU]; exact hPc, va_K.moved hW.alike hK, hDc.weaken (fun _ _ _ _ => trivial)⟩⟩ rfl rfl hl.1 rfl (lv_room (Nat.le_of_ble_eq_true rfl)) dL_law_417 ⟨(show 47 + k + 1 + 0 ≤ 1074 by omega), (show 8436 + 6 * k + 6 + 0 ≤ 11629 by omega)⟩) hS (fun q _ h => hFc q h) hFc (fun b1 u t H1 locs ht hvm hw hB hz1 hk1 hS => ?_)
  obtain ⟨hP1, hK1, hD1⟩ := hB
  rw [ht] at hP1
  obtain ⟨hP, hD⟩ := t_jend (a := (q, .inl (cL, 1, .inr (.inl o1))) :: W1) hP hD hk1 hFc hP1 hD1
  have hwm := hw
  obtain ⟨M1, huM1⟩ : ∃ W1, W1 = u := ⟨_, rfl⟩
  rw [← huM1] at hP hD hwm
  have hP : va_P D vwCl ((q, .inl (cL, 1, .inr (.inl o1))) :: (W1 ++ M1)) H1 := hP
  have hD : va_D (fun q : Nat => s.heap.size ≤ q) ((q, .inl (cL, 1, .inr (.inl o1))) :: (W1 ++ M1)) := hD
  clear hP1 hD1 hK1 hPc hDc hFc hvm hz1 hk1 ht
  generalize H1 = H at hP hS ⊢
  obtain ⟨h0, x2, y2, n2, th2, un2, ju2, ch2, tm2, ba2, hO2, hM2, hag2⟩ := t_pr_setThreshold (r := r1)  hag hn hwc hwm
  refine lv_istore (lv' := [(6, .int b1), (5, .int r1), (0, .ref b), (1, .ref h), (2, .ref g), (3, .ref q), (4, .int (nI (5 * k)))]) hx hb dL_law_420 hl (by decide) rfl (fun ls hl => ?_)
  refine lv_aload_n hx hb dL_law_422 rfl (lv_at hl 4 rfl) ?_
  have hPc : va_P D vwCl M1 H := t_endP (a := (q, .inl (cL, 1, .inr (.inl o1))) :: W1) hP
  have hDc : va_D (fun q : Nat => s.heap.size ≤ q) M1 := t_endD (a := (q, .inl (cL, 1, .inr (.inl o1))) :: W1) hD
  have hFc := t_endF (a := (q, .inl (cL, 1, .inr (.inl o1))) :: W1) hD hS hA
  obtain ⟨fsm, hfsm⟩ := t_mob_hd hM2
  refine va_calli (va_runV (As := []) (rest := []) ⟨hx, hb, hml, hown, hts⟩ (c_X9_thrown l D cI cL M1 g y2 n2 th2 un2 ju2 ch2 tm2 ba2 r1 hM2 H.size) (cwV 0 hts gL_law_X9_thrown rfl rfl rfl (by decide +kernel) ⟨Nat.le_of_ble_eq_true rfl, Nat.le_of_ble_eq_true rfl⟩) ⟨t_wPc_blind, va_recv hK hPc (ci := 9) (q0 := 0) rfl hfsm, fun U hU hW => ⟨rfl, by rw [hU], by rw [hU]; exact hPc, va_K.moved hW.alike hK, hDc.weaken (fun _ _ _ _ => trivial)⟩⟩ rfl rfl hl.1 rfl (lv_room (Nat.le_of_ble_eq_true rfl)) dL_law_423 ⟨(show 47 + k + 1 + 0 ≤ 1074 by omega), (show 8436 + 6 * k + 6 + 0 ≤ 11629 by omega)⟩) hS (fun q _ h => hFc q h) hFc (fun r3 u t H1 locs ht hvm hw hB hz1 hk1 hS => ?_)
  obtain ⟨hP1, hK1, hD1⟩ := hB
  rw [ht] at hP1
  obtain ⟨hP, hD⟩ := t_jend (a := (q, .inl (cL, 1, .inr (.inl o1))) :: W1) hP hD hk1 hFc hP1 hD1
  obtain ⟨M2, huM2⟩ : ∃ W1, W1 = u := ⟨_, rfl⟩
  rw [← huM2] at hP hD hw
  have hP : va_P D vwCl ((q, .inl (cL, 1, .inr (.inl o1))) :: (W1 ++ M2)) H1 := hP
  have hD : va_D (fun q : Nat => s.heap.size ≤ q) ((q, .inl (cL, 1, .inr (.inl o1))) :: (W1 ++ M2)) := hD
  clear hP1 hD1 hK1 hPc hDc hFc hvm hz1 hk1 ht
  generalize H1 = H at hP hS ⊢
  obtain ⟨h3, hM3⟩ := hw
  refine tv_re (y := r1) h3 ?_
  have hLI2 : t_LI cI h g W1 M2 := t_LJ_LI hO2 hM3 hag2
  refine lv_iload hx hb dL_law_426 (lv_at hl 1 rfl) ?_
  refine lv_icmp_eq (tgt := 433) hx hb dL_law_428 (by decide) (fun q428_1 => ?_) (fun q428_1 => absurd rfl q428_1)
  refine lv_iload hx hb dL_law_433 (lv_at hl 1 rfl) ?_
  refine lv_if_ne (tgt := 450) hx hb dL_law_435 (by decide) (fun q435_2 => ?_) (fun q435_2 => ?_)
  · refine lv_goto (tgt := 1520) hx hb dL_law_450 (by decide) ?_
    exact kk _ _ _ _ _ _ hLI2 hP hD hS (lv_sub hl [2, 3, 4, 5, 6] rfl)
  · refine lv_aload_n hx hb dL_law_438 rfl (lv_at hl 5 rfl) ?_
    refine lv_iconst (v := ((nI 0) : Int32)) hx hb dL_law_439 (by decide +kernel) ?_
    refine va_lald hx hb hK hP 0 1 rfl rfl (vp_in_nI (by decide) (by decide)) dL_law_440 ?_
    refine tv_reL (y := o1 0) (by rw [nI_clamp (by decide)]) ?_
    refine lv_iload hx hb dL_law_441 (lv_at hl 0 rfl) ?_
    refine lv_i2l hx hb dL_law_443 rfl ?_
    refine W.lcmp hx hb dL_law_444 ?_
    refine tv_cmp_eq (tgt := 450) hx hb dL_law_445 (by decide) (fun q445_3 => ?_) (fun q445_3 => absurd (h0 (q435_2.trans nI_0.symm)) q445_3)
    refine lv_goto (tgt := 1520) hx hb dL_law_450 (by decide) ?_
    exact kk _ _ _ _ _ _ hLI2 hP hD hS (lv_sub hl [2, 3, 4, 5, 6] rfl)

set_option maxHeartbeats 4000000 in
set_option maxRecDepth 100000 in
theorem law_c5 {p : Program} {l : Launch} {e : Env} {s : State} {m : MethodId} {below : List Frame} {meth : Method} {c : Code} {D : va_G} {cI cL : ClassId} {b L : Nat} {xs : Nat → Int32} {h g q k : Nat} {o : Nat → Int64} {Wo Wm : va_W} {H : Heap} {locs : List Loc} {ls : Array Slot} (hl0 : l.stackTraces = false) (C0 : lw_At p s m meth c b L xs) (hL : L ≤ 2560) (hk : 5 * k + 5 ≤ L) (hK : va_K D vwCl [(cI, .int), (cL, .long)] s) (hX : t_X (fun q : Nat => s.heap.size ≤ q) s s.heap) (hLI : t_LI cI h g Wo Wm) (hP : va_P D vwCl ((q, .inl (cL, 1, .inr (.inl o))) :: (Wo ++ Wm)) H) (hD : va_D (fun q : Nat => s.heap.size ≤ q) ((q, .inl (cL, 1, .inr (.inl o))) :: (Wo ++ Wm))) (hS : va_S (fun q : Nat => s.heap.size ≤ q) s.heap H locs) (hl : lv_has ls 7 [(0, .ref b), (1, .ref h), (2, .ref g), (3, .ref q), (4, .int (nI (5 * k)))]) (kk : ∀ (o : Nat → Int64) (Wo Wm : va_W) (H : Heap) (locs : List Loc) (ls : Array Slot), t_LI cI h g Wo Wm → va_P D vwCl ((q, .inl (cL, 1, .inr (.inl o))) :: (Wo ++ Wm)) H → va_D (fun q : Nat => s.heap.size ≤ q) ((q, .inl (cL, 1, .inr (.inl o))) :: (Wo ++ Wm)) → va_S (fun q : Nat => s.heap.size ≤ q) s.heap H locs → lv_has ls 7 [(0, .ref b), (1, .ref h), (2, .ref g), (3, .ref q), (4, .int (nI (5 * k)))] → W p l e room_1 s m #[Value.ref b] below meth c H locs (47 + (k + 1)) (8436 + 6 * (k + 1)) (lw_Z below #[Value.ref b] s) (F0 m 1520 ls [])) : W p l e room_1 s m #[Value.ref b] below meth c H locs (47 + k) (8436 + 6 * k) (lw_Z below #[Value.ref b] s) (F0 m 453 ls []) := by
  obtain ⟨hx, hb, hr, hml, hown, hts, hXs, hbl, hlocks, hgv⟩ := id C0
  have hown : s.vm.findClass RL = some m.cls := hown
  have hts : ∀ w ∈ wsL_law, w.before #[Value.ref b] s = true := fun w h => hts w (wsL_law_in w h)
  have hA : ∀ q : Nat, s.heap.size ≤ q → (fun q : Nat => s.heap.size ≤ q) q := fun _ h => h
  have hbA : ¬ (fun q : Nat => s.heap.size ≤ q) b := Nat.not_le.mpr hbl
  obtain ⟨x, y, n, th, un, ju, ch, tm, ba, thr, hO, hM, hag⟩ := hLI
  have hn := t_mob_n hM
  obtain ⟨fs, hfs⟩ := t_obj_hd hO
  obtain ⟨fsm, hfsm⟩ := t_mob_hd hM
  refine lv_aload_n hx hb dL_law_453 rfl (lv_at hl 1 rfl) ?_
  refine lv_aload_n hx hb dL_law_454 rfl (lv_at hl 0 rfl) ?_
  refine lv_iload hx hb dL_law_455 (lv_at hl 4 rfl) ?_
  refine lv_iconst (v := ((nI 1) : Int32)) hx hb dL_law_457 (by decide +kernel) ?_
  refine tv_iadd (a := 5 * k) (b := 1) hx hb dL_law_458 ?_
  refine va_sld hx hb hXs hbl hbA hS (vp_in_nI (by omega) (by omega)) dL_law_459 ?_
  refine tv_re (y := xs ((5 * k) + 1)) (by rw [nI_clamp (by omega)]) ?_
  refine lv_aload_n hx hb dL_law_460 rfl (lv_at hl 0 rfl) ?_
  refine lv_iload hx hb dL_law_461 (lv_at hl 4 rfl) ?_
  refine lv_iconst (v := ((nI 2) : Int32)) hx hb dL_law_463 (by decide +kernel) ?_
  refine tv_iadd (a := 5 * k) (b := 2) hx hb dL_law_464 ?_
  refine va_sld hx hb hXs hbl hbA hS (vp_in_nI (by omega) (by omega)) dL_law_465 ?_
  refine tv_re (y := xs ((5 * k) + 2)) (by rw [nI_clamp (by omega)]) ?_
  refine lv_aload_n hx hb dL_law_466 rfl (lv_at hl 0 rfl) ?_
  refine lv_iload hx hb dL_law_467 (lv_at hl 4 rfl) ?_
  refine lv_iconst (v := ((nI 3) : Int32)) hx hb dL_law_469 (by decide +kernel) ?_
  refine tv_iadd (a := 5 * k) (b := 3) hx hb dL_law_470 ?_
  refine va_sld hx hb hXs hbl hbA hS (vp_in_nI (by omega) (by omega)) dL_law_471 ?_
  refine tv_re (y := xs ((5 * k) + 3)) (by rw [nI_clamp (by omega)]) ?_
  have hPc : va_P D vwCl Wo H := t_midP (a := [(q, .inl (cL, 1, .inr (.inl o)))]) (b := Wo) (c := Wm) hP
  have hDc : va_D (fun q : Nat => s.heap.size ≤ q) Wo := t_midD (a := [(q, .inl (cL, 1, .inr (.inl o)))]) (b := Wo) (c := Wm) hD
  have hFc := t_midF (a := [(q, .inl (cL, 1, .inr (.inl o)))]) (b := Wo) (c := Wm) hD hS hA
  refine va_calli (vx_runSW (As := [.ref h, .int (xs ((5 * k) + 1)), .int (xs ((5 * k) + 2)), .int (xs ((5 * k) + 3))]) (rest := []) ⟨hx, hb, hml, hown, hts⟩ (c_L_setCosts l hl0 D cI cL Wo h x n th un ju ch tm ba (xs ((5 * k) + 1)) (xs ((5 * k) + 2)) (xs ((5 * k) + 3)) hO H.size) (vx_cwSW 4 hts gL_law_L_setCosts rfl rfl rfl (by decide +kernel) ⟨Nat.le_of_ble_eq_true rfl, Nat.le_of_ble_eq_true rfl⟩) ⟨t_wPcX_blind, fun U hU hW => ⟨rfl, by rw [hU], by rw [hU]; exact hPc, va_K.moved hW.alike hK, hDc.weaken (fun _ _ _ _ => trivial), by rw [hU]; exact ((hX.kept hS.2.1).narrow hFc).moved hW⟩⟩ rfl rfl hl.1 rfl (lv_room (Nat.le_of_ble_eq_true rfl)) dL_law_472 ⟨(show 47 + k + 1 ≤ 1074 by omega), (show 8436 + 6 * k + 6 ≤ 11629 by omega)⟩) hS (fun q _ h => hFc q h) hFc (fun r1 u t H1 locs ht hvm hw hB hz1 hk1 hS => ?_)
  obtain ⟨hP1, hK1, hD1⟩ := hB
  rw [ht] at hP1
  obtain ⟨hP, hD⟩ := t_jmid (a := [(q, .inl (cL, 1, .inr (.inl o)))]) (b := Wo) (c := Wm) hP hD hk1 hFc hP1 hD1
  have hwc := hw
  obtain ⟨W1, hu⟩ : ∃ W1, W1 = u := ⟨_, rfl⟩
  rw [← hu] at hP hD hwc
  have hP : va_P D vwCl ((q, .inl (cL, 1, .inr (.inl o))) :: (W1 ++ Wm)) H1 := hP
  have hD : va_D (fun q : Nat => s.heap.size ≤ q) ((q, .inl (cL, 1, .inr (.inl o))) :: (W1 ++ Wm)) := hD
  clear hP1 hD1 hK1 hPc hDc hFc hvm hz1 hk1 ht
  generalize H1 = H at hP hS ⊢
  refine lv_istore (lv' := [(5, .int r1), (0, .ref b), (1, .ref h), (2, .ref g), (3, .ref q), (4, .int (nI (5 * k)))]) hx hb dL_law_475 hl (by decide) rfl (fun ls hl => ?_)
  refine lv_aload_n hx hb dL_law_477 rfl (lv_at hl 3 rfl) ?_
  refine lv_aload_n hx hb dL_law_478 rfl (lv_at hl 1 rfl) ?_
  refine lv_iload hx hb dL_law_479 (lv_at hl 5 rfl) ?_
  refine lv_iconst (v := ((nI 1) : Int32)) hx hb dL_law_481 (by decide +kernel) ?_
  refine tv_iadd (a := 5 * k) (b := 1) hx hb dL_law_482 ?_
  refine va_sld hx hb hXs hbl hbA hS (vp_in_nI (by omega) (by omega)) dL_law_483 ?_
  refine tv_re (y := xs ((5 * k) + 1)) (by rw [nI_clamp (by omega)]) ?_
  refine lv_aload_n hx hb dL_law_484 rfl (lv_at hl 1 rfl) ?_
  refine lv_iload hx hb dL_law_485 (lv_at hl 5 rfl) ?_
  refine lv_iconst (v := ((nI 2) : Int32)) hx hb dL_law_487 (by decide +kernel) ?_
  refine tv_iadd (a := 5 * k) (b := 2) hx hb dL_law_488 ?_
  refine va_sld hx hb hXs hbl hbA hS (vp_in_nI (by omega) (by omega)) dL_law_489 ?_
  refine tv_re (y := xs ((5 * k) + 2)) (by rw [nI_clamp (by omega)]) ?_
  refine lv_aload_n hx hb dL_law_490 rfl (lv_at hl 1 rfl) ?_
  refine lv_iload hx hb dL_law_491 (lv_at hl 5 rfl) ?_
  refine lv_iconst (v := ((nI 3) : Int32)) hx hb dL_law_493 (by decide +kernel) ?_
  refine tv_iadd (a := 5 * k) (b := 3) hx hb dL_law_494 ?_
  refine va_sld hx hb hXs hbl hbA hS (vp_in_nI (by omega) (by omega)) dL_law_495 ?_
  refine tv_re (y := xs ((5 * k) + 3)) (by rw [nI_clamp (by omega)]) ?_
  have hPc : va_P D vwCl Wm H := t_endP (a := (q, .inl (cL, 1, .inr (.inl o))) :: W1) hP
  have hDc : va_D (fun q : Nat => s.heap.size ≤ q) Wm := t_endD (a := (q, .inl (cL, 1, .inr (.inl o))) :: W1) hD
  have hFc := t_endF (a := (q, .inl (cL, 1, .inr (.inl o))) :: W1) hD hS hA
  refine va_callv (va_runV (As := [.int (xs ((5 * k) + 1)), .int (xs ((5 * k) + 2)), .int (xs ((5 * k) + 3))]) (rest := []) ⟨hx, hb, hml, hown, hts⟩ (c_X9_setCosts l D cI cL Wm g y n th un ju ch tm ba thr (xs ((5 * k) + 1)) (xs ((5 * k) + 2)) (xs ((5 * k) + 3)) hM H.size) (cwV 3 hts gL_law_X9_setCosts rfl rfl rfl (by decide +kernel) ⟨Nat.le_of_ble_eq_true rfl, Nat.le_of_ble_eq_true rfl⟩) ⟨t_wPc_blind, va_recv hK hPc (ci := 9) (q0 := 0) rfl hfsm, fun U hU hW => ⟨rfl, by rw [hU], by rw [hU]; exact hPc, va_K.moved hW.alike hK, hDc.weaken (fun _ _ _ _ => trivial)⟩⟩ rfl rfl hl.1 rfl (lv_room (Nat.le_of_ble_eq_true rfl)) dL_law_496 ⟨(show 47 + k + 1 + 0 ≤ 1074 by omega), (show 8436 + 6 * k + 6 + 0 ≤ 11629 by omega)⟩) hS (fun q _ h => hFc q h) hFc (fun u t H1 locs ht hvm hw hB hz1 hk1 hS => ?_)
  obtain ⟨hP1, hK1, hD1⟩ := hB
  rw [ht] at hP1
  obtain ⟨hP, hD⟩ := t_jend (a := (q, .inl (cL, 1, .inr (.inl o))) :: W1) hP hD hk1 hFc hP1 hD1
  have hwm := hw
  obtain ⟨M1, huM1⟩ : ∃ W1, W1 = u := ⟨_, rfl⟩
  rw [← huM1] at hP hD hwm
  have hP : va_P D vwCl ((q, .inl (cL, 1, .inr (.inl o))) :: (W1 ++ M1)) H1 := hP
  have hD : va_D (fun q : Nat => s.heap.size ≤ q) ((q, .inl (cL, 1, .inr (.inl o))) :: (W1 ++ M1)) := hD
  clear hP1 hD1 hK1 hPc hDc hFc hvm hz1 hk1 ht
  generalize H1 = H at hP hS ⊢
  obtain ⟨h0, x2, y2, n2, th2, un2, ju2, ch2, tm2, ba2, hO2, hM2, hag2⟩ := t_pr_setCosts (r := r1)  hag hn hwc hwm
  refine lv_aload_n hx hb dL_law_499 rfl (lv_at hl 3 rfl) ?_
  have hPc : va_P D vwCl M1 H := t_endP (a := (q, .inl (cL, 1, .inr (.inl o))) :: W1) hP
  have hDc : va_D (fun q : Nat => s.heap.size ≤ q) M1 := t_endD (a := (q, .inl (cL, 1, .inr (.inl o))) :: W1) hD
  have hFc := t_endF (a := (q, .inl (cL, 1, .inr (.inl o))) :: W1) hD hS hA
  obtain ⟨fsm, hfsm⟩ := t_mob_hd hM2
  refine va_calli (va_runV (As := []) (rest := []) ⟨hx, hb, hml, hown, hts⟩ (c_X9_thrown l D cI cL M1 g y2 n2 th2 un2 ju2 ch2 tm2 ba2 r1 hM2 H.size) (cwV 0 hts gL_law_X9_thrown rfl rfl rfl (by decide +kernel) ⟨Nat.le_of_ble_eq_true rfl, Nat.le_of_ble_eq_true rfl⟩) ⟨t_wPc_blind, va_recv hK hPc (ci := 9) (q0 := 0) rfl hfsm, fun U hU hW => ⟨rfl, by rw [hU], by rw [hU]; exact hPc, va_K.moved hW.alike hK, hDc.weaken (fun _ _ _ _ => trivial)⟩⟩ rfl rfl hl.1 rfl (lv_room (Nat.le_of_ble_eq_true rfl)) dL_law_500 ⟨(show 47 + k + 1 + 0 ≤ 1074 by omega), (show 8436 + 6 * k + 6 + 0 ≤ 11629 by omega)⟩) hS (fun q _ h => hFc q h) hFc (fun r3 u t H1 locs ht hvm hw hB hz1 hk1 hS => ?_)
  obtain ⟨hP1, hK1, hD1⟩ := hB
  rw [ht] at hP1
  obtain ⟨hP, hD⟩ := t_jend (a := (q, .inl (cL, 1, .inr (.inl o))) :: W1) hP hD hk1 hFc hP1 hD1
  obtain ⟨M2, huM2⟩ : ∃ W1, W1 = u := ⟨_, rfl⟩
  rw [← huM2] at hP hD hw
  have hP : va_P D vwCl ((q, .inl (cL, 1, .inr (.inl o))) :: (W1 ++ M2)) H1 := hP
  have hD : va_D (fun q : Nat => s.heap.size ≤ q) ((q, .inl (cL, 1, .inr (.inl o))) :: (W1 ++ M2)) := hD
  clear hP1 hD1 hK1 hPc hDc hFc hvm hz1 hk1 ht
  generalize H1 = H at hP hS ⊢
  obtain ⟨h3, hM3⟩ := hw
  refine tv_re (y := r1) h3 ?_
  have hLI2 : t_LI cI h g W1 M2 := t_LJ_LI hO2 hM3 hag2
  refine lv_iload hx hb dL_law_503 (lv_at hl 0 rfl) ?_
  refine lv_icmp_eq (tgt := 510) hx hb dL_law_505 (by decide) (fun q505_1 => ?_) (fun q505_1 => absurd rfl q505_1)
  refine lv_goto (tgt := 1520) hx hb dL_law_510 (by decide) ?_
  exact kk _ _ _ _ _ _ hLI2 hP hD hS (lv_sub hl [1, 2, 3, 4, 5] rfl)

set_option maxHeartbeats 4000000 in
set_option maxRecDepth 100000 in
theorem law_c6 {p : Program} {l : Launch} {e : Env} {s : State} {m : MethodId} {below : List Frame} {meth : Method} {c : Code} {D : va_G} {cI cL : ClassId} {b L : Nat} {xs : Nat → Int32} {h g q k : Nat} {o : Nat → Int64} {Wo Wm : va_W} {H : Heap} {locs : List Loc} {ls : Array Slot} (hl0 : l.stackTraces = false) (C0 : lw_At p s m meth c b L xs) (hL : L ≤ 2560) (hk : 5 * k + 5 ≤ L) (hK : va_K D vwCl [(cI, .int), (cL, .long)] s) (hX : t_X (fun q : Nat => s.heap.size ≤ q) s s.heap) (hLI : t_LI cI h g Wo Wm) (hP : va_P D vwCl ((q, .inl (cL, 1, .inr (.inl o))) :: (Wo ++ Wm)) H) (hD : va_D (fun q : Nat => s.heap.size ≤ q) ((q, .inl (cL, 1, .inr (.inl o))) :: (Wo ++ Wm))) (hS : va_S (fun q : Nat => s.heap.size ≤ q) s.heap H locs) (hl : lv_has ls 7 [(0, .ref b), (1, .ref h), (2, .ref g), (3, .ref q), (4, .int (nI (5 * k)))]) (kk : ∀ (o : Nat → Int64) (Wo Wm : va_W) (H : Heap) (locs : List Loc) (ls : Array Slot), t_LI cI h g Wo Wm → va_P D vwCl ((q, .inl (cL, 1, .inr (.inl o))) :: (Wo ++ Wm)) H → va_D (fun q : Nat => s.heap.size ≤ q) ((q, .inl (cL, 1, .inr (.inl o))) :: (Wo ++ Wm)) → va_S (fun q : Nat => s.heap.size ≤ q) s.heap H locs → lv_has ls 7 [(0, .ref b), (1, .ref h), (2, .ref g), (3, .ref q), (4, .int (nI (5 * k)))] → W p l e room_1 s m #[Value.ref b] below meth c H locs (47 + (k + 1)) (8436 + 6 * (k + 1)) (lw_Z below #[Value.ref b] s) (F0 m 1520 ls [])) : W p l e room_1 s m #[Value.ref b] below meth c H locs (47 + k) (8436 + 6 * k) (lw_Z below #[Value.ref b] s) (F0 m 513 ls []) := by
  obtain ⟨hx, hb, hr, hml, hown, hts, hXs, hbl, hlocks, hgv⟩ := id C0
  have hown : s.vm.findClass RL = some m.cls := hown
  have hts : ∀ w ∈ wsL_law, w.before #[Value.ref b] s = true := fun w h => hts w (wsL_law_in w h)
  have hA : ∀ q : Nat, s.heap.size ≤ q → (fun q : Nat => s.heap.size ≤ q) q := fun _ h => h
  have hbA : ¬ (fun q : Nat => s.heap.size ≤ q) b := Nat.not_le.mpr hbl
  obtain ⟨x, y, n, th, un, ju, ch, tm, ba, thr, hO, hM, hag⟩ := hLI
  have hn := t_mob_n hM
  obtain ⟨fs, hfs⟩ := t_obj_hd hO
  obtain ⟨fsm, hfsm⟩ := t_mob_hd hM
  refine lv_aload_n hx hb dL_law_513 rfl (lv_at hl 1 rfl) ?_
  refine lv_aload_n hx hb dL_law_514 rfl (lv_at hl 0 rfl) ?_
  refine lv_iload hx hb dL_law_515 (lv_at hl 4 rfl) ?_
  refine lv_iconst (v := ((nI 1) : Int32)) hx hb dL_law_517 (by decide +kernel) ?_
  refine tv_iadd (a := 5 * k) (b := 1) hx hb dL_law_518 ?_
  refine va_sld hx hb hXs hbl hbA hS (vp_in_nI (by omega) (by omega)) dL_law_519 ?_
  refine tv_re (y := xs ((5 * k) + 1)) (by rw [nI_clamp (by omega)]) ?_
  refine lv_aload_n hx hb dL_law_520 rfl (lv_at hl 0 rfl) ?_
  refine lv_iload hx hb dL_law_521 (lv_at hl 4 rfl) ?_
  refine lv_iconst (v := ((nI 2) : Int32)) hx hb dL_law_523 (by decide +kernel) ?_
  refine tv_iadd (a := 5 * k) (b := 2) hx hb dL_law_524 ?_
  refine va_sld hx hb hXs hbl hbA hS (vp_in_nI (by omega) (by omega)) dL_law_525 ?_
  refine tv_re (y := xs ((5 * k) + 2)) (by rw [nI_clamp (by omega)]) ?_
  have hPc : va_P D vwCl Wo H := t_midP (a := [(q, .inl (cL, 1, .inr (.inl o)))]) (b := Wo) (c := Wm) hP
  have hDc : va_D (fun q : Nat => s.heap.size ≤ q) Wo := t_midD (a := [(q, .inl (cL, 1, .inr (.inl o)))]) (b := Wo) (c := Wm) hD
  have hFc := t_midF (a := [(q, .inl (cL, 1, .inr (.inl o)))]) (b := Wo) (c := Wm) hD hS hA
  refine va_calli (vx_runSW (As := [.ref h, .int (xs ((5 * k) + 1)), .int (xs ((5 * k) + 2))]) (rest := []) ⟨hx, hb, hml, hown, hts⟩ (c_L_setTemperament l hl0 D cI cL Wo h x n th un ju ch tm ba (xs ((5 * k) + 1)) (xs ((5 * k) + 2)) hO H.size) (vx_cwSW 3 hts gL_law_L_setTemperament rfl rfl rfl (by decide +kernel) ⟨Nat.le_of_ble_eq_true rfl, Nat.le_of_ble_eq_true rfl⟩) ⟨t_wPcX_blind, fun U hU hW => ⟨rfl, by rw [hU], by rw [hU]; exact hPc, va_K.moved hW.alike hK, hDc.weaken (fun _ _ _ _ => trivial), by rw [hU]; exact ((hX.kept hS.2.1).narrow hFc).moved hW⟩⟩ rfl rfl hl.1 rfl (lv_room (Nat.le_of_ble_eq_true rfl)) dL_law_526 ⟨(show 47 + k + 1 ≤ 1074 by omega), (show 8436 + 6 * k + 6 ≤ 11629 by omega)⟩) hS (fun q _ h => hFc q h) hFc (fun r1 u t H1 locs ht hvm hw hB hz1 hk1 hS => ?_)
  obtain ⟨hP1, hK1, hD1⟩ := hB
  rw [ht] at hP1
  obtain ⟨hP, hD⟩ := t_jmid (a := [(q, .inl (cL, 1, .inr (.inl o)))]) (b := Wo) (c := Wm) hP hD hk1 hFc hP1 hD1
  have hwc := hw
  obtain ⟨W1, hu⟩ : ∃ W1, W1 = u := ⟨_, rfl⟩
  rw [← hu] at hP hD hwc
  have hP : va_P D vwCl ((q, .inl (cL, 1, .inr (.inl o))) :: (W1 ++ Wm)) H1 := hP
  have hD : va_D (fun q : Nat => s.heap.size ≤ q) ((q, .inl (cL, 1, .inr (.inl o))) :: (W1 ++ Wm)) := hD
  clear hP1 hD1 hK1 hPc hDc hFc hvm hz1 hk1 ht
  generalize H1 = H at hP hS ⊢
  refine lv_istore (lv' := [(5, .int r1), (0, .ref b), (1, .ref h), (2, .ref g), (3, .ref q), (4, .int (nI (5 * k)))]) hx hb dL_law_529 hl (by decide) rfl (fun ls hl => ?_)
  refine lv_aload_n hx hb dL_law_531 rfl (lv_at hl 3 rfl) ?_
  refine lv_aload_n hx hb dL_law_532 rfl (lv_at hl 1 rfl) ?_
  refine lv_iload hx hb dL_law_533 (lv_at hl 5 rfl) ?_
  refine lv_iconst (v := ((nI 1) : Int32)) hx hb dL_law_535 (by decide +kernel) ?_
  refine tv_iadd (a := 5 * k) (b := 1) hx hb dL_law_536 ?_
  refine va_sld hx hb hXs hbl hbA hS (vp_in_nI (by omega) (by omega)) dL_law_537 ?_
  refine tv_re (y := xs ((5 * k) + 1)) (by rw [nI_clamp (by omega)]) ?_
  refine lv_aload_n hx hb dL_law_538 rfl (lv_at hl 1 rfl) ?_
  refine lv_iload hx hb dL_law_539 (lv_at hl 5 rfl) ?_
  refine lv_iconst (v := ((nI 2) : Int32)) hx hb dL_law_541 (by decide +kernel) ?_
  refine tv_iadd (a := 5 * k) (b := 2) hx hb dL_law_542 ?_
  refine va_sld hx hb hXs hbl hbA hS (vp_in_nI (by omega) (by omega)) dL_law_543 ?_
  refine tv_re (y := xs ((5 * k) + 2)) (by rw [nI_clamp (by omega)]) ?_
  have hPc : va_P D vwCl Wm H := t_endP (a := (q, .inl (cL, 1, .inr (.inl o))) :: W1) hP
  have hDc : va_D (fun q : Nat => s.heap.size ≤ q) Wm := t_endD (a := (q, .inl (cL, 1, .inr (.inl o))) :: W1) hD
  have hFc := t_endF (a := (q, .inl (cL, 1, .inr (.inl o))) :: W1) hD hS hA
  refine va_callv (va_runV (As := [.int (xs ((5 * k) + 1)), .int (xs ((5 * k) + 2))]) (rest := []) ⟨hx, hb, hml, hown, hts⟩ (c_X9_setTemperament l D cI cL Wm g y n th un ju ch tm ba thr (xs ((5 * k) + 1)) (xs ((5 * k) + 2)) hM H.size) (cwV 2 hts gL_law_X9_setTemperament rfl rfl rfl (by decide +kernel) ⟨Nat.le_of_ble_eq_true rfl, Nat.le_of_ble_eq_true rfl⟩) ⟨t_wPc_blind, va_recv hK hPc (ci := 9) (q0 := 0) rfl hfsm, fun U hU hW => ⟨rfl, by rw [hU], by rw [hU]; exact hPc, va_K.moved hW.alike hK, hDc.weaken (fun _ _ _ _ => trivial)⟩⟩ rfl rfl hl.1 rfl (lv_room (Nat.le_of_ble_eq_true rfl)) dL_law_544 ⟨(show 47 + k + 1 + 0 ≤ 1074 by omega), (show 8436 + 6 * k + 6 + 0 ≤ 11629 by omega)⟩) hS (fun q _ h => hFc q h) hFc (fun u t H1 locs ht hvm hw hB hz1 hk1 hS => ?_)
  obtain ⟨hP1, hK1, hD1⟩ := hB
  rw [ht] at hP1
  obtain ⟨hP, hD⟩ := t_jend (a := (q, .inl (cL, 1, .inr (.inl o))) :: W1) hP hD hk1 hFc hP1 hD1
  have hwm := hw
  obtain ⟨M1, huM1⟩ : ∃ W1, W1 = u := ⟨_, rfl⟩
  rw [← huM1] at hP hD hwm
  have hP : va_P D vwCl ((q, .inl (cL, 1, .inr (.inl o))) :: (W1 ++ M1)) H1 := hP
  have hD : va_D (fun q : Nat => s.heap.size ≤ q) ((q, .inl (cL, 1, .inr (.inl o))) :: (W1 ++ M1)) := hD
  clear hP1 hD1 hK1 hPc hDc hFc hvm hz1 hk1 ht
  generalize H1 = H at hP hS ⊢
  obtain ⟨h0, x2, y2, n2, th2, un2, ju2, ch2, tm2, ba2, hO2, hM2, hag2⟩ := t_pr_setTemperament (r := r1)  hag hn hwc hwm
  refine lv_aload_n hx hb dL_law_547 rfl (lv_at hl 3 rfl) ?_
  have hPc : va_P D vwCl M1 H := t_endP (a := (q, .inl (cL, 1, .inr (.inl o))) :: W1) hP
  have hDc : va_D (fun q : Nat => s.heap.size ≤ q) M1 := t_endD (a := (q, .inl (cL, 1, .inr (.inl o))) :: W1) hD
  have hFc := t_endF (a := (q, .inl (cL, 1, .inr (.inl o))) :: W1) hD hS hA
  obtain ⟨fsm, hfsm⟩ := t_mob_hd hM2
  refine va_calli (va_runV (As := []) (rest := []) ⟨hx, hb, hml, hown, hts⟩ (c_X9_thrown l D cI cL M1 g y2 n2 th2 un2 ju2 ch2 tm2 ba2 r1 hM2 H.size) (cwV 0 hts gL_law_X9_thrown rfl rfl rfl (by decide +kernel) ⟨Nat.le_of_ble_eq_true rfl, Nat.le_of_ble_eq_true rfl⟩) ⟨t_wPc_blind, va_recv hK hPc (ci := 9) (q0 := 0) rfl hfsm, fun U hU hW => ⟨rfl, by rw [hU], by rw [hU]; exact hPc, va_K.moved hW.alike hK, hDc.weaken (fun _ _ _ _ => trivial)⟩⟩ rfl rfl hl.1 rfl (lv_room (Nat.le_of_ble_eq_true rfl)) dL_law_548 ⟨(show 47 + k + 1 + 0 ≤ 1074 by omega), (show 8436 + 6 * k + 6 + 0 ≤ 11629 by omega)⟩) hS (fun q _ h => hFc q h) hFc (fun r3 u t H1 locs ht hvm hw hB hz1 hk1 hS => ?_)
  obtain ⟨hP1, hK1, hD1⟩ := hB
  rw [ht] at hP1
  obtain ⟨hP, hD⟩ := t_jend (a := (q, .inl (cL, 1, .inr (.inl o))) :: W1) hP hD hk1 hFc hP1 hD1
  obtain ⟨M2, huM2⟩ : ∃ W1, W1 = u := ⟨_, rfl⟩
  rw [← huM2] at hP hD hw
  have hP : va_P D vwCl ((q, .inl (cL, 1, .inr (.inl o))) :: (W1 ++ M2)) H1 := hP
  have hD : va_D (fun q : Nat => s.heap.size ≤ q) ((q, .inl (cL, 1, .inr (.inl o))) :: (W1 ++ M2)) := hD
  clear hP1 hD1 hK1 hPc hDc hFc hvm hz1 hk1 ht
  generalize H1 = H at hP hS ⊢
  obtain ⟨h3, hM3⟩ := hw
  refine tv_re (y := r1) h3 ?_
  have hLI2 : t_LI cI h g W1 M2 := t_LJ_LI hO2 hM3 hag2
  refine lv_iload hx hb dL_law_551 (lv_at hl 0 rfl) ?_
  refine lv_icmp_eq (tgt := 558) hx hb dL_law_553 (by decide) (fun q553_1 => ?_) (fun q553_1 => absurd rfl q553_1)
  refine lv_goto (tgt := 1520) hx hb dL_law_558 (by decide) ?_
  exact kk _ _ _ _ _ _ hLI2 hP hD hS (lv_sub hl [1, 2, 3, 4, 5] rfl)

set_option maxHeartbeats 4000000 in
set_option maxRecDepth 100000 in
theorem law_c7 {p : Program} {l : Launch} {e : Env} {s : State} {m : MethodId} {below : List Frame} {meth : Method} {c : Code} {D : va_G} {cI cL : ClassId} {b L : Nat} {xs : Nat → Int32} {h g q k : Nat} {o : Nat → Int64} {Wo Wm : va_W} {H : Heap} {locs : List Loc} {ls : Array Slot} (hl0 : l.stackTraces = false) (C0 : lw_At p s m meth c b L xs) (hL : L ≤ 2560) (hk : 5 * k + 5 ≤ L) (hK : va_K D vwCl [(cI, .int), (cL, .long)] s) (hX : t_X (fun q : Nat => s.heap.size ≤ q) s s.heap) (hLI : t_LI cI h g Wo Wm) (hP : va_P D vwCl ((q, .inl (cL, 1, .inr (.inl o))) :: (Wo ++ Wm)) H) (hD : va_D (fun q : Nat => s.heap.size ≤ q) ((q, .inl (cL, 1, .inr (.inl o))) :: (Wo ++ Wm))) (hS : va_S (fun q : Nat => s.heap.size ≤ q) s.heap H locs) (hl : lv_has ls 7 [(0, .ref b), (1, .ref h), (2, .ref g), (3, .ref q), (4, .int (nI (5 * k)))]) (kk : ∀ (o : Nat → Int64) (Wo Wm : va_W) (H : Heap) (locs : List Loc) (ls : Array Slot), t_LI cI h g Wo Wm → va_P D vwCl ((q, .inl (cL, 1, .inr (.inl o))) :: (Wo ++ Wm)) H → va_D (fun q : Nat => s.heap.size ≤ q) ((q, .inl (cL, 1, .inr (.inl o))) :: (Wo ++ Wm)) → va_S (fun q : Nat => s.heap.size ≤ q) s.heap H locs → lv_has ls 7 [(0, .ref b), (1, .ref h), (2, .ref g), (3, .ref q), (4, .int (nI (5 * k)))] → W p l e room_1 s m #[Value.ref b] below meth c H locs (47 + (k + 1)) (8436 + 6 * (k + 1)) (lw_Z below #[Value.ref b] s) (F0 m 1520 ls [])) : W p l e room_1 s m #[Value.ref b] below meth c H locs (47 + k) (8436 + 6 * k) (lw_Z below #[Value.ref b] s) (F0 m 561 ls []) := by
  obtain ⟨hx, hb, hr, hml, hown, hts, hXs, hbl, hlocks, hgv⟩ := id C0
  have hown : s.vm.findClass RL = some m.cls := hown
  have hts : ∀ w ∈ wsL_law, w.before #[Value.ref b] s = true := fun w h => hts w (wsL_law_in w h)
  have hA : ∀ q : Nat, s.heap.size ≤ q → (fun q : Nat => s.heap.size ≤ q) q := fun _ h => h
  have hbA : ¬ (fun q : Nat => s.heap.size ≤ q) b := Nat.not_le.mpr hbl
  obtain ⟨x, y, n, th, un, ju, ch, tm, ba, thr, hO, hM, hag⟩ := hLI
  have hn := t_mob_n hM
  obtain ⟨fs, hfs⟩ := t_obj_hd hO
  obtain ⟨fsm, hfsm⟩ := t_mob_hd hM
  refine lv_aload_n hx hb dL_law_561 rfl (lv_at hl 1 rfl) ?_
  have hPc : va_P D vwCl Wo H := t_midP (a := [(q, .inl (cL, 1, .inr (.inl o)))]) (b := Wo) (c := Wm) hP
  have hDc : va_D (fun q : Nat => s.heap.size ≤ q) Wo := t_midD (a := [(q, .inl (cL, 1, .inr (.inl o)))]) (b := Wo) (c := Wm) hD
  have hFc := t_midF (a := [(q, .inl (cL, 1, .inr (.inl o)))]) (b := Wo) (c := Wm) hD hS hA
  refine va_calli (va_runV (As := []) (rest := []) ⟨hx, hb, hml, hown, hts⟩ (c_X8_samples l D cI cL Wo h x n th un ju ch tm ba hO H.size) (cwV 0 hts gL_law_X8_samples rfl rfl rfl (by decide +kernel) ⟨Nat.le_of_ble_eq_true rfl, Nat.le_of_ble_eq_true rfl⟩) ⟨t_wPcX_blind, va_recv hK hPc (ci := 8) (q0 := 0) rfl hfs, fun U hU hW => ⟨rfl, by rw [hU], by rw [hU]; exact hPc, va_K.moved hW.alike hK, hDc.weaken (fun _ _ _ _ => trivial), by rw [hU]; exact ((hX.kept hS.2.1).narrow hFc).moved hW⟩⟩ rfl rfl hl.1 rfl (lv_room (Nat.le_of_ble_eq_true rfl)) dL_law_562 ⟨(show 47 + k + 0 ≤ 1074 by omega), (show 8436 + 6 * k + 0 ≤ 11629 by omega)⟩) hS (fun q _ h => hFc q h) hFc (fun r1 u t H1 locs ht hvm hw hB hz1 hk1 hS => ?_)
  obtain ⟨hP1, hK1, hD1⟩ := hB
  rw [ht] at hP1
  obtain ⟨hP, hD⟩ := t_jmid (a := [(q, .inl (cL, 1, .inr (.inl o)))]) (b := Wo) (c := Wm) hP hD hk1 hFc hP1 hD1
  have hwc := hw
  obtain ⟨W1, hu⟩ : ∃ W1, W1 = u := ⟨_, rfl⟩
  rw [← hu] at hP hD hwc
  have hP : va_P D vwCl ((q, .inl (cL, 1, .inr (.inl o))) :: (W1 ++ Wm)) H1 := hP
  have hD : va_D (fun q : Nat => s.heap.size ≤ q) ((q, .inl (cL, 1, .inr (.inl o))) :: (W1 ++ Wm)) := hD
  clear hP1 hD1 hK1 hPc hDc hFc hvm hz1 hk1 ht
  generalize H1 = H at hP hS ⊢
  refine lv_aload_n hx hb dL_law_565 rfl (lv_at hl 2 rfl) ?_
  have hPc : va_P D vwCl Wm H := t_endP (a := (q, .inl (cL, 1, .inr (.inl o))) :: W1) hP
  have hDc : va_D (fun q : Nat => s.heap.size ≤ q) Wm := t_endD (a := (q, .inl (cL, 1, .inr (.inl o))) :: W1) hD
  have hFc := t_endF (a := (q, .inl (cL, 1, .inr (.inl o))) :: W1) hD hS hA
  refine va_calli (va_runV (As := []) (rest := [.int r1]) ⟨hx, hb, hml, hown, hts⟩ (c_X9_samples l D cI cL Wm g y n th un ju ch tm ba thr  hM H.size) (cwV 0 hts gL_law_X9_samples rfl rfl rfl (by decide +kernel) ⟨Nat.le_of_ble_eq_true rfl, Nat.le_of_ble_eq_true rfl⟩) ⟨t_wPc_blind, va_recv hK hPc (ci := 9) (q0 := 0) rfl hfsm, fun U hU hW => ⟨rfl, by rw [hU], by rw [hU]; exact hPc, va_K.moved hW.alike hK, hDc.weaken (fun _ _ _ _ => trivial)⟩⟩ rfl rfl hl.1 rfl (lv_room (Nat.le_of_ble_eq_true rfl)) dL_law_566 ⟨(show 47 + k + 0 ≤ 1074 by omega), (show 8436 + 6 * k + 0 ≤ 11629 by omega)⟩) hS (fun q _ h => hFc q h) hFc (fun b1 u t H1 locs ht hvm hw hB hz1 hk1 hS => ?_)
  obtain ⟨hP1, hK1, hD1⟩ := hB
  rw [ht] at hP1
  obtain ⟨hP, hD⟩ := t_jend (a := (q, .inl (cL, 1, .inr (.inl o))) :: W1) hP hD hk1 hFc hP1 hD1
  have hwm := hw
  obtain ⟨M1, huM1⟩ : ∃ W1, W1 = u := ⟨_, rfl⟩
  rw [← huM1] at hP hD hwm
  have hP : va_P D vwCl ((q, .inl (cL, 1, .inr (.inl o))) :: (W1 ++ M1)) H1 := hP
  have hD : va_D (fun q : Nat => s.heap.size ≤ q) ((q, .inl (cL, 1, .inr (.inl o))) :: (W1 ++ M1)) := hD
  clear hP1 hD1 hK1 hPc hDc hFc hvm hz1 hk1 ht
  generalize H1 = H at hP hS ⊢
  obtain ⟨heq, hLI2⟩ := t_pr_samples hag hn hwc hwm
  refine lv_icmp_eq (tgt := 1520) hx hb dL_law_569 (by decide) (fun q569_1 => ?_) (fun q569_1 => absurd heq q569_1)
  refine W.widen (k := 47 + k + 1) (n := 8436 + 6 * k + 6) (by omega) (by omega) ?_
  exact kk _ _ _ _ _ _ hLI2 hP hD hS (lv_sub hl [0, 1, 2, 3, 4] rfl)

set_option maxHeartbeats 4000000 in
set_option maxRecDepth 100000 in
theorem law_c8 {p : Program} {l : Launch} {e : Env} {s : State} {m : MethodId} {below : List Frame} {meth : Method} {c : Code} {D : va_G} {cI cL : ClassId} {b L : Nat} {xs : Nat → Int32} {h g q k : Nat} {o : Nat → Int64} {Wo Wm : va_W} {H : Heap} {locs : List Loc} {ls : Array Slot} (hl0 : l.stackTraces = false) (C0 : lw_At p s m meth c b L xs) (hL : L ≤ 2560) (hk : 5 * k + 5 ≤ L) (hK : va_K D vwCl [(cI, .int), (cL, .long)] s) (hX : t_X (fun q : Nat => s.heap.size ≤ q) s s.heap) (hLI : t_LI cI h g Wo Wm) (hP : va_P D vwCl ((q, .inl (cL, 1, .inr (.inl o))) :: (Wo ++ Wm)) H) (hD : va_D (fun q : Nat => s.heap.size ≤ q) ((q, .inl (cL, 1, .inr (.inl o))) :: (Wo ++ Wm))) (hS : va_S (fun q : Nat => s.heap.size ≤ q) s.heap H locs) (hl : lv_has ls 7 [(0, .ref b), (1, .ref h), (2, .ref g), (3, .ref q), (4, .int (nI (5 * k)))]) (kk : ∀ (o : Nat → Int64) (Wo Wm : va_W) (H : Heap) (locs : List Loc) (ls : Array Slot), t_LI cI h g Wo Wm → va_P D vwCl ((q, .inl (cL, 1, .inr (.inl o))) :: (Wo ++ Wm)) H → va_D (fun q : Nat => s.heap.size ≤ q) ((q, .inl (cL, 1, .inr (.inl o))) :: (Wo ++ Wm)) → va_S (fun q : Nat => s.heap.size ≤ q) s.heap H locs → lv_has ls 7 [(0, .ref b), (1, .ref h), (2, .ref g), (3, .ref q), (4, .int (nI (5 * k)))] → W p l e room_1 s m #[Value.ref b] below meth c H locs (47 + (k + 1)) (8436 + 6 * (k + 1)) (lw_Z below #[Value.ref b] s) (F0 m 1520 ls [])) : W p l e room_1 s m #[Value.ref b] below meth c H locs (47 + k) (8436 + 6 * k) (lw_Z below #[Value.ref b] s) (F0 m 574 ls []) := by
  obtain ⟨hx, hb, hr, hml, hown, hts, hXs, hbl, hlocks, hgv⟩ := id C0
  have hown : s.vm.findClass RL = some m.cls := hown
  have hts : ∀ w ∈ wsL_law, w.before #[Value.ref b] s = true := fun w h => hts w (wsL_law_in w h)
  have hA : ∀ q : Nat, s.heap.size ≤ q → (fun q : Nat => s.heap.size ≤ q) q := fun _ h => h
  have hbA : ¬ (fun q : Nat => s.heap.size ≤ q) b := Nat.not_le.mpr hbl
  obtain ⟨x, y, n, th, un, ju, ch, tm, ba, thr, hO, hM, hag⟩ := hLI
  have hn := t_mob_n hM
  obtain ⟨fs, hfs⟩ := t_obj_hd hO
  obtain ⟨fsm, hfsm⟩ := t_mob_hd hM
  refine lv_aload_n hx hb dL_law_574 rfl (lv_at hl 1 rfl) ?_
  refine lv_aload_n hx hb dL_law_575 rfl (lv_at hl 0 rfl) ?_
  refine lv_iload hx hb dL_law_576 (lv_at hl 4 rfl) ?_
  refine lv_iconst (v := ((nI 1) : Int32)) hx hb dL_law_578 (by decide +kernel) ?_
  refine tv_iadd (a := 5 * k) (b := 1) hx hb dL_law_579 ?_
  refine va_sld hx hb hXs hbl hbA hS (vp_in_nI (by omega) (by omega)) dL_law_580 ?_
  refine tv_re (y := xs ((5 * k) + 1)) (by rw [nI_clamp (by omega)]) ?_
  refine lv_aload_n hx hb dL_law_581 rfl (lv_at hl 3 rfl) ?_
  have hPc : va_P D vwCl ((q, .inl (cL, 1, .inr (.inl o))) :: Wo) H := t_fstP (b := (q, .inl (cL, 1, .inr (.inl o))) :: Wo) (c := Wm) hP
  have hDc : va_D (fun q : Nat => s.heap.size ≤ q) ((q, .inl (cL, 1, .inr (.inl o))) :: Wo) := t_fstD (b := (q, .inl (cL, 1, .inr (.inl o))) :: Wo) (c := Wm) hD
  have hFc := t_fstF (b := (q, .inl (cL, 1, .inr (.inl o))) :: Wo) (c := Wm) hD hS hA
  refine va_calli (vx_runSW (As := [.ref h, .int (xs ((5 * k) + 1)), .ref q]) (rest := []) ⟨hx, hb, hml, hown, hts⟩ (c_L_sample l hl0 D cI cL Wo h x n th un ju ch tm ba (xs ((5 * k) + 1)) q o hO H.size) (vx_cwSW 3 hts gL_law_L_sample rfl rfl rfl (by decide +kernel) ⟨Nat.le_of_ble_eq_true rfl, Nat.le_of_ble_eq_true rfl⟩) ⟨t_wPcX_blind, fun U hU hW => ⟨rfl, by rw [hU], by rw [hU]; exact hPc, va_K.moved hW.alike hK, hDc.weaken (fun _ _ _ _ => trivial), by rw [hU]; exact ((hX.kept hS.2.1).narrow hFc).moved hW⟩⟩ rfl rfl hl.1 rfl (lv_room (Nat.le_of_ble_eq_true rfl)) dL_law_582 ⟨(show 47 + k + 1 ≤ 1074 by omega), (show 8436 + 6 * k + 6 ≤ 11629 by omega)⟩) hS (fun q _ h => hFc q h) hFc (fun r1 u t H1 locs ht hvm hw hB hz1 hk1 hS => ?_)
  obtain ⟨hP1, hK1, hD1⟩ := hB
  rw [ht] at hP1
  obtain ⟨hP, hD⟩ := t_jfst (b := (q, .inl (cL, 1, .inr (.inl o))) :: Wo) (c := Wm) hP hD hk1 hFc hP1 hD1
  obtain ⟨o1, W1, hu, hwc⟩ := hw
  subst hu
  have hP : va_P D vwCl ((q, .inl (cL, 1, .inr (.inl o1))) :: (W1 ++ Wm)) H1 := hP
  have hD : va_D (fun q : Nat => s.heap.size ≤ q) ((q, .inl (cL, 1, .inr (.inl o1))) :: (W1 ++ Wm)) := hD
  clear hP1 hD1 hK1 hPc hDc hFc hvm hz1 hk1 ht
  generalize H1 = H at hP hS ⊢
  refine lv_istore (lv' := [(5, .int r1), (0, .ref b), (1, .ref h), (2, .ref g), (3, .ref q), (4, .int (nI (5 * k)))]) hx hb dL_law_585 hl (by decide) rfl (fun ls hl => ?_)
  refine lv_aload_n hx hb dL_law_587 rfl (lv_at hl 3 rfl) ?_
  refine lv_aload_n hx hb dL_law_588 rfl (lv_at hl 1 rfl) ?_
  refine lv_iload hx hb dL_law_589 (lv_at hl 5 rfl) ?_
  refine lv_iconst (v := ((nI 1) : Int32)) hx hb dL_law_591 (by decide +kernel) ?_
  refine tv_iadd (a := 5 * k) (b := 1) hx hb dL_law_592 ?_
  refine va_sld hx hb hXs hbl hbA hS (vp_in_nI (by omega) (by omega)) dL_law_593 ?_
  refine tv_re (y := xs ((5 * k) + 1)) (by rw [nI_clamp (by omega)]) ?_
  have hPc : va_P D vwCl Wm H := t_endP (a := (q, .inl (cL, 1, .inr (.inl o1))) :: W1) hP
  have hDc : va_D (fun q : Nat => s.heap.size ≤ q) Wm := t_endD (a := (q, .inl (cL, 1, .inr (.inl o1))) :: W1) hD
  have hFc := t_endF (a := (q, .inl (cL, 1, .inr (.inl o1))) :: W1) hD hS hA
  refine va_calli (va_runV (As := [.int (xs ((5 * k) + 1))]) (rest := []) ⟨hx, hb, hml, hown, hts⟩ (c_X9_sample l D cI cL Wm g y n th un ju ch tm ba thr (xs ((5 * k) + 1)) hM H.size) (cwV 1 hts gL_law_X9_sample rfl rfl rfl (by decide +kernel) ⟨Nat.le_of_ble_eq_true rfl, Nat.le_of_ble_eq_true rfl⟩) ⟨t_wPc_blind, va_recv hK hPc (ci := 9) (q0 := 0) rfl hfsm, fun U hU hW => ⟨rfl, by rw [hU], by rw [hU]; exact hPc, va_K.moved hW.alike hK, hDc.weaken (fun _ _ _ _ => trivial)⟩⟩ rfl rfl hl.1 rfl (lv_room (Nat.le_of_ble_eq_true rfl)) dL_law_594 ⟨(show 47 + k + 1 + 0 ≤ 1074 by omega), (show 8436 + 6 * k + 6 + 0 ≤ 11629 by omega)⟩) hS (fun q _ h => hFc q h) hFc (fun b1 u t H1 locs ht hvm hw hB hz1 hk1 hS => ?_)
  obtain ⟨hP1, hK1, hD1⟩ := hB
  rw [ht] at hP1
  obtain ⟨hP, hD⟩ := t_jend (a := (q, .inl (cL, 1, .inr (.inl o1))) :: W1) hP hD hk1 hFc hP1 hD1
  have hwm := hw
  obtain ⟨M1, huM1⟩ : ∃ W1, W1 = u := ⟨_, rfl⟩
  rw [← huM1] at hP hD hwm
  have hP : va_P D vwCl ((q, .inl (cL, 1, .inr (.inl o1))) :: (W1 ++ M1)) H1 := hP
  have hD : va_D (fun q : Nat => s.heap.size ≤ q) ((q, .inl (cL, 1, .inr (.inl o1))) :: (W1 ++ M1)) := hD
  clear hP1 hD1 hK1 hPc hDc hFc hvm hz1 hk1 ht
  generalize H1 = H at hP hS ⊢
  obtain ⟨h0, x2, y2, n2, th2, un2, ju2, ch2, tm2, ba2, hO2, hM2, hag2⟩ := t_pr_sample (r := r1)  hag hn hwc hwm
  refine lv_istore (lv' := [(6, .int b1), (5, .int r1), (0, .ref b), (1, .ref h), (2, .ref g), (3, .ref q), (4, .int (nI (5 * k)))]) hx hb dL_law_597 hl (by decide) rfl (fun ls hl => ?_)
  refine lv_aload_n hx hb dL_law_599 rfl (lv_at hl 4 rfl) ?_
  have hPc : va_P D vwCl M1 H := t_endP (a := (q, .inl (cL, 1, .inr (.inl o1))) :: W1) hP
  have hDc : va_D (fun q : Nat => s.heap.size ≤ q) M1 := t_endD (a := (q, .inl (cL, 1, .inr (.inl o1))) :: W1) hD
  have hFc := t_endF (a := (q, .inl (cL, 1, .inr (.inl o1))) :: W1) hD hS hA
  obtain ⟨fsm, hfsm⟩ := t_mob_hd hM2
  refine va_calli (va_runV (As := []) (rest := []) ⟨hx, hb, hml, hown, hts⟩ (c_X9_thrown l D cI cL M1 g y2 n2 th2 un2 ju2 ch2 tm2 ba2 r1 hM2 H.size) (cwV 0 hts gL_law_X9_thrown rfl rfl rfl (by decide +kernel) ⟨Nat.le_of_ble_eq_true rfl, Nat.le_of_ble_eq_true rfl⟩) ⟨t_wPc_blind, va_recv hK hPc (ci := 9) (q0 := 0) rfl hfsm, fun U hU hW => ⟨rfl, by rw [hU], by rw [hU]; exact hPc, va_K.moved hW.alike hK, hDc.weaken (fun _ _ _ _ => trivial)⟩⟩ rfl rfl hl.1 rfl (lv_room (Nat.le_of_ble_eq_true rfl)) dL_law_600 ⟨(show 47 + k + 1 + 0 ≤ 1074 by omega), (show 8436 + 6 * k + 6 + 0 ≤ 11629 by omega)⟩) hS (fun q _ h => hFc q h) hFc (fun r3 u t H1 locs ht hvm hw hB hz1 hk1 hS => ?_)
  obtain ⟨hP1, hK1, hD1⟩ := hB
  rw [ht] at hP1
  obtain ⟨hP, hD⟩ := t_jend (a := (q, .inl (cL, 1, .inr (.inl o1))) :: W1) hP hD hk1 hFc hP1 hD1
  obtain ⟨M2, huM2⟩ : ∃ W1, W1 = u := ⟨_, rfl⟩
  rw [← huM2] at hP hD hw
  have hP : va_P D vwCl ((q, .inl (cL, 1, .inr (.inl o1))) :: (W1 ++ M2)) H1 := hP
  have hD : va_D (fun q : Nat => s.heap.size ≤ q) ((q, .inl (cL, 1, .inr (.inl o1))) :: (W1 ++ M2)) := hD
  clear hP1 hD1 hK1 hPc hDc hFc hvm hz1 hk1 ht
  generalize H1 = H at hP hS ⊢
  obtain ⟨h3, hM3⟩ := hw
  refine tv_re (y := r1) h3 ?_
  have hLI2 : t_LI cI h g W1 M2 := t_LJ_LI hO2 hM3 hag2
  refine lv_iload hx hb dL_law_603 (lv_at hl 1 rfl) ?_
  refine lv_icmp_eq (tgt := 610) hx hb dL_law_605 (by decide) (fun q605_1 => ?_) (fun q605_1 => absurd rfl q605_1)
  refine lv_iload hx hb dL_law_610 (lv_at hl 1 rfl) ?_
  refine lv_if_ne (tgt := 627) hx hb dL_law_612 (by decide) (fun q612_2 => ?_) (fun q612_2 => ?_)
  · refine lv_goto (tgt := 1520) hx hb dL_law_627 (by decide) ?_
    exact kk _ _ _ _ _ _ hLI2 hP hD hS (lv_sub hl [2, 3, 4, 5, 6] rfl)
  · refine lv_aload_n hx hb dL_law_615 rfl (lv_at hl 5 rfl) ?_
    refine lv_iconst (v := ((nI 0) : Int32)) hx hb dL_law_616 (by decide +kernel) ?_
    refine va_lald hx hb hK hP 0 1 rfl rfl (vp_in_nI (by decide) (by decide)) dL_law_617 ?_
    refine tv_reL (y := o1 0) (by rw [nI_clamp (by decide)]) ?_
    refine lv_iload hx hb dL_law_618 (lv_at hl 0 rfl) ?_
    refine lv_i2l hx hb dL_law_620 rfl ?_
    refine W.lcmp hx hb dL_law_621 ?_
    refine tv_cmp_eq (tgt := 627) hx hb dL_law_622 (by decide) (fun q622_3 => ?_) (fun q622_3 => absurd (h0 (q612_2.trans nI_0.symm)) q622_3)
    refine lv_goto (tgt := 1520) hx hb dL_law_627 (by decide) ?_
    exact kk _ _ _ _ _ _ hLI2 hP hD hS (lv_sub hl [2, 3, 4, 5, 6] rfl)

set_option maxHeartbeats 4000000 in
set_option maxRecDepth 100000 in
theorem law_c9 {p : Program} {l : Launch} {e : Env} {s : State} {m : MethodId} {below : List Frame} {meth : Method} {c : Code} {D : va_G} {cI cL : ClassId} {b L : Nat} {xs : Nat → Int32} {h g q k : Nat} {o : Nat → Int64} {Wo Wm : va_W} {H : Heap} {locs : List Loc} {ls : Array Slot} (hl0 : l.stackTraces = false) (C0 : lw_At p s m meth c b L xs) (hL : L ≤ 2560) (hk : 5 * k + 5 ≤ L) (hK : va_K D vwCl [(cI, .int), (cL, .long)] s) (hX : t_X (fun q : Nat => s.heap.size ≤ q) s s.heap) (hLI : t_LI cI h g Wo Wm) (hP : va_P D vwCl ((q, .inl (cL, 1, .inr (.inl o))) :: (Wo ++ Wm)) H) (hD : va_D (fun q : Nat => s.heap.size ≤ q) ((q, .inl (cL, 1, .inr (.inl o))) :: (Wo ++ Wm))) (hS : va_S (fun q : Nat => s.heap.size ≤ q) s.heap H locs) (hl : lv_has ls 7 [(0, .ref b), (1, .ref h), (2, .ref g), (3, .ref q), (4, .int (nI (5 * k)))]) (kk : ∀ (o : Nat → Int64) (Wo Wm : va_W) (H : Heap) (locs : List Loc) (ls : Array Slot), t_LI cI h g Wo Wm → va_P D vwCl ((q, .inl (cL, 1, .inr (.inl o))) :: (Wo ++ Wm)) H → va_D (fun q : Nat => s.heap.size ≤ q) ((q, .inl (cL, 1, .inr (.inl o))) :: (Wo ++ Wm)) → va_S (fun q : Nat => s.heap.size ≤ q) s.heap H locs → lv_has ls 7 [(0, .ref b), (1, .ref h), (2, .ref g), (3, .ref q), (4, .int (nI (5 * k)))] → W p l e room_1 s m #[Value.ref b] below meth c H locs (47 + (k + 1)) (8436 + 6 * (k + 1)) (lw_Z below #[Value.ref b] s) (F0 m 1520 ls [])) : W p l e room_1 s m #[Value.ref b] below meth c H locs (47 + k) (8436 + 6 * k) (lw_Z below #[Value.ref b] s) (F0 m 630 ls []) := by
  obtain ⟨hx, hb, hr, hml, hown, hts, hXs, hbl, hlocks, hgv⟩ := id C0
  have hown : s.vm.findClass RL = some m.cls := hown
  have hts : ∀ w ∈ wsL_law, w.before #[Value.ref b] s = true := fun w h => hts w (wsL_law_in w h)
  have hA : ∀ q : Nat, s.heap.size ≤ q → (fun q : Nat => s.heap.size ≤ q) q := fun _ h => h
  have hbA : ¬ (fun q : Nat => s.heap.size ≤ q) b := Nat.not_le.mpr hbl
  obtain ⟨x, y, n, th, un, ju, ch, tm, ba, thr, hO, hM, hag⟩ := hLI
  have hn := t_mob_n hM
  obtain ⟨fs, hfs⟩ := t_obj_hd hO
  obtain ⟨fsm, hfsm⟩ := t_mob_hd hM
  refine lv_aload_n hx hb dL_law_630 rfl (lv_at hl 1 rfl) ?_
  have hPc : va_P D vwCl Wo H := t_midP (a := [(q, .inl (cL, 1, .inr (.inl o)))]) (b := Wo) (c := Wm) hP
  have hDc : va_D (fun q : Nat => s.heap.size ≤ q) Wo := t_midD (a := [(q, .inl (cL, 1, .inr (.inl o)))]) (b := Wo) (c := Wm) hD
  have hFc := t_midF (a := [(q, .inl (cL, 1, .inr (.inl o)))]) (b := Wo) (c := Wm) hD hS hA
  refine va_calli (va_runV (As := []) (rest := []) ⟨hx, hb, hml, hown, hts⟩ (c_X8_frames l D cI cL Wo h x n th un ju ch tm ba hO H.size) (cwV 0 hts gL_law_X8_frames rfl rfl rfl (by decide +kernel) ⟨Nat.le_of_ble_eq_true rfl, Nat.le_of_ble_eq_true rfl⟩) ⟨t_wPcX_blind, va_recv hK hPc (ci := 8) (q0 := 0) rfl hfs, fun U hU hW => ⟨rfl, by rw [hU], by rw [hU]; exact hPc, va_K.moved hW.alike hK, hDc.weaken (fun _ _ _ _ => trivial), by rw [hU]; exact ((hX.kept hS.2.1).narrow hFc).moved hW⟩⟩ rfl rfl hl.1 rfl (lv_room (Nat.le_of_ble_eq_true rfl)) dL_law_631 ⟨(show 47 + k + 0 ≤ 1074 by omega), (show 8436 + 6 * k + 0 ≤ 11629 by omega)⟩) hS (fun q _ h => hFc q h) hFc (fun r1 u t H1 locs ht hvm hw hB hz1 hk1 hS => ?_)
  obtain ⟨hP1, hK1, hD1⟩ := hB
  rw [ht] at hP1
  obtain ⟨hP, hD⟩ := t_jmid (a := [(q, .inl (cL, 1, .inr (.inl o)))]) (b := Wo) (c := Wm) hP hD hk1 hFc hP1 hD1
  have hwc := hw
  obtain ⟨W1, hu⟩ : ∃ W1, W1 = u := ⟨_, rfl⟩
  rw [← hu] at hP hD hwc
  have hP : va_P D vwCl ((q, .inl (cL, 1, .inr (.inl o))) :: (W1 ++ Wm)) H1 := hP
  have hD : va_D (fun q : Nat => s.heap.size ≤ q) ((q, .inl (cL, 1, .inr (.inl o))) :: (W1 ++ Wm)) := hD
  clear hP1 hD1 hK1 hPc hDc hFc hvm hz1 hk1 ht
  generalize H1 = H at hP hS ⊢
  refine lv_aload_n hx hb dL_law_634 rfl (lv_at hl 2 rfl) ?_
  have hPc : va_P D vwCl Wm H := t_endP (a := (q, .inl (cL, 1, .inr (.inl o))) :: W1) hP
  have hDc : va_D (fun q : Nat => s.heap.size ≤ q) Wm := t_endD (a := (q, .inl (cL, 1, .inr (.inl o))) :: W1) hD
  have hFc := t_endF (a := (q, .inl (cL, 1, .inr (.inl o))) :: W1) hD hS hA
  refine va_calli (va_runV (As := []) (rest := [.int r1]) ⟨hx, hb, hml, hown, hts⟩ (c_X9_frames l D cI cL Wm g y n th un ju ch tm ba thr  hM H.size) (cwV 0 hts gL_law_X9_frames rfl rfl rfl (by decide +kernel) ⟨Nat.le_of_ble_eq_true rfl, Nat.le_of_ble_eq_true rfl⟩) ⟨t_wPc_blind, va_recv hK hPc (ci := 9) (q0 := 0) rfl hfsm, fun U hU hW => ⟨rfl, by rw [hU], by rw [hU]; exact hPc, va_K.moved hW.alike hK, hDc.weaken (fun _ _ _ _ => trivial)⟩⟩ rfl rfl hl.1 rfl (lv_room (Nat.le_of_ble_eq_true rfl)) dL_law_635 ⟨(show 47 + k + 0 ≤ 1074 by omega), (show 8436 + 6 * k + 0 ≤ 11629 by omega)⟩) hS (fun q _ h => hFc q h) hFc (fun b1 u t H1 locs ht hvm hw hB hz1 hk1 hS => ?_)
  obtain ⟨hP1, hK1, hD1⟩ := hB
  rw [ht] at hP1
  obtain ⟨hP, hD⟩ := t_jend (a := (q, .inl (cL, 1, .inr (.inl o))) :: W1) hP hD hk1 hFc hP1 hD1
  have hwm := hw
  obtain ⟨M1, huM1⟩ : ∃ W1, W1 = u := ⟨_, rfl⟩
  rw [← huM1] at hP hD hwm
  have hP : va_P D vwCl ((q, .inl (cL, 1, .inr (.inl o))) :: (W1 ++ M1)) H1 := hP
  have hD : va_D (fun q : Nat => s.heap.size ≤ q) ((q, .inl (cL, 1, .inr (.inl o))) :: (W1 ++ M1)) := hD
  clear hP1 hD1 hK1 hPc hDc hFc hvm hz1 hk1 ht
  generalize H1 = H at hP hS ⊢
  obtain ⟨heq, hLI2⟩ := t_pr_frames hag hn hwc hwm
  refine lv_icmp_eq (tgt := 1520) hx hb dL_law_638 (by decide) (fun q638_1 => ?_) (fun q638_1 => absurd heq q638_1)
  refine W.widen (k := 47 + k + 1) (n := 8436 + 6 * k + 6) (by omega) (by omega) ?_
  exact kk _ _ _ _ _ _ hLI2 hP hD hS (lv_sub hl [0, 1, 2, 3, 4] rfl)

set_option maxHeartbeats 4000000 in
set_option maxRecDepth 100000 in
theorem law_c10 {p : Program} {l : Launch} {e : Env} {s : State} {m : MethodId} {below : List Frame} {meth : Method} {c : Code} {D : va_G} {cI cL : ClassId} {b L : Nat} {xs : Nat → Int32} {h g q k : Nat} {o : Nat → Int64} {Wo Wm : va_W} {H : Heap} {locs : List Loc} {ls : Array Slot} (hl0 : l.stackTraces = false) (C0 : lw_At p s m meth c b L xs) (hL : L ≤ 2560) (hk : 5 * k + 5 ≤ L) (hK : va_K D vwCl [(cI, .int), (cL, .long)] s) (hX : t_X (fun q : Nat => s.heap.size ≤ q) s s.heap) (hLI : t_LI cI h g Wo Wm) (hP : va_P D vwCl ((q, .inl (cL, 1, .inr (.inl o))) :: (Wo ++ Wm)) H) (hD : va_D (fun q : Nat => s.heap.size ≤ q) ((q, .inl (cL, 1, .inr (.inl o))) :: (Wo ++ Wm))) (hS : va_S (fun q : Nat => s.heap.size ≤ q) s.heap H locs) (hl : lv_has ls 7 [(0, .ref b), (1, .ref h), (2, .ref g), (3, .ref q), (4, .int (nI (5 * k)))]) (kk : ∀ (o : Nat → Int64) (Wo Wm : va_W) (H : Heap) (locs : List Loc) (ls : Array Slot), t_LI cI h g Wo Wm → va_P D vwCl ((q, .inl (cL, 1, .inr (.inl o))) :: (Wo ++ Wm)) H → va_D (fun q : Nat => s.heap.size ≤ q) ((q, .inl (cL, 1, .inr (.inl o))) :: (Wo ++ Wm)) → va_S (fun q : Nat => s.heap.size ≤ q) s.heap H locs → lv_has ls 7 [(0, .ref b), (1, .ref h), (2, .ref g), (3, .ref q), (4, .int (nI (5 * k)))] → W p l e room_1 s m #[Value.ref b] below meth c H locs (47 + (k + 1)) (8436 + 6 * (k + 1)) (lw_Z below #[Value.ref b] s) (F0 m 1520 ls [])) : W p l e room_1 s m #[Value.ref b] below meth c H locs (47 + k) (8436 + 6 * k) (lw_Z below #[Value.ref b] s) (F0 m 643 ls []) := by
  obtain ⟨hx, hb, hr, hml, hown, hts, hXs, hbl, hlocks, hgv⟩ := id C0
  have hown : s.vm.findClass RL = some m.cls := hown
  have hts : ∀ w ∈ wsL_law, w.before #[Value.ref b] s = true := fun w h => hts w (wsL_law_in w h)
  have hA : ∀ q : Nat, s.heap.size ≤ q → (fun q : Nat => s.heap.size ≤ q) q := fun _ h => h
  have hbA : ¬ (fun q : Nat => s.heap.size ≤ q) b := Nat.not_le.mpr hbl
  obtain ⟨x, y, n, th, un, ju, ch, tm, ba, thr, hO, hM, hag⟩ := hLI
  have hn := t_mob_n hM
  obtain ⟨fs, hfs⟩ := t_obj_hd hO
  obtain ⟨fsm, hfsm⟩ := t_mob_hd hM
  refine lv_aload_n hx hb dL_law_643 rfl (lv_at hl 1 rfl) ?_
  refine lv_aload_n hx hb dL_law_644 rfl (lv_at hl 0 rfl) ?_
  refine lv_iload hx hb dL_law_645 (lv_at hl 4 rfl) ?_
  refine lv_iconst (v := ((nI 1) : Int32)) hx hb dL_law_647 (by decide +kernel) ?_
  refine tv_iadd (a := 5 * k) (b := 1) hx hb dL_law_648 ?_
  refine va_sld hx hb hXs hbl hbA hS (vp_in_nI (by omega) (by omega)) dL_law_649 ?_
  refine tv_re (y := xs ((5 * k) + 1)) (by rw [nI_clamp (by omega)]) ?_
  refine lv_aload_n hx hb dL_law_650 rfl (lv_at hl 0 rfl) ?_
  refine lv_iload hx hb dL_law_651 (lv_at hl 4 rfl) ?_
  refine lv_iconst (v := ((nI 2) : Int32)) hx hb dL_law_653 (by decide +kernel) ?_
  refine tv_iadd (a := 5 * k) (b := 2) hx hb dL_law_654 ?_
  refine va_sld hx hb hXs hbl hbA hS (vp_in_nI (by omega) (by omega)) dL_law_655 ?_
  refine tv_re (y := xs ((5 * k) + 2)) (by rw [nI_clamp (by omega)]) ?_
  refine lv_aload_n hx hb dL_law_656 rfl (lv_at hl 3 rfl) ?_
  have hPc : va_P D vwCl ((q, .inl (cL, 1, .inr (.inl o))) :: Wo) H := t_fstP (b := (q, .inl (cL, 1, .inr (.inl o))) :: Wo) (c := Wm) hP
  have hDc : va_D (fun q : Nat => s.heap.size ≤ q) ((q, .inl (cL, 1, .inr (.inl o))) :: Wo) := t_fstD (b := (q, .inl (cL, 1, .inr (.inl o))) :: Wo) (c := Wm) hD
  have hFc := t_fstF (b := (q, .inl (cL, 1, .inr (.inl o))) :: Wo) (c := Wm) hD hS hA
  refine va_calli (vx_runSW (As := [.ref h, .int (xs ((5 * k) + 1)), .int (xs ((5 * k) + 2)), .ref q]) (rest := []) ⟨hx, hb, hml, hown, hts⟩ (c_L_energy l hl0 D cI cL Wo h x n th un ju ch tm ba (xs ((5 * k) + 1)) (xs ((5 * k) + 2)) q o hO H.size) (vx_cwSW 4 hts gL_law_L_energy rfl rfl rfl (by decide +kernel) ⟨Nat.le_of_ble_eq_true rfl, Nat.le_of_ble_eq_true rfl⟩) ⟨t_wPcX_blind, fun U hU hW => ⟨rfl, by rw [hU], by rw [hU]; exact hPc, va_K.moved hW.alike hK, hDc.weaken (fun _ _ _ _ => trivial), by rw [hU]; exact ((hX.kept hS.2.1).narrow hFc).moved hW⟩⟩ rfl rfl hl.1 rfl (lv_room (Nat.le_of_ble_eq_true rfl)) dL_law_657 ⟨(show 47 + k + 1 ≤ 1074 by omega), (show 8436 + 6 * k + 6 ≤ 11629 by omega)⟩) hS (fun q _ h => hFc q h) hFc (fun r1 u t H1 locs ht hvm hw hB hz1 hk1 hS => ?_)
  obtain ⟨hP1, hK1, hD1⟩ := hB
  rw [ht] at hP1
  obtain ⟨hP, hD⟩ := t_jfst (b := (q, .inl (cL, 1, .inr (.inl o))) :: Wo) (c := Wm) hP hD hk1 hFc hP1 hD1
  obtain ⟨o1, W1, hu, hwc⟩ := hw
  subst hu
  have hP : va_P D vwCl ((q, .inl (cL, 1, .inr (.inl o1))) :: (W1 ++ Wm)) H1 := hP
  have hD : va_D (fun q : Nat => s.heap.size ≤ q) ((q, .inl (cL, 1, .inr (.inl o1))) :: (W1 ++ Wm)) := hD
  clear hP1 hD1 hK1 hPc hDc hFc hvm hz1 hk1 ht
  generalize H1 = H at hP hS ⊢
  refine lv_istore (lv' := [(5, .int r1), (0, .ref b), (1, .ref h), (2, .ref g), (3, .ref q), (4, .int (nI (5 * k)))]) hx hb dL_law_660 hl (by decide) rfl (fun ls hl => ?_)
  refine lv_aload_n hx hb dL_law_662 rfl (lv_at hl 3 rfl) ?_
  refine lv_aload_n hx hb dL_law_663 rfl (lv_at hl 1 rfl) ?_
  refine lv_iload hx hb dL_law_664 (lv_at hl 5 rfl) ?_
  refine lv_iconst (v := ((nI 1) : Int32)) hx hb dL_law_666 (by decide +kernel) ?_
  refine tv_iadd (a := 5 * k) (b := 1) hx hb dL_law_667 ?_
  refine va_sld hx hb hXs hbl hbA hS (vp_in_nI (by omega) (by omega)) dL_law_668 ?_
  refine tv_re (y := xs ((5 * k) + 1)) (by rw [nI_clamp (by omega)]) ?_
  refine lv_aload_n hx hb dL_law_669 rfl (lv_at hl 1 rfl) ?_
  refine lv_iload hx hb dL_law_670 (lv_at hl 5 rfl) ?_
  refine lv_iconst (v := ((nI 2) : Int32)) hx hb dL_law_672 (by decide +kernel) ?_
  refine tv_iadd (a := 5 * k) (b := 2) hx hb dL_law_673 ?_
  refine va_sld hx hb hXs hbl hbA hS (vp_in_nI (by omega) (by omega)) dL_law_674 ?_
  refine tv_re (y := xs ((5 * k) + 2)) (by rw [nI_clamp (by omega)]) ?_
  have hPc : va_P D vwCl Wm H := t_endP (a := (q, .inl (cL, 1, .inr (.inl o1))) :: W1) hP
  have hDc : va_D (fun q : Nat => s.heap.size ≤ q) Wm := t_endD (a := (q, .inl (cL, 1, .inr (.inl o1))) :: W1) hD
  have hFc := t_endF (a := (q, .inl (cL, 1, .inr (.inl o1))) :: W1) hD hS hA
  refine va_calli (va_runV (As := [.int (xs ((5 * k) + 1)), .int (xs ((5 * k) + 2))]) (rest := []) ⟨hx, hb, hml, hown, hts⟩ (c_X9_energy l D cI cL Wm g y n th un ju ch tm ba thr (xs ((5 * k) + 1)) (xs ((5 * k) + 2)) hM H.size) (cwV 2 hts gL_law_X9_energy rfl rfl rfl (by decide +kernel) ⟨Nat.le_of_ble_eq_true rfl, Nat.le_of_ble_eq_true rfl⟩) ⟨t_wPc_blind, va_recv hK hPc (ci := 9) (q0 := 0) rfl hfsm, fun U hU hW => ⟨rfl, by rw [hU], by rw [hU]; exact hPc, va_K.moved hW.alike hK, hDc.weaken (fun _ _ _ _ => trivial)⟩⟩ rfl rfl hl.1 rfl (lv_room (Nat.le_of_ble_eq_true rfl)) dL_law_675 ⟨(show 47 + k + 1 + 0 ≤ 1074 by omega), (show 8436 + 6 * k + 6 + 0 ≤ 11629 by omega)⟩) hS (fun q _ h => hFc q h) hFc (fun b1 u t H1 locs ht hvm hw hB hz1 hk1 hS => ?_)
  obtain ⟨hP1, hK1, hD1⟩ := hB
  rw [ht] at hP1
  obtain ⟨hP, hD⟩ := t_jend (a := (q, .inl (cL, 1, .inr (.inl o1))) :: W1) hP hD hk1 hFc hP1 hD1
  have hwm := hw
  obtain ⟨M1, huM1⟩ : ∃ W1, W1 = u := ⟨_, rfl⟩
  rw [← huM1] at hP hD hwm
  have hP : va_P D vwCl ((q, .inl (cL, 1, .inr (.inl o1))) :: (W1 ++ M1)) H1 := hP
  have hD : va_D (fun q : Nat => s.heap.size ≤ q) ((q, .inl (cL, 1, .inr (.inl o1))) :: (W1 ++ M1)) := hD
  clear hP1 hD1 hK1 hPc hDc hFc hvm hz1 hk1 ht
  generalize H1 = H at hP hS ⊢
  obtain ⟨h0, x2, y2, n2, th2, un2, ju2, ch2, tm2, ba2, hO2, hM2, hag2⟩ := t_pr_energy (r := r1)  hag hn hwc hwm
  refine lv_istore (lv' := [(6, .int b1), (5, .int r1), (0, .ref b), (1, .ref h), (2, .ref g), (3, .ref q), (4, .int (nI (5 * k)))]) hx hb dL_law_678 hl (by decide) rfl (fun ls hl => ?_)
  refine lv_aload_n hx hb dL_law_680 rfl (lv_at hl 4 rfl) ?_
  have hPc : va_P D vwCl M1 H := t_endP (a := (q, .inl (cL, 1, .inr (.inl o1))) :: W1) hP
  have hDc : va_D (fun q : Nat => s.heap.size ≤ q) M1 := t_endD (a := (q, .inl (cL, 1, .inr (.inl o1))) :: W1) hD
  have hFc := t_endF (a := (q, .inl (cL, 1, .inr (.inl o1))) :: W1) hD hS hA
  obtain ⟨fsm, hfsm⟩ := t_mob_hd hM2
  refine va_calli (va_runV (As := []) (rest := []) ⟨hx, hb, hml, hown, hts⟩ (c_X9_thrown l D cI cL M1 g y2 n2 th2 un2 ju2 ch2 tm2 ba2 r1 hM2 H.size) (cwV 0 hts gL_law_X9_thrown rfl rfl rfl (by decide +kernel) ⟨Nat.le_of_ble_eq_true rfl, Nat.le_of_ble_eq_true rfl⟩) ⟨t_wPc_blind, va_recv hK hPc (ci := 9) (q0 := 0) rfl hfsm, fun U hU hW => ⟨rfl, by rw [hU], by rw [hU]; exact hPc, va_K.moved hW.alike hK, hDc.weaken (fun _ _ _ _ => trivial)⟩⟩ rfl rfl hl.1 rfl (lv_room (Nat.le_of_ble_eq_true rfl)) dL_law_681 ⟨(show 47 + k + 1 + 0 ≤ 1074 by omega), (show 8436 + 6 * k + 6 + 0 ≤ 11629 by omega)⟩) hS (fun q _ h => hFc q h) hFc (fun r3 u t H1 locs ht hvm hw hB hz1 hk1 hS => ?_)
  obtain ⟨hP1, hK1, hD1⟩ := hB
  rw [ht] at hP1
  obtain ⟨hP, hD⟩ := t_jend (a := (q, .inl (cL, 1, .inr (.inl o1))) :: W1) hP hD hk1 hFc hP1 hD1
  obtain ⟨M2, huM2⟩ : ∃ W1, W1 = u := ⟨_, rfl⟩
  rw [← huM2] at hP hD hw
  have hP : va_P D vwCl ((q, .inl (cL, 1, .inr (.inl o1))) :: (W1 ++ M2)) H1 := hP
  have hD : va_D (fun q : Nat => s.heap.size ≤ q) ((q, .inl (cL, 1, .inr (.inl o1))) :: (W1 ++ M2)) := hD
  clear hP1 hD1 hK1 hPc hDc hFc hvm hz1 hk1 ht
  generalize H1 = H at hP hS ⊢
  obtain ⟨h3, hM3⟩ := hw
  refine tv_re (y := r1) h3 ?_
  have hLI2 : t_LI cI h g W1 M2 := t_LJ_LI hO2 hM3 hag2
  refine lv_iload hx hb dL_law_684 (lv_at hl 1 rfl) ?_
  refine lv_icmp_eq (tgt := 691) hx hb dL_law_686 (by decide) (fun q686_1 => ?_) (fun q686_1 => absurd rfl q686_1)
  refine lv_iload hx hb dL_law_691 (lv_at hl 1 rfl) ?_
  refine lv_if_ne (tgt := 708) hx hb dL_law_693 (by decide) (fun q693_2 => ?_) (fun q693_2 => ?_)
  · refine lv_goto (tgt := 1520) hx hb dL_law_708 (by decide) ?_
    exact kk _ _ _ _ _ _ hLI2 hP hD hS (lv_sub hl [2, 3, 4, 5, 6] rfl)
  · refine lv_aload_n hx hb dL_law_696 rfl (lv_at hl 5 rfl) ?_
    refine lv_iconst (v := ((nI 0) : Int32)) hx hb dL_law_697 (by decide +kernel) ?_
    refine va_lald hx hb hK hP 0 1 rfl rfl (vp_in_nI (by decide) (by decide)) dL_law_698 ?_
    refine tv_reL (y := o1 0) (by rw [nI_clamp (by decide)]) ?_
    refine lv_iload hx hb dL_law_699 (lv_at hl 0 rfl) ?_
    refine lv_i2l hx hb dL_law_701 rfl ?_
    refine W.lcmp hx hb dL_law_702 ?_
    refine tv_cmp_eq (tgt := 708) hx hb dL_law_703 (by decide) (fun q703_3 => ?_) (fun q703_3 => absurd (h0 (q693_2.trans nI_0.symm)) q703_3)
    refine lv_goto (tgt := 1520) hx hb dL_law_708 (by decide) ?_
    exact kk _ _ _ _ _ _ hLI2 hP hD hS (lv_sub hl [2, 3, 4, 5, 6] rfl)

set_option maxHeartbeats 4000000 in
set_option maxRecDepth 100000 in
theorem law_c11 {p : Program} {l : Launch} {e : Env} {s : State} {m : MethodId} {below : List Frame} {meth : Method} {c : Code} {D : va_G} {cI cL : ClassId} {b L : Nat} {xs : Nat → Int32} {h g q k : Nat} {o : Nat → Int64} {Wo Wm : va_W} {H : Heap} {locs : List Loc} {ls : Array Slot} (hl0 : l.stackTraces = false) (C0 : lw_At p s m meth c b L xs) (hL : L ≤ 2560) (hk : 5 * k + 5 ≤ L) (hK : va_K D vwCl [(cI, .int), (cL, .long)] s) (hX : t_X (fun q : Nat => s.heap.size ≤ q) s s.heap) (hLI : t_LI cI h g Wo Wm) (hP : va_P D vwCl ((q, .inl (cL, 1, .inr (.inl o))) :: (Wo ++ Wm)) H) (hD : va_D (fun q : Nat => s.heap.size ≤ q) ((q, .inl (cL, 1, .inr (.inl o))) :: (Wo ++ Wm))) (hS : va_S (fun q : Nat => s.heap.size ≤ q) s.heap H locs) (hl : lv_has ls 7 [(0, .ref b), (1, .ref h), (2, .ref g), (3, .ref q), (4, .int (nI (5 * k)))]) (kk : ∀ (o : Nat → Int64) (Wo Wm : va_W) (H : Heap) (locs : List Loc) (ls : Array Slot), t_LI cI h g Wo Wm → va_P D vwCl ((q, .inl (cL, 1, .inr (.inl o))) :: (Wo ++ Wm)) H → va_D (fun q : Nat => s.heap.size ≤ q) ((q, .inl (cL, 1, .inr (.inl o))) :: (Wo ++ Wm)) → va_S (fun q : Nat => s.heap.size ≤ q) s.heap H locs → lv_has ls 7 [(0, .ref b), (1, .ref h), (2, .ref g), (3, .ref q), (4, .int (nI (5 * k)))] → W p l e room_1 s m #[Value.ref b] below meth c H locs (47 + (k + 1)) (8436 + 6 * (k + 1)) (lw_Z below #[Value.ref b] s) (F0 m 1520 ls [])) : W p l e room_1 s m #[Value.ref b] below meth c H locs (47 + k) (8436 + 6 * k) (lw_Z below #[Value.ref b] s) (F0 m 711 ls []) := by
  obtain ⟨hx, hb, hr, hml, hown, hts, hXs, hbl, hlocks, hgv⟩ := id C0
  have hown : s.vm.findClass RL = some m.cls := hown
  have hts : ∀ w ∈ wsL_law, w.before #[Value.ref b] s = true := fun w h => hts w (wsL_law_in w h)
  have hA : ∀ q : Nat, s.heap.size ≤ q → (fun q : Nat => s.heap.size ≤ q) q := fun _ h => h
  have hbA : ¬ (fun q : Nat => s.heap.size ≤ q) b := Nat.not_le.mpr hbl
  obtain ⟨x, y, n, th, un, ju, ch, tm, ba, thr, hO, hM, hag⟩ := hLI
  have hn := t_mob_n hM
  obtain ⟨fs, hfs⟩ := t_obj_hd hO
  obtain ⟨fsm, hfsm⟩ := t_mob_hd hM
  refine lv_aload_n hx hb dL_law_711 rfl (lv_at hl 1 rfl) ?_
  refine lv_aload_n hx hb dL_law_712 rfl (lv_at hl 0 rfl) ?_
  refine lv_iload hx hb dL_law_713 (lv_at hl 4 rfl) ?_
  refine lv_iconst (v := ((nI 1) : Int32)) hx hb dL_law_715 (by decide +kernel) ?_
  refine tv_iadd (a := 5 * k) (b := 1) hx hb dL_law_716 ?_
  refine va_sld hx hb hXs hbl hbA hS (vp_in_nI (by omega) (by omega)) dL_law_717 ?_
  refine tv_re (y := xs ((5 * k) + 1)) (by rw [nI_clamp (by omega)]) ?_
  refine lv_aload_n hx hb dL_law_718 rfl (lv_at hl 0 rfl) ?_
  refine lv_iload hx hb dL_law_719 (lv_at hl 4 rfl) ?_
  refine lv_iconst (v := ((nI 2) : Int32)) hx hb dL_law_721 (by decide +kernel) ?_
  refine tv_iadd (a := 5 * k) (b := 2) hx hb dL_law_722 ?_
  refine va_sld hx hb hXs hbl hbA hS (vp_in_nI (by omega) (by omega)) dL_law_723 ?_
  refine tv_re (y := xs ((5 * k) + 2)) (by rw [nI_clamp (by omega)]) ?_
  refine lv_aload_n hx hb dL_law_724 rfl (lv_at hl 3 rfl) ?_
  have hPc : va_P D vwCl ((q, .inl (cL, 1, .inr (.inl o))) :: Wo) H := t_fstP (b := (q, .inl (cL, 1, .inr (.inl o))) :: Wo) (c := Wm) hP
  have hDc : va_D (fun q : Nat => s.heap.size ≤ q) ((q, .inl (cL, 1, .inr (.inl o))) :: Wo) := t_fstD (b := (q, .inl (cL, 1, .inr (.inl o))) :: Wo) (c := Wm) hD
  have hFc := t_fstF (b := (q, .inl (cL, 1, .inr (.inl o))) :: Wo) (c := Wm) hD hS hA
  refine va_calli (vx_runSW (As := [.ref h, .int (xs ((5 * k) + 1)), .int (xs ((5 * k) + 2)), .ref q]) (rest := []) ⟨hx, hb, hml, hown, hts⟩ (c_L_autocorrelation l hl0 D cI cL Wo h x n th un ju ch tm ba (xs ((5 * k) + 1)) (xs ((5 * k) + 2)) q o hO H.size) (vx_cwSW 4 hts gL_law_L_autocorrelation rfl rfl rfl (by decide +kernel) ⟨Nat.le_of_ble_eq_true rfl, Nat.le_of_ble_eq_true rfl⟩) ⟨t_wPcX_blind, fun U hU hW => ⟨rfl, by rw [hU], by rw [hU]; exact hPc, va_K.moved hW.alike hK, hDc.weaken (fun _ _ _ _ => trivial), by rw [hU]; exact ((hX.kept hS.2.1).narrow hFc).moved hW⟩⟩ rfl rfl hl.1 rfl (lv_room (Nat.le_of_ble_eq_true rfl)) dL_law_725 ⟨(show 47 + k + 1 ≤ 1074 by omega), (show 8436 + 6 * k + 6 ≤ 11629 by omega)⟩) hS (fun q _ h => hFc q h) hFc (fun r1 u t H1 locs ht hvm hw hB hz1 hk1 hS => ?_)
  obtain ⟨hP1, hK1, hD1⟩ := hB
  rw [ht] at hP1
  obtain ⟨hP, hD⟩ := t_jfst (b := (q, .inl (cL, 1, .inr (.inl o))) :: Wo) (c := Wm) hP hD hk1 hFc hP1 hD1
  obtain ⟨o1, W1, hu, hwc⟩ := hw
  subst hu
  have hP : va_P D vwCl ((q, .inl (cL, 1, .inr (.inl o1))) :: (W1 ++ Wm)) H1 := hP
  have hD : va_D (fun q : Nat => s.heap.size ≤ q) ((q, .inl (cL, 1, .inr (.inl o1))) :: (W1 ++ Wm)) := hD
  clear hP1 hD1 hK1 hPc hDc hFc hvm hz1 hk1 ht
  generalize H1 = H at hP hS ⊢
  refine lv_istore (lv' := [(5, .int r1), (0, .ref b), (1, .ref h), (2, .ref g), (3, .ref q), (4, .int (nI (5 * k)))]) hx hb dL_law_728 hl (by decide) rfl (fun ls hl => ?_)
  refine lv_aload_n hx hb dL_law_730 rfl (lv_at hl 3 rfl) ?_
  refine lv_aload_n hx hb dL_law_731 rfl (lv_at hl 1 rfl) ?_
  refine lv_iload hx hb dL_law_732 (lv_at hl 5 rfl) ?_
  refine lv_iconst (v := ((nI 1) : Int32)) hx hb dL_law_734 (by decide +kernel) ?_
  refine tv_iadd (a := 5 * k) (b := 1) hx hb dL_law_735 ?_
  refine va_sld hx hb hXs hbl hbA hS (vp_in_nI (by omega) (by omega)) dL_law_736 ?_
  refine tv_re (y := xs ((5 * k) + 1)) (by rw [nI_clamp (by omega)]) ?_
  refine lv_aload_n hx hb dL_law_737 rfl (lv_at hl 1 rfl) ?_
  refine lv_iload hx hb dL_law_738 (lv_at hl 5 rfl) ?_
  refine lv_iconst (v := ((nI 2) : Int32)) hx hb dL_law_740 (by decide +kernel) ?_
  refine tv_iadd (a := 5 * k) (b := 2) hx hb dL_law_741 ?_
  refine va_sld hx hb hXs hbl hbA hS (vp_in_nI (by omega) (by omega)) dL_law_742 ?_
  refine tv_re (y := xs ((5 * k) + 2)) (by rw [nI_clamp (by omega)]) ?_
  have hPc : va_P D vwCl Wm H := t_endP (a := (q, .inl (cL, 1, .inr (.inl o1))) :: W1) hP
  have hDc : va_D (fun q : Nat => s.heap.size ≤ q) Wm := t_endD (a := (q, .inl (cL, 1, .inr (.inl o1))) :: W1) hD
  have hFc := t_endF (a := (q, .inl (cL, 1, .inr (.inl o1))) :: W1) hD hS hA
  refine va_calli (va_runV (As := [.int (xs ((5 * k) + 1)), .int (xs ((5 * k) + 2))]) (rest := []) ⟨hx, hb, hml, hown, hts⟩ (c_X9_autocorrelation l D cI cL Wm g y n th un ju ch tm ba thr (xs ((5 * k) + 1)) (xs ((5 * k) + 2)) hM H.size) (cwV 2 hts gL_law_X9_autocorrelation rfl rfl rfl (by decide +kernel) ⟨Nat.le_of_ble_eq_true rfl, Nat.le_of_ble_eq_true rfl⟩) ⟨t_wPc_blind, va_recv hK hPc (ci := 9) (q0 := 0) rfl hfsm, fun U hU hW => ⟨rfl, by rw [hU], by rw [hU]; exact hPc, va_K.moved hW.alike hK, hDc.weaken (fun _ _ _ _ => trivial)⟩⟩ rfl rfl hl.1 rfl (lv_room (Nat.le_of_ble_eq_true rfl)) dL_law_743 ⟨(show 47 + k + 1 + 0 ≤ 1074 by omega), (show 8436 + 6 * k + 6 + 0 ≤ 11629 by omega)⟩) hS (fun q _ h => hFc q h) hFc (fun b1 u t H1 locs ht hvm hw hB hz1 hk1 hS => ?_)
  obtain ⟨hP1, hK1, hD1⟩ := hB
  rw [ht] at hP1
  obtain ⟨hP, hD⟩ := t_jend (a := (q, .inl (cL, 1, .inr (.inl o1))) :: W1) hP hD hk1 hFc hP1 hD1
  have hwm := hw
  obtain ⟨M1, huM1⟩ : ∃ W1, W1 = u := ⟨_, rfl⟩
  rw [← huM1] at hP hD hwm
  have hP : va_P D vwCl ((q, .inl (cL, 1, .inr (.inl o1))) :: (W1 ++ M1)) H1 := hP
  have hD : va_D (fun q : Nat => s.heap.size ≤ q) ((q, .inl (cL, 1, .inr (.inl o1))) :: (W1 ++ M1)) := hD
  clear hP1 hD1 hK1 hPc hDc hFc hvm hz1 hk1 ht
  generalize H1 = H at hP hS ⊢
  obtain ⟨h0, x2, y2, n2, th2, un2, ju2, ch2, tm2, ba2, hO2, hM2, hag2⟩ := t_pr_autocorrelation (r := r1)  hag hn hwc hwm
  refine lv_istore (lv' := [(6, .int b1), (5, .int r1), (0, .ref b), (1, .ref h), (2, .ref g), (3, .ref q), (4, .int (nI (5 * k)))]) hx hb dL_law_746 hl (by decide) rfl (fun ls hl => ?_)
  refine lv_aload_n hx hb dL_law_748 rfl (lv_at hl 4 rfl) ?_
  have hPc : va_P D vwCl M1 H := t_endP (a := (q, .inl (cL, 1, .inr (.inl o1))) :: W1) hP
  have hDc : va_D (fun q : Nat => s.heap.size ≤ q) M1 := t_endD (a := (q, .inl (cL, 1, .inr (.inl o1))) :: W1) hD
  have hFc := t_endF (a := (q, .inl (cL, 1, .inr (.inl o1))) :: W1) hD hS hA
  obtain ⟨fsm, hfsm⟩ := t_mob_hd hM2
  refine va_calli (va_runV (As := []) (rest := []) ⟨hx, hb, hml, hown, hts⟩ (c_X9_thrown l D cI cL M1 g y2 n2 th2 un2 ju2 ch2 tm2 ba2 r1 hM2 H.size) (cwV 0 hts gL_law_X9_thrown rfl rfl rfl (by decide +kernel) ⟨Nat.le_of_ble_eq_true rfl, Nat.le_of_ble_eq_true rfl⟩) ⟨t_wPc_blind, va_recv hK hPc (ci := 9) (q0 := 0) rfl hfsm, fun U hU hW => ⟨rfl, by rw [hU], by rw [hU]; exact hPc, va_K.moved hW.alike hK, hDc.weaken (fun _ _ _ _ => trivial)⟩⟩ rfl rfl hl.1 rfl (lv_room (Nat.le_of_ble_eq_true rfl)) dL_law_749 ⟨(show 47 + k + 1 + 0 ≤ 1074 by omega), (show 8436 + 6 * k + 6 + 0 ≤ 11629 by omega)⟩) hS (fun q _ h => hFc q h) hFc (fun r3 u t H1 locs ht hvm hw hB hz1 hk1 hS => ?_)
  obtain ⟨hP1, hK1, hD1⟩ := hB
  rw [ht] at hP1
  obtain ⟨hP, hD⟩ := t_jend (a := (q, .inl (cL, 1, .inr (.inl o1))) :: W1) hP hD hk1 hFc hP1 hD1
  obtain ⟨M2, huM2⟩ : ∃ W1, W1 = u := ⟨_, rfl⟩
  rw [← huM2] at hP hD hw
  have hP : va_P D vwCl ((q, .inl (cL, 1, .inr (.inl o1))) :: (W1 ++ M2)) H1 := hP
  have hD : va_D (fun q : Nat => s.heap.size ≤ q) ((q, .inl (cL, 1, .inr (.inl o1))) :: (W1 ++ M2)) := hD
  clear hP1 hD1 hK1 hPc hDc hFc hvm hz1 hk1 ht
  generalize H1 = H at hP hS ⊢
  obtain ⟨h3, hM3⟩ := hw
  refine tv_re (y := r1) h3 ?_
  have hLI2 : t_LI cI h g W1 M2 := t_LJ_LI hO2 hM3 hag2
  refine lv_iload hx hb dL_law_752 (lv_at hl 1 rfl) ?_
  refine lv_icmp_eq (tgt := 759) hx hb dL_law_754 (by decide) (fun q754_1 => ?_) (fun q754_1 => absurd rfl q754_1)
  refine lv_iload hx hb dL_law_759 (lv_at hl 1 rfl) ?_
  refine lv_if_ne (tgt := 776) hx hb dL_law_761 (by decide) (fun q761_2 => ?_) (fun q761_2 => ?_)
  · refine lv_goto (tgt := 1520) hx hb dL_law_776 (by decide) ?_
    exact kk _ _ _ _ _ _ hLI2 hP hD hS (lv_sub hl [2, 3, 4, 5, 6] rfl)
  · refine lv_aload_n hx hb dL_law_764 rfl (lv_at hl 5 rfl) ?_
    refine lv_iconst (v := ((nI 0) : Int32)) hx hb dL_law_765 (by decide +kernel) ?_
    refine va_lald hx hb hK hP 0 1 rfl rfl (vp_in_nI (by decide) (by decide)) dL_law_766 ?_
    refine tv_reL (y := o1 0) (by rw [nI_clamp (by decide)]) ?_
    refine lv_iload hx hb dL_law_767 (lv_at hl 0 rfl) ?_
    refine lv_i2l hx hb dL_law_769 rfl ?_
    refine W.lcmp hx hb dL_law_770 ?_
    refine tv_cmp_eq (tgt := 776) hx hb dL_law_771 (by decide) (fun q771_3 => ?_) (fun q771_3 => absurd (h0 (q761_2.trans nI_0.symm)) q771_3)
    refine lv_goto (tgt := 1520) hx hb dL_law_776 (by decide) ?_
    exact kk _ _ _ _ _ _ hLI2 hP hD hS (lv_sub hl [2, 3, 4, 5, 6] rfl)

set_option maxHeartbeats 4000000 in
set_option maxRecDepth 100000 in
theorem law_c12 {p : Program} {l : Launch} {e : Env} {s : State} {m : MethodId} {below : List Frame} {meth : Method} {c : Code} {D : va_G} {cI cL : ClassId} {b L : Nat} {xs : Nat → Int32} {h g q k : Nat} {o : Nat → Int64} {Wo Wm : va_W} {H : Heap} {locs : List Loc} {ls : Array Slot} (hl0 : l.stackTraces = false) (C0 : lw_At p s m meth c b L xs) (hL : L ≤ 2560) (hk : 5 * k + 5 ≤ L) (hK : va_K D vwCl [(cI, .int), (cL, .long)] s) (hX : t_X (fun q : Nat => s.heap.size ≤ q) s s.heap) (hLI : t_LI cI h g Wo Wm) (hP : va_P D vwCl ((q, .inl (cL, 1, .inr (.inl o))) :: (Wo ++ Wm)) H) (hD : va_D (fun q : Nat => s.heap.size ≤ q) ((q, .inl (cL, 1, .inr (.inl o))) :: (Wo ++ Wm))) (hS : va_S (fun q : Nat => s.heap.size ≤ q) s.heap H locs) (hl : lv_has ls 7 [(0, .ref b), (1, .ref h), (2, .ref g), (3, .ref q), (4, .int (nI (5 * k)))]) (kk : ∀ (o : Nat → Int64) (Wo Wm : va_W) (H : Heap) (locs : List Loc) (ls : Array Slot), t_LI cI h g Wo Wm → va_P D vwCl ((q, .inl (cL, 1, .inr (.inl o))) :: (Wo ++ Wm)) H → va_D (fun q : Nat => s.heap.size ≤ q) ((q, .inl (cL, 1, .inr (.inl o))) :: (Wo ++ Wm)) → va_S (fun q : Nat => s.heap.size ≤ q) s.heap H locs → lv_has ls 7 [(0, .ref b), (1, .ref h), (2, .ref g), (3, .ref q), (4, .int (nI (5 * k)))] → W p l e room_1 s m #[Value.ref b] below meth c H locs (47 + (k + 1)) (8436 + 6 * (k + 1)) (lw_Z below #[Value.ref b] s) (F0 m 1520 ls [])) : W p l e room_1 s m #[Value.ref b] below meth c H locs (47 + k) (8436 + 6 * k) (lw_Z below #[Value.ref b] s) (F0 m 779 ls []) := by
  obtain ⟨hx, hb, hr, hml, hown, hts, hXs, hbl, hlocks, hgv⟩ := id C0
  have hown : s.vm.findClass RL = some m.cls := hown
  have hts : ∀ w ∈ wsL_law, w.before #[Value.ref b] s = true := fun w h => hts w (wsL_law_in w h)
  have hA : ∀ q : Nat, s.heap.size ≤ q → (fun q : Nat => s.heap.size ≤ q) q := fun _ h => h
  have hbA : ¬ (fun q : Nat => s.heap.size ≤ q) b := Nat.not_le.mpr hbl
  obtain ⟨x, y, n, th, un, ju, ch, tm, ba, thr, hO, hM, hag⟩ := hLI
  have hn := t_mob_n hM
  obtain ⟨fs, hfs⟩ := t_obj_hd hO
  obtain ⟨fsm, hfsm⟩ := t_mob_hd hM
  refine lv_aload_n hx hb dL_law_779 rfl (lv_at hl 1 rfl) ?_
  refine lv_aload_n hx hb dL_law_780 rfl (lv_at hl 0 rfl) ?_
  refine lv_iload hx hb dL_law_781 (lv_at hl 4 rfl) ?_
  refine lv_iconst (v := ((nI 1) : Int32)) hx hb dL_law_783 (by decide +kernel) ?_
  refine tv_iadd (a := 5 * k) (b := 1) hx hb dL_law_784 ?_
  refine va_sld hx hb hXs hbl hbA hS (vp_in_nI (by omega) (by omega)) dL_law_785 ?_
  refine tv_re (y := xs ((5 * k) + 1)) (by rw [nI_clamp (by omega)]) ?_
  refine lv_aload_n hx hb dL_law_786 rfl (lv_at hl 0 rfl) ?_
  refine lv_iload hx hb dL_law_787 (lv_at hl 4 rfl) ?_
  refine lv_iconst (v := ((nI 2) : Int32)) hx hb dL_law_789 (by decide +kernel) ?_
  refine tv_iadd (a := 5 * k) (b := 2) hx hb dL_law_790 ?_
  refine va_sld hx hb hXs hbl hbA hS (vp_in_nI (by omega) (by omega)) dL_law_791 ?_
  refine tv_re (y := xs ((5 * k) + 2)) (by rw [nI_clamp (by omega)]) ?_
  refine lv_aload_n hx hb dL_law_792 rfl (lv_at hl 3 rfl) ?_
  have hPc : va_P D vwCl ((q, .inl (cL, 1, .inr (.inl o))) :: Wo) H := t_fstP (b := (q, .inl (cL, 1, .inr (.inl o))) :: Wo) (c := Wm) hP
  have hDc : va_D (fun q : Nat => s.heap.size ≤ q) ((q, .inl (cL, 1, .inr (.inl o))) :: Wo) := t_fstD (b := (q, .inl (cL, 1, .inr (.inl o))) :: Wo) (c := Wm) hD
  have hFc := t_fstF (b := (q, .inl (cL, 1, .inr (.inl o))) :: Wo) (c := Wm) hD hS hA
  refine va_calli (vx_runSW (As := [.ref h, .int (xs ((5 * k) + 1)), .int (xs ((5 * k) + 2)), .ref q]) (rest := []) ⟨hx, hb, hml, hown, hts⟩ (c_L_difference l hl0 D cI cL Wo h x n th un ju ch tm ba (xs ((5 * k) + 1)) (xs ((5 * k) + 2)) q o hO H.size) (vx_cwSW 4 hts gL_law_L_difference rfl rfl rfl (by decide +kernel) ⟨Nat.le_of_ble_eq_true rfl, Nat.le_of_ble_eq_true rfl⟩) ⟨t_wPcX_blind, fun U hU hW => ⟨rfl, by rw [hU], by rw [hU]; exact hPc, va_K.moved hW.alike hK, hDc.weaken (fun _ _ _ _ => trivial), by rw [hU]; exact ((hX.kept hS.2.1).narrow hFc).moved hW⟩⟩ rfl rfl hl.1 rfl (lv_room (Nat.le_of_ble_eq_true rfl)) dL_law_793 ⟨(show 47 + k + 1 ≤ 1074 by omega), (show 8436 + 6 * k + 6 ≤ 11629 by omega)⟩) hS (fun q _ h => hFc q h) hFc (fun r1 u t H1 locs ht hvm hw hB hz1 hk1 hS => ?_)
  obtain ⟨hP1, hK1, hD1⟩ := hB
  rw [ht] at hP1
  obtain ⟨hP, hD⟩ := t_jfst (b := (q, .inl (cL, 1, .inr (.inl o))) :: Wo) (c := Wm) hP hD hk1 hFc hP1 hD1
  obtain ⟨o1, W1, hu, hwc⟩ := hw
  subst hu
  have hP : va_P D vwCl ((q, .inl (cL, 1, .inr (.inl o1))) :: (W1 ++ Wm)) H1 := hP
  have hD : va_D (fun q : Nat => s.heap.size ≤ q) ((q, .inl (cL, 1, .inr (.inl o1))) :: (W1 ++ Wm)) := hD
  clear hP1 hD1 hK1 hPc hDc hFc hvm hz1 hk1 ht
  generalize H1 = H at hP hS ⊢
  refine lv_istore (lv' := [(5, .int r1), (0, .ref b), (1, .ref h), (2, .ref g), (3, .ref q), (4, .int (nI (5 * k)))]) hx hb dL_law_796 hl (by decide) rfl (fun ls hl => ?_)
  refine lv_aload_n hx hb dL_law_798 rfl (lv_at hl 3 rfl) ?_
  refine lv_aload_n hx hb dL_law_799 rfl (lv_at hl 1 rfl) ?_
  refine lv_iload hx hb dL_law_800 (lv_at hl 5 rfl) ?_
  refine lv_iconst (v := ((nI 1) : Int32)) hx hb dL_law_802 (by decide +kernel) ?_
  refine tv_iadd (a := 5 * k) (b := 1) hx hb dL_law_803 ?_
  refine va_sld hx hb hXs hbl hbA hS (vp_in_nI (by omega) (by omega)) dL_law_804 ?_
  refine tv_re (y := xs ((5 * k) + 1)) (by rw [nI_clamp (by omega)]) ?_
  refine lv_aload_n hx hb dL_law_805 rfl (lv_at hl 1 rfl) ?_
  refine lv_iload hx hb dL_law_806 (lv_at hl 5 rfl) ?_
  refine lv_iconst (v := ((nI 2) : Int32)) hx hb dL_law_808 (by decide +kernel) ?_
  refine tv_iadd (a := 5 * k) (b := 2) hx hb dL_law_809 ?_
  refine va_sld hx hb hXs hbl hbA hS (vp_in_nI (by omega) (by omega)) dL_law_810 ?_
  refine tv_re (y := xs ((5 * k) + 2)) (by rw [nI_clamp (by omega)]) ?_
  have hPc : va_P D vwCl Wm H := t_endP (a := (q, .inl (cL, 1, .inr (.inl o1))) :: W1) hP
  have hDc : va_D (fun q : Nat => s.heap.size ≤ q) Wm := t_endD (a := (q, .inl (cL, 1, .inr (.inl o1))) :: W1) hD
  have hFc := t_endF (a := (q, .inl (cL, 1, .inr (.inl o1))) :: W1) hD hS hA
  refine va_calli (va_runV (As := [.int (xs ((5 * k) + 1)), .int (xs ((5 * k) + 2))]) (rest := []) ⟨hx, hb, hml, hown, hts⟩ (c_X9_difference l D cI cL Wm g y n th un ju ch tm ba thr (xs ((5 * k) + 1)) (xs ((5 * k) + 2)) hM H.size) (cwV 2 hts gL_law_X9_difference rfl rfl rfl (by decide +kernel) ⟨Nat.le_of_ble_eq_true rfl, Nat.le_of_ble_eq_true rfl⟩) ⟨t_wPc_blind, va_recv hK hPc (ci := 9) (q0 := 0) rfl hfsm, fun U hU hW => ⟨rfl, by rw [hU], by rw [hU]; exact hPc, va_K.moved hW.alike hK, hDc.weaken (fun _ _ _ _ => trivial)⟩⟩ rfl rfl hl.1 rfl (lv_room (Nat.le_of_ble_eq_true rfl)) dL_law_811 ⟨(show 47 + k + 1 + 0 ≤ 1074 by omega), (show 8436 + 6 * k + 6 + 0 ≤ 11629 by omega)⟩) hS (fun q _ h => hFc q h) hFc (fun b1 u t H1 locs ht hvm hw hB hz1 hk1 hS => ?_)
  obtain ⟨hP1, hK1, hD1⟩ := hB
  rw [ht] at hP1
  obtain ⟨hP, hD⟩ := t_jend (a := (q, .inl (cL, 1, .inr (.inl o1))) :: W1) hP hD hk1 hFc hP1 hD1
  have hwm := hw
  obtain ⟨M1, huM1⟩ : ∃ W1, W1 = u := ⟨_, rfl⟩
  rw [← huM1] at hP hD hwm
  have hP : va_P D vwCl ((q, .inl (cL, 1, .inr (.inl o1))) :: (W1 ++ M1)) H1 := hP
  have hD : va_D (fun q : Nat => s.heap.size ≤ q) ((q, .inl (cL, 1, .inr (.inl o1))) :: (W1 ++ M1)) := hD
  clear hP1 hD1 hK1 hPc hDc hFc hvm hz1 hk1 ht
  generalize H1 = H at hP hS ⊢
  obtain ⟨h0, x2, y2, n2, th2, un2, ju2, ch2, tm2, ba2, hO2, hM2, hag2⟩ := t_pr_difference (r := r1)  hag hn hwc hwm
  refine lv_istore (lv' := [(6, .int b1), (5, .int r1), (0, .ref b), (1, .ref h), (2, .ref g), (3, .ref q), (4, .int (nI (5 * k)))]) hx hb dL_law_814 hl (by decide) rfl (fun ls hl => ?_)
  refine lv_aload_n hx hb dL_law_816 rfl (lv_at hl 4 rfl) ?_
  have hPc : va_P D vwCl M1 H := t_endP (a := (q, .inl (cL, 1, .inr (.inl o1))) :: W1) hP
  have hDc : va_D (fun q : Nat => s.heap.size ≤ q) M1 := t_endD (a := (q, .inl (cL, 1, .inr (.inl o1))) :: W1) hD
  have hFc := t_endF (a := (q, .inl (cL, 1, .inr (.inl o1))) :: W1) hD hS hA
  obtain ⟨fsm, hfsm⟩ := t_mob_hd hM2
  refine va_calli (va_runV (As := []) (rest := []) ⟨hx, hb, hml, hown, hts⟩ (c_X9_thrown l D cI cL M1 g y2 n2 th2 un2 ju2 ch2 tm2 ba2 r1 hM2 H.size) (cwV 0 hts gL_law_X9_thrown rfl rfl rfl (by decide +kernel) ⟨Nat.le_of_ble_eq_true rfl, Nat.le_of_ble_eq_true rfl⟩) ⟨t_wPc_blind, va_recv hK hPc (ci := 9) (q0 := 0) rfl hfsm, fun U hU hW => ⟨rfl, by rw [hU], by rw [hU]; exact hPc, va_K.moved hW.alike hK, hDc.weaken (fun _ _ _ _ => trivial)⟩⟩ rfl rfl hl.1 rfl (lv_room (Nat.le_of_ble_eq_true rfl)) dL_law_817 ⟨(show 47 + k + 1 + 0 ≤ 1074 by omega), (show 8436 + 6 * k + 6 + 0 ≤ 11629 by omega)⟩) hS (fun q _ h => hFc q h) hFc (fun r3 u t H1 locs ht hvm hw hB hz1 hk1 hS => ?_)
  obtain ⟨hP1, hK1, hD1⟩ := hB
  rw [ht] at hP1
  obtain ⟨hP, hD⟩ := t_jend (a := (q, .inl (cL, 1, .inr (.inl o1))) :: W1) hP hD hk1 hFc hP1 hD1
  obtain ⟨M2, huM2⟩ : ∃ W1, W1 = u := ⟨_, rfl⟩
  rw [← huM2] at hP hD hw
  have hP : va_P D vwCl ((q, .inl (cL, 1, .inr (.inl o1))) :: (W1 ++ M2)) H1 := hP
  have hD : va_D (fun q : Nat => s.heap.size ≤ q) ((q, .inl (cL, 1, .inr (.inl o1))) :: (W1 ++ M2)) := hD
  clear hP1 hD1 hK1 hPc hDc hFc hvm hz1 hk1 ht
  generalize H1 = H at hP hS ⊢
  obtain ⟨h3, hM3⟩ := hw
  refine tv_re (y := r1) h3 ?_
  have hLI2 : t_LI cI h g W1 M2 := t_LJ_LI hO2 hM3 hag2
  refine lv_iload hx hb dL_law_820 (lv_at hl 1 rfl) ?_
  refine lv_icmp_eq (tgt := 827) hx hb dL_law_822 (by decide) (fun q822_1 => ?_) (fun q822_1 => absurd rfl q822_1)
  refine lv_iload hx hb dL_law_827 (lv_at hl 1 rfl) ?_
  refine lv_if_ne (tgt := 844) hx hb dL_law_829 (by decide) (fun q829_2 => ?_) (fun q829_2 => ?_)
  · refine lv_goto (tgt := 1520) hx hb dL_law_844 (by decide) ?_
    exact kk _ _ _ _ _ _ hLI2 hP hD hS (lv_sub hl [2, 3, 4, 5, 6] rfl)
  · refine lv_aload_n hx hb dL_law_832 rfl (lv_at hl 5 rfl) ?_
    refine lv_iconst (v := ((nI 0) : Int32)) hx hb dL_law_833 (by decide +kernel) ?_
    refine va_lald hx hb hK hP 0 1 rfl rfl (vp_in_nI (by decide) (by decide)) dL_law_834 ?_
    refine tv_reL (y := o1 0) (by rw [nI_clamp (by decide)]) ?_
    refine lv_iload hx hb dL_law_835 (lv_at hl 0 rfl) ?_
    refine lv_i2l hx hb dL_law_837 rfl ?_
    refine W.lcmp hx hb dL_law_838 ?_
    refine tv_cmp_eq (tgt := 844) hx hb dL_law_839 (by decide) (fun q839_3 => ?_) (fun q839_3 => absurd (h0 (q829_2.trans nI_0.symm)) q839_3)
    refine lv_goto (tgt := 1520) hx hb dL_law_844 (by decide) ?_
    exact kk _ _ _ _ _ _ hLI2 hP hD hS (lv_sub hl [2, 3, 4, 5, 6] rfl)

set_option maxHeartbeats 4000000 in
set_option maxRecDepth 100000 in
theorem law_c13 {p : Program} {l : Launch} {e : Env} {s : State} {m : MethodId} {below : List Frame} {meth : Method} {c : Code} {D : va_G} {cI cL : ClassId} {b L : Nat} {xs : Nat → Int32} {h g q k : Nat} {o : Nat → Int64} {Wo Wm : va_W} {H : Heap} {locs : List Loc} {ls : Array Slot} (hl0 : l.stackTraces = false) (C0 : lw_At p s m meth c b L xs) (hL : L ≤ 2560) (hk : 5 * k + 5 ≤ L) (hK : va_K D vwCl [(cI, .int), (cL, .long)] s) (hX : t_X (fun q : Nat => s.heap.size ≤ q) s s.heap) (hLI : t_LI cI h g Wo Wm) (hP : va_P D vwCl ((q, .inl (cL, 1, .inr (.inl o))) :: (Wo ++ Wm)) H) (hD : va_D (fun q : Nat => s.heap.size ≤ q) ((q, .inl (cL, 1, .inr (.inl o))) :: (Wo ++ Wm))) (hS : va_S (fun q : Nat => s.heap.size ≤ q) s.heap H locs) (hl : lv_has ls 7 [(0, .ref b), (1, .ref h), (2, .ref g), (3, .ref q), (4, .int (nI (5 * k)))]) (kk : ∀ (o : Nat → Int64) (Wo Wm : va_W) (H : Heap) (locs : List Loc) (ls : Array Slot), t_LI cI h g Wo Wm → va_P D vwCl ((q, .inl (cL, 1, .inr (.inl o))) :: (Wo ++ Wm)) H → va_D (fun q : Nat => s.heap.size ≤ q) ((q, .inl (cL, 1, .inr (.inl o))) :: (Wo ++ Wm)) → va_S (fun q : Nat => s.heap.size ≤ q) s.heap H locs → lv_has ls 7 [(0, .ref b), (1, .ref h), (2, .ref g), (3, .ref q), (4, .int (nI (5 * k)))] → W p l e room_1 s m #[Value.ref b] below meth c H locs (47 + (k + 1)) (8436 + 6 * (k + 1)) (lw_Z below #[Value.ref b] s) (F0 m 1520 ls [])) : W p l e room_1 s m #[Value.ref b] below meth c H locs (47 + k) (8436 + 6 * k) (lw_Z below #[Value.ref b] s) (F0 m 847 ls []) := by
  obtain ⟨hx, hb, hr, hml, hown, hts, hXs, hbl, hlocks, hgv⟩ := id C0
  have hown : s.vm.findClass RL = some m.cls := hown
  have hts : ∀ w ∈ wsL_law, w.before #[Value.ref b] s = true := fun w h => hts w (wsL_law_in w h)
  have hA : ∀ q : Nat, s.heap.size ≤ q → (fun q : Nat => s.heap.size ≤ q) q := fun _ h => h
  have hbA : ¬ (fun q : Nat => s.heap.size ≤ q) b := Nat.not_le.mpr hbl
  obtain ⟨x, y, n, th, un, ju, ch, tm, ba, thr, hO, hM, hag⟩ := hLI
  have hn := t_mob_n hM
  obtain ⟨fs, hfs⟩ := t_obj_hd hO
  obtain ⟨fsm, hfsm⟩ := t_mob_hd hM
  refine lv_aload_n hx hb dL_law_847 rfl (lv_at hl 1 rfl) ?_
  refine lv_aload_n hx hb dL_law_848 rfl (lv_at hl 0 rfl) ?_
  refine lv_iload hx hb dL_law_849 (lv_at hl 4 rfl) ?_
  refine lv_iconst (v := ((nI 1) : Int32)) hx hb dL_law_851 (by decide +kernel) ?_
  refine tv_iadd (a := 5 * k) (b := 1) hx hb dL_law_852 ?_
  refine va_sld hx hb hXs hbl hbA hS (vp_in_nI (by omega) (by omega)) dL_law_853 ?_
  refine tv_re (y := xs ((5 * k) + 1)) (by rw [nI_clamp (by omega)]) ?_
  refine lv_aload_n hx hb dL_law_854 rfl (lv_at hl 0 rfl) ?_
  refine lv_iload hx hb dL_law_855 (lv_at hl 4 rfl) ?_
  refine lv_iconst (v := ((nI 2) : Int32)) hx hb dL_law_857 (by decide +kernel) ?_
  refine tv_iadd (a := 5 * k) (b := 2) hx hb dL_law_858 ?_
  refine va_sld hx hb hXs hbl hbA hS (vp_in_nI (by omega) (by omega)) dL_law_859 ?_
  refine tv_re (y := xs ((5 * k) + 2)) (by rw [nI_clamp (by omega)]) ?_
  refine lv_aload_n hx hb dL_law_860 rfl (lv_at hl 3 rfl) ?_
  have hPc : va_P D vwCl ((q, .inl (cL, 1, .inr (.inl o))) :: Wo) H := t_fstP (b := (q, .inl (cL, 1, .inr (.inl o))) :: Wo) (c := Wm) hP
  have hDc : va_D (fun q : Nat => s.heap.size ≤ q) ((q, .inl (cL, 1, .inr (.inl o))) :: Wo) := t_fstD (b := (q, .inl (cL, 1, .inr (.inl o))) :: Wo) (c := Wm) hD
  have hFc := t_fstF (b := (q, .inl (cL, 1, .inr (.inl o))) :: Wo) (c := Wm) hD hS hA
  refine va_calli (vx_runSW (As := [.ref h, .int (xs ((5 * k) + 1)), .int (xs ((5 * k) + 2)), .ref q]) (rest := []) ⟨hx, hb, hml, hown, hts⟩ (c_L_meanDifference l hl0 D cI cL Wo h x n th un ju ch tm ba (xs ((5 * k) + 1)) (xs ((5 * k) + 2)) q o hO H.size) (vx_cwSW 4 hts gL_law_L_meanDifference rfl rfl rfl (by decide +kernel) ⟨Nat.le_of_ble_eq_true rfl, Nat.le_of_ble_eq_true rfl⟩) ⟨t_wPcX_blind, fun U hU hW => ⟨rfl, by rw [hU], by rw [hU]; exact hPc, va_K.moved hW.alike hK, hDc.weaken (fun _ _ _ _ => trivial), by rw [hU]; exact ((hX.kept hS.2.1).narrow hFc).moved hW⟩⟩ rfl rfl hl.1 rfl (lv_room (Nat.le_of_ble_eq_true rfl)) dL_law_861 ⟨(show 47 + k + 1 ≤ 1074 by omega), (show 8436 + 6 * k + 6 ≤ 11629 by omega)⟩) hS (fun q _ h => hFc q h) hFc (fun r1 u t H1 locs ht hvm hw hB hz1 hk1 hS => ?_)
  obtain ⟨hP1, hK1, hD1⟩ := hB
  rw [ht] at hP1
  obtain ⟨hP, hD⟩ := t_jfst (b := (q, .inl (cL, 1, .inr (.inl o))) :: Wo) (c := Wm) hP hD hk1 hFc hP1 hD1
  obtain ⟨o1, W1, hu, hwc⟩ := hw
  subst hu
  have hP : va_P D vwCl ((q, .inl (cL, 1, .inr (.inl o1))) :: (W1 ++ Wm)) H1 := hP
  have hD : va_D (fun q : Nat => s.heap.size ≤ q) ((q, .inl (cL, 1, .inr (.inl o1))) :: (W1 ++ Wm)) := hD
  clear hP1 hD1 hK1 hPc hDc hFc hvm hz1 hk1 ht
  generalize H1 = H at hP hS ⊢
  refine lv_istore (lv' := [(5, .int r1), (0, .ref b), (1, .ref h), (2, .ref g), (3, .ref q), (4, .int (nI (5 * k)))]) hx hb dL_law_864 hl (by decide) rfl (fun ls hl => ?_)
  refine lv_aload_n hx hb dL_law_866 rfl (lv_at hl 3 rfl) ?_
  refine lv_aload_n hx hb dL_law_867 rfl (lv_at hl 1 rfl) ?_
  refine lv_iload hx hb dL_law_868 (lv_at hl 5 rfl) ?_
  refine lv_iconst (v := ((nI 1) : Int32)) hx hb dL_law_870 (by decide +kernel) ?_
  refine tv_iadd (a := 5 * k) (b := 1) hx hb dL_law_871 ?_
  refine va_sld hx hb hXs hbl hbA hS (vp_in_nI (by omega) (by omega)) dL_law_872 ?_
  refine tv_re (y := xs ((5 * k) + 1)) (by rw [nI_clamp (by omega)]) ?_
  refine lv_aload_n hx hb dL_law_873 rfl (lv_at hl 1 rfl) ?_
  refine lv_iload hx hb dL_law_874 (lv_at hl 5 rfl) ?_
  refine lv_iconst (v := ((nI 2) : Int32)) hx hb dL_law_876 (by decide +kernel) ?_
  refine tv_iadd (a := 5 * k) (b := 2) hx hb dL_law_877 ?_
  refine va_sld hx hb hXs hbl hbA hS (vp_in_nI (by omega) (by omega)) dL_law_878 ?_
  refine tv_re (y := xs ((5 * k) + 2)) (by rw [nI_clamp (by omega)]) ?_
  have hPc : va_P D vwCl Wm H := t_endP (a := (q, .inl (cL, 1, .inr (.inl o1))) :: W1) hP
  have hDc : va_D (fun q : Nat => s.heap.size ≤ q) Wm := t_endD (a := (q, .inl (cL, 1, .inr (.inl o1))) :: W1) hD
  have hFc := t_endF (a := (q, .inl (cL, 1, .inr (.inl o1))) :: W1) hD hS hA
  refine va_calli (va_runV (As := [.int (xs ((5 * k) + 1)), .int (xs ((5 * k) + 2))]) (rest := []) ⟨hx, hb, hml, hown, hts⟩ (c_X9_meanDifference l D cI cL Wm g y n th un ju ch tm ba thr (xs ((5 * k) + 1)) (xs ((5 * k) + 2)) hM H.size) (cwV 2 hts gL_law_X9_meanDifference rfl rfl rfl (by decide +kernel) ⟨Nat.le_of_ble_eq_true rfl, Nat.le_of_ble_eq_true rfl⟩) ⟨t_wPc_blind, va_recv hK hPc (ci := 9) (q0 := 0) rfl hfsm, fun U hU hW => ⟨rfl, by rw [hU], by rw [hU]; exact hPc, va_K.moved hW.alike hK, hDc.weaken (fun _ _ _ _ => trivial)⟩⟩ rfl rfl hl.1 rfl (lv_room (Nat.le_of_ble_eq_true rfl)) dL_law_879 ⟨(show 47 + k + 1 + 0 ≤ 1074 by omega), (show 8436 + 6 * k + 6 + 0 ≤ 11629 by omega)⟩) hS (fun q _ h => hFc q h) hFc (fun b1 u t H1 locs ht hvm hw hB hz1 hk1 hS => ?_)
  obtain ⟨hP1, hK1, hD1⟩ := hB
  rw [ht] at hP1
  obtain ⟨hP, hD⟩ := t_jend (a := (q, .inl (cL, 1, .inr (.inl o1))) :: W1) hP hD hk1 hFc hP1 hD1
  have hwm := hw
  obtain ⟨M1, huM1⟩ : ∃ W1, W1 = u := ⟨_, rfl⟩
  rw [← huM1] at hP hD hwm
  have hP : va_P D vwCl ((q, .inl (cL, 1, .inr (.inl o1))) :: (W1 ++ M1)) H1 := hP
  have hD : va_D (fun q : Nat => s.heap.size ≤ q) ((q, .inl (cL, 1, .inr (.inl o1))) :: (W1 ++ M1)) := hD
  clear hP1 hD1 hK1 hPc hDc hFc hvm hz1 hk1 ht
  generalize H1 = H at hP hS ⊢
  obtain ⟨h0, x2, y2, n2, th2, un2, ju2, ch2, tm2, ba2, hO2, hM2, hag2⟩ := t_pr_meanDifference (r := r1)  hag hn hwc hwm
  refine lv_istore (lv' := [(6, .int b1), (5, .int r1), (0, .ref b), (1, .ref h), (2, .ref g), (3, .ref q), (4, .int (nI (5 * k)))]) hx hb dL_law_882 hl (by decide) rfl (fun ls hl => ?_)
  refine lv_aload_n hx hb dL_law_884 rfl (lv_at hl 4 rfl) ?_
  have hPc : va_P D vwCl M1 H := t_endP (a := (q, .inl (cL, 1, .inr (.inl o1))) :: W1) hP
  have hDc : va_D (fun q : Nat => s.heap.size ≤ q) M1 := t_endD (a := (q, .inl (cL, 1, .inr (.inl o1))) :: W1) hD
  have hFc := t_endF (a := (q, .inl (cL, 1, .inr (.inl o1))) :: W1) hD hS hA
  obtain ⟨fsm, hfsm⟩ := t_mob_hd hM2
  refine va_calli (va_runV (As := []) (rest := []) ⟨hx, hb, hml, hown, hts⟩ (c_X9_thrown l D cI cL M1 g y2 n2 th2 un2 ju2 ch2 tm2 ba2 r1 hM2 H.size) (cwV 0 hts gL_law_X9_thrown rfl rfl rfl (by decide +kernel) ⟨Nat.le_of_ble_eq_true rfl, Nat.le_of_ble_eq_true rfl⟩) ⟨t_wPc_blind, va_recv hK hPc (ci := 9) (q0 := 0) rfl hfsm, fun U hU hW => ⟨rfl, by rw [hU], by rw [hU]; exact hPc, va_K.moved hW.alike hK, hDc.weaken (fun _ _ _ _ => trivial)⟩⟩ rfl rfl hl.1 rfl (lv_room (Nat.le_of_ble_eq_true rfl)) dL_law_885 ⟨(show 47 + k + 1 + 0 ≤ 1074 by omega), (show 8436 + 6 * k + 6 + 0 ≤ 11629 by omega)⟩) hS (fun q _ h => hFc q h) hFc (fun r3 u t H1 locs ht hvm hw hB hz1 hk1 hS => ?_)
  obtain ⟨hP1, hK1, hD1⟩ := hB
  rw [ht] at hP1
  obtain ⟨hP, hD⟩ := t_jend (a := (q, .inl (cL, 1, .inr (.inl o1))) :: W1) hP hD hk1 hFc hP1 hD1
  obtain ⟨M2, huM2⟩ : ∃ W1, W1 = u := ⟨_, rfl⟩
  rw [← huM2] at hP hD hw
  have hP : va_P D vwCl ((q, .inl (cL, 1, .inr (.inl o1))) :: (W1 ++ M2)) H1 := hP
  have hD : va_D (fun q : Nat => s.heap.size ≤ q) ((q, .inl (cL, 1, .inr (.inl o1))) :: (W1 ++ M2)) := hD
  clear hP1 hD1 hK1 hPc hDc hFc hvm hz1 hk1 ht
  generalize H1 = H at hP hS ⊢
  obtain ⟨h3, hM3⟩ := hw
  refine tv_re (y := r1) h3 ?_
  have hLI2 : t_LI cI h g W1 M2 := t_LJ_LI hO2 hM3 hag2
  refine lv_iload hx hb dL_law_888 (lv_at hl 1 rfl) ?_
  refine lv_icmp_eq (tgt := 895) hx hb dL_law_890 (by decide) (fun q890_1 => ?_) (fun q890_1 => absurd rfl q890_1)
  refine lv_iload hx hb dL_law_895 (lv_at hl 1 rfl) ?_
  refine lv_if_ne (tgt := 912) hx hb dL_law_897 (by decide) (fun q897_2 => ?_) (fun q897_2 => ?_)
  · refine lv_goto (tgt := 1520) hx hb dL_law_912 (by decide) ?_
    exact kk _ _ _ _ _ _ hLI2 hP hD hS (lv_sub hl [2, 3, 4, 5, 6] rfl)
  · refine lv_aload_n hx hb dL_law_900 rfl (lv_at hl 5 rfl) ?_
    refine lv_iconst (v := ((nI 0) : Int32)) hx hb dL_law_901 (by decide +kernel) ?_
    refine va_lald hx hb hK hP 0 1 rfl rfl (vp_in_nI (by decide) (by decide)) dL_law_902 ?_
    refine tv_reL (y := o1 0) (by rw [nI_clamp (by decide)]) ?_
    refine lv_iload hx hb dL_law_903 (lv_at hl 0 rfl) ?_
    refine lv_i2l hx hb dL_law_905 rfl ?_
    refine W.lcmp hx hb dL_law_906 ?_
    refine tv_cmp_eq (tgt := 912) hx hb dL_law_907 (by decide) (fun q907_3 => ?_) (fun q907_3 => absurd (h0 (q897_2.trans nI_0.symm)) q907_3)
    refine lv_goto (tgt := 1520) hx hb dL_law_912 (by decide) ?_
    exact kk _ _ _ _ _ _ hLI2 hP hD hS (lv_sub hl [2, 3, 4, 5, 6] rfl)

set_option maxHeartbeats 4000000 in
set_option maxRecDepth 100000 in
theorem law_c14 {p : Program} {l : Launch} {e : Env} {s : State} {m : MethodId} {below : List Frame} {meth : Method} {c : Code} {D : va_G} {cI cL : ClassId} {b L : Nat} {xs : Nat → Int32} {h g q k : Nat} {o : Nat → Int64} {Wo Wm : va_W} {H : Heap} {locs : List Loc} {ls : Array Slot} (hl0 : l.stackTraces = false) (C0 : lw_At p s m meth c b L xs) (hL : L ≤ 2560) (hk : 5 * k + 5 ≤ L) (hK : va_K D vwCl [(cI, .int), (cL, .long)] s) (hX : t_X (fun q : Nat => s.heap.size ≤ q) s s.heap) (hLI : t_LI cI h g Wo Wm) (hP : va_P D vwCl ((q, .inl (cL, 1, .inr (.inl o))) :: (Wo ++ Wm)) H) (hD : va_D (fun q : Nat => s.heap.size ≤ q) ((q, .inl (cL, 1, .inr (.inl o))) :: (Wo ++ Wm))) (hS : va_S (fun q : Nat => s.heap.size ≤ q) s.heap H locs) (hl : lv_has ls 7 [(0, .ref b), (1, .ref h), (2, .ref g), (3, .ref q), (4, .int (nI (5 * k)))]) (kk : ∀ (o : Nat → Int64) (Wo Wm : va_W) (H : Heap) (locs : List Loc) (ls : Array Slot), t_LI cI h g Wo Wm → va_P D vwCl ((q, .inl (cL, 1, .inr (.inl o))) :: (Wo ++ Wm)) H → va_D (fun q : Nat => s.heap.size ≤ q) ((q, .inl (cL, 1, .inr (.inl o))) :: (Wo ++ Wm)) → va_S (fun q : Nat => s.heap.size ≤ q) s.heap H locs → lv_has ls 7 [(0, .ref b), (1, .ref h), (2, .ref g), (3, .ref q), (4, .int (nI (5 * k)))] → W p l e room_1 s m #[Value.ref b] below meth c H locs (47 + (k + 1)) (8436 + 6 * (k + 1)) (lw_Z below #[Value.ref b] s) (F0 m 1520 ls [])) : W p l e room_1 s m #[Value.ref b] below meth c H locs (47 + k) (8436 + 6 * k) (lw_Z below #[Value.ref b] s) (F0 m 915 ls []) := by
  obtain ⟨hx, hb, hr, hml, hown, hts, hXs, hbl, hlocks, hgv⟩ := id C0
  have hown : s.vm.findClass RL = some m.cls := hown
  have hts : ∀ w ∈ wsL_law, w.before #[Value.ref b] s = true := fun w h => hts w (wsL_law_in w h)
  have hA : ∀ q : Nat, s.heap.size ≤ q → (fun q : Nat => s.heap.size ≤ q) q := fun _ h => h
  have hbA : ¬ (fun q : Nat => s.heap.size ≤ q) b := Nat.not_le.mpr hbl
  obtain ⟨x, y, n, th, un, ju, ch, tm, ba, thr, hO, hM, hag⟩ := hLI
  have hn := t_mob_n hM
  obtain ⟨fs, hfs⟩ := t_obj_hd hO
  obtain ⟨fsm, hfsm⟩ := t_mob_hd hM
  refine lv_aload_n hx hb dL_law_915 rfl (lv_at hl 1 rfl) ?_
  refine lv_aload_n hx hb dL_law_916 rfl (lv_at hl 0 rfl) ?_
  refine lv_iload hx hb dL_law_917 (lv_at hl 4 rfl) ?_
  refine lv_iconst (v := ((nI 1) : Int32)) hx hb dL_law_919 (by decide +kernel) ?_
  refine tv_iadd (a := 5 * k) (b := 1) hx hb dL_law_920 ?_
  refine va_sld hx hb hXs hbl hbA hS (vp_in_nI (by omega) (by omega)) dL_law_921 ?_
  refine tv_re (y := xs ((5 * k) + 1)) (by rw [nI_clamp (by omega)]) ?_
  refine lv_aload_n hx hb dL_law_922 rfl (lv_at hl 3 rfl) ?_
  have hPc : va_P D vwCl ((q, .inl (cL, 1, .inr (.inl o))) :: Wo) H := t_fstP (b := (q, .inl (cL, 1, .inr (.inl o))) :: Wo) (c := Wm) hP
  have hDc : va_D (fun q : Nat => s.heap.size ≤ q) ((q, .inl (cL, 1, .inr (.inl o))) :: Wo) := t_fstD (b := (q, .inl (cL, 1, .inr (.inl o))) :: Wo) (c := Wm) hD
  have hFc := t_fstF (b := (q, .inl (cL, 1, .inr (.inl o))) :: Wo) (c := Wm) hD hS hA
  refine va_calli (vx_runSW (As := [.ref h, .int (xs ((5 * k) + 1)), .ref q]) (rest := []) ⟨hx, hb, hml, hown, hts⟩ (c_L_candidates l hl0 D cI cL Wo h x n th un ju ch tm ba (xs ((5 * k) + 1)) q o hO H.size) (vx_cwSW 3 hts gL_law_L_candidates rfl rfl rfl (by decide +kernel) ⟨Nat.le_of_ble_eq_true rfl, Nat.le_of_ble_eq_true rfl⟩) ⟨t_wPcX_blind, fun U hU hW => ⟨rfl, by rw [hU], by rw [hU]; exact hPc, va_K.moved hW.alike hK, hDc.weaken (fun _ _ _ _ => trivial), by rw [hU]; exact ((hX.kept hS.2.1).narrow hFc).moved hW⟩⟩ rfl rfl hl.1 rfl (lv_room (Nat.le_of_ble_eq_true rfl)) dL_law_923 ⟨(show 47 + k + 1 ≤ 1074 by omega), (show 8436 + 6 * k + 6 ≤ 11629 by omega)⟩) hS (fun q _ h => hFc q h) hFc (fun r1 u t H1 locs ht hvm hw hB hz1 hk1 hS => ?_)
  obtain ⟨hP1, hK1, hD1⟩ := hB
  rw [ht] at hP1
  obtain ⟨hP, hD⟩ := t_jfst (b := (q, .inl (cL, 1, .inr (.inl o))) :: Wo) (c := Wm) hP hD hk1 hFc hP1 hD1
  obtain ⟨o1, W1, hu, hwc⟩ := hw
  subst hu
  have hP : va_P D vwCl ((q, .inl (cL, 1, .inr (.inl o1))) :: (W1 ++ Wm)) H1 := hP
  have hD : va_D (fun q : Nat => s.heap.size ≤ q) ((q, .inl (cL, 1, .inr (.inl o1))) :: (W1 ++ Wm)) := hD
  clear hP1 hD1 hK1 hPc hDc hFc hvm hz1 hk1 ht
  generalize H1 = H at hP hS ⊢
  refine lv_istore (lv' := [(5, .int r1), (0, .ref b), (1, .ref h), (2, .ref g), (3, .ref q), (4, .int (nI (5 * k)))]) hx hb dL_law_926 hl (by decide) rfl (fun ls hl => ?_)
  refine lv_aload_n hx hb dL_law_928 rfl (lv_at hl 3 rfl) ?_
  refine lv_aload_n hx hb dL_law_929 rfl (lv_at hl 1 rfl) ?_
  refine lv_iload hx hb dL_law_930 (lv_at hl 5 rfl) ?_
  refine lv_iconst (v := ((nI 1) : Int32)) hx hb dL_law_932 (by decide +kernel) ?_
  refine tv_iadd (a := 5 * k) (b := 1) hx hb dL_law_933 ?_
  refine va_sld hx hb hXs hbl hbA hS (vp_in_nI (by omega) (by omega)) dL_law_934 ?_
  refine tv_re (y := xs ((5 * k) + 1)) (by rw [nI_clamp (by omega)]) ?_
  have hPc : va_P D vwCl Wm H := t_endP (a := (q, .inl (cL, 1, .inr (.inl o1))) :: W1) hP
  have hDc : va_D (fun q : Nat => s.heap.size ≤ q) Wm := t_endD (a := (q, .inl (cL, 1, .inr (.inl o1))) :: W1) hD
  have hFc := t_endF (a := (q, .inl (cL, 1, .inr (.inl o1))) :: W1) hD hS hA
  refine va_calli (va_runV (As := [.int (xs ((5 * k) + 1))]) (rest := []) ⟨hx, hb, hml, hown, hts⟩ (c_X9_candidates l D cI cL Wm g y n th un ju ch tm ba thr (xs ((5 * k) + 1)) hM H.size) (cwV 1 hts gL_law_X9_candidates rfl rfl rfl (by decide +kernel) ⟨Nat.le_of_ble_eq_true rfl, Nat.le_of_ble_eq_true rfl⟩) ⟨t_wPc_blind, va_recv hK hPc (ci := 9) (q0 := 0) rfl hfsm, fun U hU hW => ⟨rfl, by rw [hU], by rw [hU]; exact hPc, va_K.moved hW.alike hK, hDc.weaken (fun _ _ _ _ => trivial)⟩⟩ rfl rfl hl.1 rfl (lv_room (Nat.le_of_ble_eq_true rfl)) dL_law_935 ⟨(show 47 + k + 1 + 0 ≤ 1074 by omega), (show 8436 + 6 * k + 6 + 0 ≤ 11629 by omega)⟩) hS (fun q _ h => hFc q h) hFc (fun b1 u t H1 locs ht hvm hw hB hz1 hk1 hS => ?_)
  obtain ⟨hP1, hK1, hD1⟩ := hB
  rw [ht] at hP1
  obtain ⟨hP, hD⟩ := t_jend (a := (q, .inl (cL, 1, .inr (.inl o1))) :: W1) hP hD hk1 hFc hP1 hD1
  have hwm := hw
  obtain ⟨M1, huM1⟩ : ∃ W1, W1 = u := ⟨_, rfl⟩
  rw [← huM1] at hP hD hwm
  have hP : va_P D vwCl ((q, .inl (cL, 1, .inr (.inl o1))) :: (W1 ++ M1)) H1 := hP
  have hD : va_D (fun q : Nat => s.heap.size ≤ q) ((q, .inl (cL, 1, .inr (.inl o1))) :: (W1 ++ M1)) := hD
  clear hP1 hD1 hK1 hPc hDc hFc hvm hz1 hk1 ht
  generalize H1 = H at hP hS ⊢
  obtain ⟨h0, x2, y2, n2, th2, un2, ju2, ch2, tm2, ba2, hO2, hM2, hag2⟩ := t_pr_candidates (r := r1)  hag hn hwc hwm
  refine lv_istore (lv' := [(6, .int b1), (5, .int r1), (0, .ref b), (1, .ref h), (2, .ref g), (3, .ref q), (4, .int (nI (5 * k)))]) hx hb dL_law_938 hl (by decide) rfl (fun ls hl => ?_)
  refine lv_aload_n hx hb dL_law_940 rfl (lv_at hl 4 rfl) ?_
  have hPc : va_P D vwCl M1 H := t_endP (a := (q, .inl (cL, 1, .inr (.inl o1))) :: W1) hP
  have hDc : va_D (fun q : Nat => s.heap.size ≤ q) M1 := t_endD (a := (q, .inl (cL, 1, .inr (.inl o1))) :: W1) hD
  have hFc := t_endF (a := (q, .inl (cL, 1, .inr (.inl o1))) :: W1) hD hS hA
  obtain ⟨fsm, hfsm⟩ := t_mob_hd hM2
  refine va_calli (va_runV (As := []) (rest := []) ⟨hx, hb, hml, hown, hts⟩ (c_X9_thrown l D cI cL M1 g y2 n2 th2 un2 ju2 ch2 tm2 ba2 r1 hM2 H.size) (cwV 0 hts gL_law_X9_thrown rfl rfl rfl (by decide +kernel) ⟨Nat.le_of_ble_eq_true rfl, Nat.le_of_ble_eq_true rfl⟩) ⟨t_wPc_blind, va_recv hK hPc (ci := 9) (q0 := 0) rfl hfsm, fun U hU hW => ⟨rfl, by rw [hU], by rw [hU]; exact hPc, va_K.moved hW.alike hK, hDc.weaken (fun _ _ _ _ => trivial)⟩⟩ rfl rfl hl.1 rfl (lv_room (Nat.le_of_ble_eq_true rfl)) dL_law_941 ⟨(show 47 + k + 1 + 0 ≤ 1074 by omega), (show 8436 + 6 * k + 6 + 0 ≤ 11629 by omega)⟩) hS (fun q _ h => hFc q h) hFc (fun r3 u t H1 locs ht hvm hw hB hz1 hk1 hS => ?_)
  obtain ⟨hP1, hK1, hD1⟩ := hB
  rw [ht] at hP1
  obtain ⟨hP, hD⟩ := t_jend (a := (q, .inl (cL, 1, .inr (.inl o1))) :: W1) hP hD hk1 hFc hP1 hD1
  obtain ⟨M2, huM2⟩ : ∃ W1, W1 = u := ⟨_, rfl⟩
  rw [← huM2] at hP hD hw
  have hP : va_P D vwCl ((q, .inl (cL, 1, .inr (.inl o1))) :: (W1 ++ M2)) H1 := hP
  have hD : va_D (fun q : Nat => s.heap.size ≤ q) ((q, .inl (cL, 1, .inr (.inl o1))) :: (W1 ++ M2)) := hD
  clear hP1 hD1 hK1 hPc hDc hFc hvm hz1 hk1 ht
  generalize H1 = H at hP hS ⊢
  obtain ⟨h3, hM3⟩ := hw
  refine tv_re (y := r1) h3 ?_
  have hLI2 : t_LI cI h g W1 M2 := t_LJ_LI hO2 hM3 hag2
  refine lv_iload hx hb dL_law_944 (lv_at hl 1 rfl) ?_
  refine lv_icmp_eq (tgt := 951) hx hb dL_law_946 (by decide) (fun q946_1 => ?_) (fun q946_1 => absurd rfl q946_1)
  refine lv_iload hx hb dL_law_951 (lv_at hl 1 rfl) ?_
  refine lv_if_ne (tgt := 968) hx hb dL_law_953 (by decide) (fun q953_2 => ?_) (fun q953_2 => ?_)
  · refine lv_goto (tgt := 1520) hx hb dL_law_968 (by decide) ?_
    exact kk _ _ _ _ _ _ hLI2 hP hD hS (lv_sub hl [2, 3, 4, 5, 6] rfl)
  · refine lv_aload_n hx hb dL_law_956 rfl (lv_at hl 5 rfl) ?_
    refine lv_iconst (v := ((nI 0) : Int32)) hx hb dL_law_957 (by decide +kernel) ?_
    refine va_lald hx hb hK hP 0 1 rfl rfl (vp_in_nI (by decide) (by decide)) dL_law_958 ?_
    refine tv_reL (y := o1 0) (by rw [nI_clamp (by decide)]) ?_
    refine lv_iload hx hb dL_law_959 (lv_at hl 0 rfl) ?_
    refine lv_i2l hx hb dL_law_961 rfl ?_
    refine W.lcmp hx hb dL_law_962 ?_
    refine tv_cmp_eq (tgt := 968) hx hb dL_law_963 (by decide) (fun q963_3 => ?_) (fun q963_3 => absurd (h0 (q953_2.trans nI_0.symm)) q963_3)
    refine lv_goto (tgt := 1520) hx hb dL_law_968 (by decide) ?_
    exact kk _ _ _ _ _ _ hLI2 hP hD hS (lv_sub hl [2, 3, 4, 5, 6] rfl)

set_option maxHeartbeats 4000000 in
set_option maxRecDepth 100000 in
theorem law_c15 {p : Program} {l : Launch} {e : Env} {s : State} {m : MethodId} {below : List Frame} {meth : Method} {c : Code} {D : va_G} {cI cL : ClassId} {b L : Nat} {xs : Nat → Int32} {h g q k : Nat} {o : Nat → Int64} {Wo Wm : va_W} {H : Heap} {locs : List Loc} {ls : Array Slot} (hl0 : l.stackTraces = false) (C0 : lw_At p s m meth c b L xs) (hL : L ≤ 2560) (hk : 5 * k + 5 ≤ L) (hK : va_K D vwCl [(cI, .int), (cL, .long)] s) (hX : t_X (fun q : Nat => s.heap.size ≤ q) s s.heap) (hLI : t_LI cI h g Wo Wm) (hP : va_P D vwCl ((q, .inl (cL, 1, .inr (.inl o))) :: (Wo ++ Wm)) H) (hD : va_D (fun q : Nat => s.heap.size ≤ q) ((q, .inl (cL, 1, .inr (.inl o))) :: (Wo ++ Wm))) (hS : va_S (fun q : Nat => s.heap.size ≤ q) s.heap H locs) (hl : lv_has ls 7 [(0, .ref b), (1, .ref h), (2, .ref g), (3, .ref q), (4, .int (nI (5 * k)))]) (kk : ∀ (o : Nat → Int64) (Wo Wm : va_W) (H : Heap) (locs : List Loc) (ls : Array Slot), t_LI cI h g Wo Wm → va_P D vwCl ((q, .inl (cL, 1, .inr (.inl o))) :: (Wo ++ Wm)) H → va_D (fun q : Nat => s.heap.size ≤ q) ((q, .inl (cL, 1, .inr (.inl o))) :: (Wo ++ Wm)) → va_S (fun q : Nat => s.heap.size ≤ q) s.heap H locs → lv_has ls 7 [(0, .ref b), (1, .ref h), (2, .ref g), (3, .ref q), (4, .int (nI (5 * k)))] → W p l e room_1 s m #[Value.ref b] below meth c H locs (47 + (k + 1)) (8436 + 6 * (k + 1)) (lw_Z below #[Value.ref b] s) (F0 m 1520 ls [])) : W p l e room_1 s m #[Value.ref b] below meth c H locs (47 + k) (8436 + 6 * k) (lw_Z below #[Value.ref b] s) (F0 m 971 ls []) := by
  obtain ⟨hx, hb, hr, hml, hown, hts, hXs, hbl, hlocks, hgv⟩ := id C0
  have hown : s.vm.findClass RL = some m.cls := hown
  have hts : ∀ w ∈ wsL_law, w.before #[Value.ref b] s = true := fun w h => hts w (wsL_law_in w h)
  have hA : ∀ q : Nat, s.heap.size ≤ q → (fun q : Nat => s.heap.size ≤ q) q := fun _ h => h
  have hbA : ¬ (fun q : Nat => s.heap.size ≤ q) b := Nat.not_le.mpr hbl
  obtain ⟨x, y, n, th, un, ju, ch, tm, ba, thr, hO, hM, hag⟩ := hLI
  have hn := t_mob_n hM
  obtain ⟨fs, hfs⟩ := t_obj_hd hO
  obtain ⟨fsm, hfsm⟩ := t_mob_hd hM
  refine lv_aload_n hx hb dL_law_971 rfl (lv_at hl 1 rfl) ?_
  refine lv_aload_n hx hb dL_law_972 rfl (lv_at hl 0 rfl) ?_
  refine lv_iload hx hb dL_law_973 (lv_at hl 4 rfl) ?_
  refine lv_iconst (v := ((nI 1) : Int32)) hx hb dL_law_975 (by decide +kernel) ?_
  refine tv_iadd (a := 5 * k) (b := 1) hx hb dL_law_976 ?_
  refine va_sld hx hb hXs hbl hbA hS (vp_in_nI (by omega) (by omega)) dL_law_977 ?_
  refine tv_re (y := xs ((5 * k) + 1)) (by rw [nI_clamp (by omega)]) ?_
  refine lv_aload_n hx hb dL_law_978 rfl (lv_at hl 0 rfl) ?_
  refine lv_iload hx hb dL_law_979 (lv_at hl 4 rfl) ?_
  refine lv_iconst (v := ((nI 2) : Int32)) hx hb dL_law_981 (by decide +kernel) ?_
  refine tv_iadd (a := 5 * k) (b := 2) hx hb dL_law_982 ?_
  refine va_sld hx hb hXs hbl hbA hS (vp_in_nI (by omega) (by omega)) dL_law_983 ?_
  refine tv_re (y := xs ((5 * k) + 2)) (by rw [nI_clamp (by omega)]) ?_
  refine lv_aload_n hx hb dL_law_984 rfl (lv_at hl 3 rfl) ?_
  have hPc : va_P D vwCl ((q, .inl (cL, 1, .inr (.inl o))) :: Wo) H := t_fstP (b := (q, .inl (cL, 1, .inr (.inl o))) :: Wo) (c := Wm) hP
  have hDc : va_D (fun q : Nat => s.heap.size ≤ q) ((q, .inl (cL, 1, .inr (.inl o))) :: Wo) := t_fstD (b := (q, .inl (cL, 1, .inr (.inl o))) :: Wo) (c := Wm) hD
  have hFc := t_fstF (b := (q, .inl (cL, 1, .inr (.inl o))) :: Wo) (c := Wm) hD hS hA
  refine va_calli (vx_runSW (As := [.ref h, .int (xs ((5 * k) + 1)), .int (xs ((5 * k) + 2)), .ref q]) (rest := []) ⟨hx, hb, hml, hown, hts⟩ (c_L_candidateLag l hl0 D cI cL Wo h x n th un ju ch tm ba (xs ((5 * k) + 1)) (xs ((5 * k) + 2)) q o hO H.size) (vx_cwSW 4 hts gL_law_L_candidateLag rfl rfl rfl (by decide +kernel) ⟨Nat.le_of_ble_eq_true rfl, Nat.le_of_ble_eq_true rfl⟩) ⟨t_wPcX_blind, fun U hU hW => ⟨rfl, by rw [hU], by rw [hU]; exact hPc, va_K.moved hW.alike hK, hDc.weaken (fun _ _ _ _ => trivial), by rw [hU]; exact ((hX.kept hS.2.1).narrow hFc).moved hW⟩⟩ rfl rfl hl.1 rfl (lv_room (Nat.le_of_ble_eq_true rfl)) dL_law_985 ⟨(show 47 + k + 1 ≤ 1074 by omega), (show 8436 + 6 * k + 6 ≤ 11629 by omega)⟩) hS (fun q _ h => hFc q h) hFc (fun r1 u t H1 locs ht hvm hw hB hz1 hk1 hS => ?_)
  obtain ⟨hP1, hK1, hD1⟩ := hB
  rw [ht] at hP1
  obtain ⟨hP, hD⟩ := t_jfst (b := (q, .inl (cL, 1, .inr (.inl o))) :: Wo) (c := Wm) hP hD hk1 hFc hP1 hD1
  obtain ⟨o1, W1, hu, hwc⟩ := hw
  subst hu
  have hP : va_P D vwCl ((q, .inl (cL, 1, .inr (.inl o1))) :: (W1 ++ Wm)) H1 := hP
  have hD : va_D (fun q : Nat => s.heap.size ≤ q) ((q, .inl (cL, 1, .inr (.inl o1))) :: (W1 ++ Wm)) := hD
  clear hP1 hD1 hK1 hPc hDc hFc hvm hz1 hk1 ht
  generalize H1 = H at hP hS ⊢
  refine lv_istore (lv' := [(5, .int r1), (0, .ref b), (1, .ref h), (2, .ref g), (3, .ref q), (4, .int (nI (5 * k)))]) hx hb dL_law_988 hl (by decide) rfl (fun ls hl => ?_)
  refine lv_aload_n hx hb dL_law_990 rfl (lv_at hl 3 rfl) ?_
  refine lv_aload_n hx hb dL_law_991 rfl (lv_at hl 1 rfl) ?_
  refine lv_iload hx hb dL_law_992 (lv_at hl 5 rfl) ?_
  refine lv_iconst (v := ((nI 1) : Int32)) hx hb dL_law_994 (by decide +kernel) ?_
  refine tv_iadd (a := 5 * k) (b := 1) hx hb dL_law_995 ?_
  refine va_sld hx hb hXs hbl hbA hS (vp_in_nI (by omega) (by omega)) dL_law_996 ?_
  refine tv_re (y := xs ((5 * k) + 1)) (by rw [nI_clamp (by omega)]) ?_
  refine lv_aload_n hx hb dL_law_997 rfl (lv_at hl 1 rfl) ?_
  refine lv_iload hx hb dL_law_998 (lv_at hl 5 rfl) ?_
  refine lv_iconst (v := ((nI 2) : Int32)) hx hb dL_law_1000 (by decide +kernel) ?_
  refine tv_iadd (a := 5 * k) (b := 2) hx hb dL_law_1001 ?_
  refine va_sld hx hb hXs hbl hbA hS (vp_in_nI (by omega) (by omega)) dL_law_1002 ?_
  refine tv_re (y := xs ((5 * k) + 2)) (by rw [nI_clamp (by omega)]) ?_
  have hPc : va_P D vwCl Wm H := t_endP (a := (q, .inl (cL, 1, .inr (.inl o1))) :: W1) hP
  have hDc : va_D (fun q : Nat => s.heap.size ≤ q) Wm := t_endD (a := (q, .inl (cL, 1, .inr (.inl o1))) :: W1) hD
  have hFc := t_endF (a := (q, .inl (cL, 1, .inr (.inl o1))) :: W1) hD hS hA
  refine va_calli (va_runV (As := [.int (xs ((5 * k) + 1)), .int (xs ((5 * k) + 2))]) (rest := []) ⟨hx, hb, hml, hown, hts⟩ (c_X9_candidateLag l D cI cL Wm g y n th un ju ch tm ba thr (xs ((5 * k) + 1)) (xs ((5 * k) + 2)) hM H.size) (cwV 2 hts gL_law_X9_candidateLag rfl rfl rfl (by decide +kernel) ⟨Nat.le_of_ble_eq_true rfl, Nat.le_of_ble_eq_true rfl⟩) ⟨t_wPc_blind, va_recv hK hPc (ci := 9) (q0 := 0) rfl hfsm, fun U hU hW => ⟨rfl, by rw [hU], by rw [hU]; exact hPc, va_K.moved hW.alike hK, hDc.weaken (fun _ _ _ _ => trivial)⟩⟩ rfl rfl hl.1 rfl (lv_room (Nat.le_of_ble_eq_true rfl)) dL_law_1003 ⟨(show 47 + k + 1 + 0 ≤ 1074 by omega), (show 8436 + 6 * k + 6 + 0 ≤ 11629 by omega)⟩) hS (fun q _ h => hFc q h) hFc (fun b1 u t H1 locs ht hvm hw hB hz1 hk1 hS => ?_)
  obtain ⟨hP1, hK1, hD1⟩ := hB
  rw [ht] at hP1
  obtain ⟨hP, hD⟩ := t_jend (a := (q, .inl (cL, 1, .inr (.inl o1))) :: W1) hP hD hk1 hFc hP1 hD1
  have hwm := hw
  obtain ⟨M1, huM1⟩ : ∃ W1, W1 = u := ⟨_, rfl⟩
  rw [← huM1] at hP hD hwm
  have hP : va_P D vwCl ((q, .inl (cL, 1, .inr (.inl o1))) :: (W1 ++ M1)) H1 := hP
  have hD : va_D (fun q : Nat => s.heap.size ≤ q) ((q, .inl (cL, 1, .inr (.inl o1))) :: (W1 ++ M1)) := hD
  clear hP1 hD1 hK1 hPc hDc hFc hvm hz1 hk1 ht
  generalize H1 = H at hP hS ⊢
  obtain ⟨h0, x2, y2, n2, th2, un2, ju2, ch2, tm2, ba2, hO2, hM2, hag2⟩ := t_pr_candidateLag (r := r1)  hag hn hwc hwm
  refine lv_istore (lv' := [(6, .int b1), (5, .int r1), (0, .ref b), (1, .ref h), (2, .ref g), (3, .ref q), (4, .int (nI (5 * k)))]) hx hb dL_law_1006 hl (by decide) rfl (fun ls hl => ?_)
  refine lv_aload_n hx hb dL_law_1008 rfl (lv_at hl 4 rfl) ?_
  have hPc : va_P D vwCl M1 H := t_endP (a := (q, .inl (cL, 1, .inr (.inl o1))) :: W1) hP
  have hDc : va_D (fun q : Nat => s.heap.size ≤ q) M1 := t_endD (a := (q, .inl (cL, 1, .inr (.inl o1))) :: W1) hD
  have hFc := t_endF (a := (q, .inl (cL, 1, .inr (.inl o1))) :: W1) hD hS hA
  obtain ⟨fsm, hfsm⟩ := t_mob_hd hM2
  refine va_calli (va_runV (As := []) (rest := []) ⟨hx, hb, hml, hown, hts⟩ (c_X9_thrown l D cI cL M1 g y2 n2 th2 un2 ju2 ch2 tm2 ba2 r1 hM2 H.size) (cwV 0 hts gL_law_X9_thrown rfl rfl rfl (by decide +kernel) ⟨Nat.le_of_ble_eq_true rfl, Nat.le_of_ble_eq_true rfl⟩) ⟨t_wPc_blind, va_recv hK hPc (ci := 9) (q0 := 0) rfl hfsm, fun U hU hW => ⟨rfl, by rw [hU], by rw [hU]; exact hPc, va_K.moved hW.alike hK, hDc.weaken (fun _ _ _ _ => trivial)⟩⟩ rfl rfl hl.1 rfl (lv_room (Nat.le_of_ble_eq_true rfl)) dL_law_1009 ⟨(show 47 + k + 1 + 0 ≤ 1074 by omega), (show 8436 + 6 * k + 6 + 0 ≤ 11629 by omega)⟩) hS (fun q _ h => hFc q h) hFc (fun r3 u t H1 locs ht hvm hw hB hz1 hk1 hS => ?_)
  obtain ⟨hP1, hK1, hD1⟩ := hB
  rw [ht] at hP1
  obtain ⟨hP, hD⟩ := t_jend (a := (q, .inl (cL, 1, .inr (.inl o1))) :: W1) hP hD hk1 hFc hP1 hD1
  obtain ⟨M2, huM2⟩ : ∃ W1, W1 = u := ⟨_, rfl⟩
  rw [← huM2] at hP hD hw
  have hP : va_P D vwCl ((q, .inl (cL, 1, .inr (.inl o1))) :: (W1 ++ M2)) H1 := hP
  have hD : va_D (fun q : Nat => s.heap.size ≤ q) ((q, .inl (cL, 1, .inr (.inl o1))) :: (W1 ++ M2)) := hD
  clear hP1 hD1 hK1 hPc hDc hFc hvm hz1 hk1 ht
  generalize H1 = H at hP hS ⊢
  obtain ⟨h3, hM3⟩ := hw
  refine tv_re (y := r1) h3 ?_
  have hLI2 : t_LI cI h g W1 M2 := t_LJ_LI hO2 hM3 hag2
  refine lv_iload hx hb dL_law_1012 (lv_at hl 1 rfl) ?_
  refine lv_icmp_eq (tgt := 1019) hx hb dL_law_1014 (by decide) (fun q1014_1 => ?_) (fun q1014_1 => absurd rfl q1014_1)
  refine lv_iload hx hb dL_law_1019 (lv_at hl 1 rfl) ?_
  refine lv_if_ne (tgt := 1036) hx hb dL_law_1021 (by decide) (fun q1021_2 => ?_) (fun q1021_2 => ?_)
  · refine lv_goto (tgt := 1520) hx hb dL_law_1036 (by decide) ?_
    exact kk _ _ _ _ _ _ hLI2 hP hD hS (lv_sub hl [2, 3, 4, 5, 6] rfl)
  · refine lv_aload_n hx hb dL_law_1024 rfl (lv_at hl 5 rfl) ?_
    refine lv_iconst (v := ((nI 0) : Int32)) hx hb dL_law_1025 (by decide +kernel) ?_
    refine va_lald hx hb hK hP 0 1 rfl rfl (vp_in_nI (by decide) (by decide)) dL_law_1026 ?_
    refine tv_reL (y := o1 0) (by rw [nI_clamp (by decide)]) ?_
    refine lv_iload hx hb dL_law_1027 (lv_at hl 0 rfl) ?_
    refine lv_i2l hx hb dL_law_1029 rfl ?_
    refine W.lcmp hx hb dL_law_1030 ?_
    refine tv_cmp_eq (tgt := 1036) hx hb dL_law_1031 (by decide) (fun q1031_3 => ?_) (fun q1031_3 => absurd (h0 (q1021_2.trans nI_0.symm)) q1031_3)
    refine lv_goto (tgt := 1520) hx hb dL_law_1036 (by decide) ?_
    exact kk _ _ _ _ _ _ hLI2 hP hD hS (lv_sub hl [2, 3, 4, 5, 6] rfl)

set_option maxHeartbeats 4000000 in
set_option maxRecDepth 100000 in
theorem law_c16 {p : Program} {l : Launch} {e : Env} {s : State} {m : MethodId} {below : List Frame} {meth : Method} {c : Code} {D : va_G} {cI cL : ClassId} {b L : Nat} {xs : Nat → Int32} {h g q k : Nat} {o : Nat → Int64} {Wo Wm : va_W} {H : Heap} {locs : List Loc} {ls : Array Slot} (hl0 : l.stackTraces = false) (C0 : lw_At p s m meth c b L xs) (hL : L ≤ 2560) (hk : 5 * k + 5 ≤ L) (hK : va_K D vwCl [(cI, .int), (cL, .long)] s) (hX : t_X (fun q : Nat => s.heap.size ≤ q) s s.heap) (hLI : t_LI cI h g Wo Wm) (hP : va_P D vwCl ((q, .inl (cL, 1, .inr (.inl o))) :: (Wo ++ Wm)) H) (hD : va_D (fun q : Nat => s.heap.size ≤ q) ((q, .inl (cL, 1, .inr (.inl o))) :: (Wo ++ Wm))) (hS : va_S (fun q : Nat => s.heap.size ≤ q) s.heap H locs) (hl : lv_has ls 7 [(0, .ref b), (1, .ref h), (2, .ref g), (3, .ref q), (4, .int (nI (5 * k)))]) (kk : ∀ (o : Nat → Int64) (Wo Wm : va_W) (H : Heap) (locs : List Loc) (ls : Array Slot), t_LI cI h g Wo Wm → va_P D vwCl ((q, .inl (cL, 1, .inr (.inl o))) :: (Wo ++ Wm)) H → va_D (fun q : Nat => s.heap.size ≤ q) ((q, .inl (cL, 1, .inr (.inl o))) :: (Wo ++ Wm)) → va_S (fun q : Nat => s.heap.size ≤ q) s.heap H locs → lv_has ls 7 [(0, .ref b), (1, .ref h), (2, .ref g), (3, .ref q), (4, .int (nI (5 * k)))] → W p l e room_1 s m #[Value.ref b] below meth c H locs (47 + (k + 1)) (8436 + 6 * (k + 1)) (lw_Z below #[Value.ref b] s) (F0 m 1520 ls [])) : W p l e room_1 s m #[Value.ref b] below meth c H locs (47 + k) (8436 + 6 * k) (lw_Z below #[Value.ref b] s) (F0 m 1039 ls []) := by
  obtain ⟨hx, hb, hr, hml, hown, hts, hXs, hbl, hlocks, hgv⟩ := id C0
  have hown : s.vm.findClass RL = some m.cls := hown
  have hts : ∀ w ∈ wsL_law, w.before #[Value.ref b] s = true := fun w h => hts w (wsL_law_in w h)
  have hA : ∀ q : Nat, s.heap.size ≤ q → (fun q : Nat => s.heap.size ≤ q) q := fun _ h => h
  have hbA : ¬ (fun q : Nat => s.heap.size ≤ q) b := Nat.not_le.mpr hbl
  obtain ⟨x, y, n, th, un, ju, ch, tm, ba, thr, hO, hM, hag⟩ := hLI
  have hn := t_mob_n hM
  obtain ⟨fs, hfs⟩ := t_obj_hd hO
  obtain ⟨fsm, hfsm⟩ := t_mob_hd hM
  refine lv_aload_n hx hb dL_law_1039 rfl (lv_at hl 1 rfl) ?_
  have hPc : va_P D vwCl Wo H := t_midP (a := [(q, .inl (cL, 1, .inr (.inl o)))]) (b := Wo) (c := Wm) hP
  have hDc : va_D (fun q : Nat => s.heap.size ≤ q) Wo := t_midD (a := [(q, .inl (cL, 1, .inr (.inl o)))]) (b := Wo) (c := Wm) hD
  have hFc := t_midF (a := [(q, .inl (cL, 1, .inr (.inl o)))]) (b := Wo) (c := Wm) hD hS hA
  refine va_calli (va_runV (As := []) (rest := []) ⟨hx, hb, hml, hown, hts⟩ (c_X8_trackCost l D cI cL Wo h x n th un ju ch tm ba hO H.size) (cwV 0 hts gL_law_X8_trackCost rfl rfl rfl (by decide +kernel) ⟨Nat.le_of_ble_eq_true rfl, Nat.le_of_ble_eq_true rfl⟩) ⟨t_wPcX_blind, va_recv hK hPc (ci := 8) (q0 := 0) rfl hfs, fun U hU hW => ⟨rfl, by rw [hU], by rw [hU]; exact hPc, va_K.moved hW.alike hK, hDc.weaken (fun _ _ _ _ => trivial), by rw [hU]; exact ((hX.kept hS.2.1).narrow hFc).moved hW⟩⟩ rfl rfl hl.1 rfl (lv_room (Nat.le_of_ble_eq_true rfl)) dL_law_1040 ⟨(show 47 + k + 0 ≤ 1074 by omega), (show 8436 + 6 * k + 0 ≤ 11629 by omega)⟩) hS (fun q _ h => hFc q h) hFc (fun r1 u t H1 locs ht hvm hw hB hz1 hk1 hS => ?_)
  obtain ⟨hP1, hK1, hD1⟩ := hB
  rw [ht] at hP1
  obtain ⟨hP, hD⟩ := t_jmid (a := [(q, .inl (cL, 1, .inr (.inl o)))]) (b := Wo) (c := Wm) hP hD hk1 hFc hP1 hD1
  have hwc := hw
  obtain ⟨W1, hu⟩ : ∃ W1, W1 = u := ⟨_, rfl⟩
  rw [← hu] at hP hD hwc
  have hP : va_P D vwCl ((q, .inl (cL, 1, .inr (.inl o))) :: (W1 ++ Wm)) H1 := hP
  have hD : va_D (fun q : Nat => s.heap.size ≤ q) ((q, .inl (cL, 1, .inr (.inl o))) :: (W1 ++ Wm)) := hD
  clear hP1 hD1 hK1 hPc hDc hFc hvm hz1 hk1 ht
  generalize H1 = H at hP hS ⊢
  refine lv_aload_n hx hb dL_law_1043 rfl (lv_at hl 2 rfl) ?_
  have hPc : va_P D vwCl Wm H := t_endP (a := (q, .inl (cL, 1, .inr (.inl o))) :: W1) hP
  have hDc : va_D (fun q : Nat => s.heap.size ≤ q) Wm := t_endD (a := (q, .inl (cL, 1, .inr (.inl o))) :: W1) hD
  have hFc := t_endF (a := (q, .inl (cL, 1, .inr (.inl o))) :: W1) hD hS hA
  refine va_calli (va_runV (As := []) (rest := [.int r1]) ⟨hx, hb, hml, hown, hts⟩ (c_X9_trackCost l D cI cL Wm g y n th un ju ch tm ba thr  hM H.size) (cwV 0 hts gL_law_X9_trackCost rfl rfl rfl (by decide +kernel) ⟨Nat.le_of_ble_eq_true rfl, Nat.le_of_ble_eq_true rfl⟩) ⟨t_wPc_blind, va_recv hK hPc (ci := 9) (q0 := 0) rfl hfsm, fun U hU hW => ⟨rfl, by rw [hU], by rw [hU]; exact hPc, va_K.moved hW.alike hK, hDc.weaken (fun _ _ _ _ => trivial)⟩⟩ rfl rfl hl.1 rfl (lv_room (Nat.le_of_ble_eq_true rfl)) dL_law_1044 ⟨(show 47 + k + 0 ≤ 1074 by omega), (show 8436 + 6 * k + 0 ≤ 11629 by omega)⟩) hS (fun q _ h => hFc q h) hFc (fun b1 u t H1 locs ht hvm hw hB hz1 hk1 hS => ?_)
  obtain ⟨hP1, hK1, hD1⟩ := hB
  rw [ht] at hP1
  obtain ⟨hP, hD⟩ := t_jend (a := (q, .inl (cL, 1, .inr (.inl o))) :: W1) hP hD hk1 hFc hP1 hD1
  have hwm := hw
  obtain ⟨M1, huM1⟩ : ∃ W1, W1 = u := ⟨_, rfl⟩
  rw [← huM1] at hP hD hwm
  have hP : va_P D vwCl ((q, .inl (cL, 1, .inr (.inl o))) :: (W1 ++ M1)) H1 := hP
  have hD : va_D (fun q : Nat => s.heap.size ≤ q) ((q, .inl (cL, 1, .inr (.inl o))) :: (W1 ++ M1)) := hD
  clear hP1 hD1 hK1 hPc hDc hFc hvm hz1 hk1 ht
  generalize H1 = H at hP hS ⊢
  obtain ⟨heq, hLI2⟩ := t_pr_trackCost hag hn hwc hwm
  refine lv_icmp_eq (tgt := 1520) hx hb dL_law_1047 (by decide) (fun q1047_1 => ?_) (fun q1047_1 => absurd heq q1047_1)
  refine W.widen (k := 47 + k + 1) (n := 8436 + 6 * k + 6) (by omega) (by omega) ?_
  exact kk _ _ _ _ _ _ hLI2 hP hD hS (lv_sub hl [0, 1, 2, 3, 4] rfl)

set_option maxHeartbeats 4000000 in
set_option maxRecDepth 100000 in
theorem law_c17 {p : Program} {l : Launch} {e : Env} {s : State} {m : MethodId} {below : List Frame} {meth : Method} {c : Code} {D : va_G} {cI cL : ClassId} {b L : Nat} {xs : Nat → Int32} {h g q k : Nat} {o : Nat → Int64} {Wo Wm : va_W} {H : Heap} {locs : List Loc} {ls : Array Slot} (hl0 : l.stackTraces = false) (C0 : lw_At p s m meth c b L xs) (hL : L ≤ 2560) (hk : 5 * k + 5 ≤ L) (hK : va_K D vwCl [(cI, .int), (cL, .long)] s) (hX : t_X (fun q : Nat => s.heap.size ≤ q) s s.heap) (hLI : t_LI cI h g Wo Wm) (hP : va_P D vwCl ((q, .inl (cL, 1, .inr (.inl o))) :: (Wo ++ Wm)) H) (hD : va_D (fun q : Nat => s.heap.size ≤ q) ((q, .inl (cL, 1, .inr (.inl o))) :: (Wo ++ Wm))) (hS : va_S (fun q : Nat => s.heap.size ≤ q) s.heap H locs) (hl : lv_has ls 7 [(0, .ref b), (1, .ref h), (2, .ref g), (3, .ref q), (4, .int (nI (5 * k)))]) (kk : ∀ (o : Nat → Int64) (Wo Wm : va_W) (H : Heap) (locs : List Loc) (ls : Array Slot), t_LI cI h g Wo Wm → va_P D vwCl ((q, .inl (cL, 1, .inr (.inl o))) :: (Wo ++ Wm)) H → va_D (fun q : Nat => s.heap.size ≤ q) ((q, .inl (cL, 1, .inr (.inl o))) :: (Wo ++ Wm)) → va_S (fun q : Nat => s.heap.size ≤ q) s.heap H locs → lv_has ls 7 [(0, .ref b), (1, .ref h), (2, .ref g), (3, .ref q), (4, .int (nI (5 * k)))] → W p l e room_1 s m #[Value.ref b] below meth c H locs (47 + (k + 1)) (8436 + 6 * (k + 1)) (lw_Z below #[Value.ref b] s) (F0 m 1520 ls [])) : W p l e room_1 s m #[Value.ref b] below meth c H locs (47 + k) (8436 + 6 * k) (lw_Z below #[Value.ref b] s) (F0 m 1052 ls []) := by
  obtain ⟨hx, hb, hr, hml, hown, hts, hXs, hbl, hlocks, hgv⟩ := id C0
  have hown : s.vm.findClass RL = some m.cls := hown
  have hts : ∀ w ∈ wsL_law, w.before #[Value.ref b] s = true := fun w h => hts w (wsL_law_in w h)
  have hA : ∀ q : Nat, s.heap.size ≤ q → (fun q : Nat => s.heap.size ≤ q) q := fun _ h => h
  have hbA : ¬ (fun q : Nat => s.heap.size ≤ q) b := Nat.not_le.mpr hbl
  obtain ⟨x, y, n, th, un, ju, ch, tm, ba, thr, hO, hM, hag⟩ := hLI
  have hn := t_mob_n hM
  obtain ⟨fs, hfs⟩ := t_obj_hd hO
  obtain ⟨fsm, hfsm⟩ := t_mob_hd hM
  refine lv_aload_n hx hb dL_law_1052 rfl (lv_at hl 1 rfl) ?_
  refine lv_aload_n hx hb dL_law_1053 rfl (lv_at hl 0 rfl) ?_
  refine lv_iload hx hb dL_law_1054 (lv_at hl 4 rfl) ?_
  refine lv_iconst (v := ((nI 1) : Int32)) hx hb dL_law_1056 (by decide +kernel) ?_
  refine tv_iadd (a := 5 * k) (b := 1) hx hb dL_law_1057 ?_
  refine va_sld hx hb hXs hbl hbA hS (vp_in_nI (by omega) (by omega)) dL_law_1058 ?_
  refine tv_re (y := xs ((5 * k) + 1)) (by rw [nI_clamp (by omega)]) ?_
  refine lv_aload_n hx hb dL_law_1059 rfl (lv_at hl 3 rfl) ?_
  have hPc : va_P D vwCl ((q, .inl (cL, 1, .inr (.inl o))) :: Wo) H := t_fstP (b := (q, .inl (cL, 1, .inr (.inl o))) :: Wo) (c := Wm) hP
  have hDc : va_D (fun q : Nat => s.heap.size ≤ q) ((q, .inl (cL, 1, .inr (.inl o))) :: Wo) := t_fstD (b := (q, .inl (cL, 1, .inr (.inl o))) :: Wo) (c := Wm) hD
  have hFc := t_fstF (b := (q, .inl (cL, 1, .inr (.inl o))) :: Wo) (c := Wm) hD hS hA
  refine va_calli (vx_runSW (As := [.ref h, .int (xs ((5 * k) + 1)), .ref q]) (rest := []) ⟨hx, hb, hml, hown, hts⟩ (c_L_lag l hl0 D cI cL Wo h x n th un ju ch tm ba (xs ((5 * k) + 1)) q o hO H.size) (vx_cwSW 3 hts gL_law_L_lag rfl rfl rfl (by decide +kernel) ⟨Nat.le_of_ble_eq_true rfl, Nat.le_of_ble_eq_true rfl⟩) ⟨t_wPcX_blind, fun U hU hW => ⟨rfl, by rw [hU], by rw [hU]; exact hPc, va_K.moved hW.alike hK, hDc.weaken (fun _ _ _ _ => trivial), by rw [hU]; exact ((hX.kept hS.2.1).narrow hFc).moved hW⟩⟩ rfl rfl hl.1 rfl (lv_room (Nat.le_of_ble_eq_true rfl)) dL_law_1060 ⟨(show 47 + k + 1 ≤ 1074 by omega), (show 8436 + 6 * k + 6 ≤ 11629 by omega)⟩) hS (fun q _ h => hFc q h) hFc (fun r1 u t H1 locs ht hvm hw hB hz1 hk1 hS => ?_)
  obtain ⟨hP1, hK1, hD1⟩ := hB
  rw [ht] at hP1
  obtain ⟨hP, hD⟩ := t_jfst (b := (q, .inl (cL, 1, .inr (.inl o))) :: Wo) (c := Wm) hP hD hk1 hFc hP1 hD1
  obtain ⟨o1, W1, hu, hwc⟩ := hw
  subst hu
  have hP : va_P D vwCl ((q, .inl (cL, 1, .inr (.inl o1))) :: (W1 ++ Wm)) H1 := hP
  have hD : va_D (fun q : Nat => s.heap.size ≤ q) ((q, .inl (cL, 1, .inr (.inl o1))) :: (W1 ++ Wm)) := hD
  clear hP1 hD1 hK1 hPc hDc hFc hvm hz1 hk1 ht
  generalize H1 = H at hP hS ⊢
  refine lv_istore (lv' := [(5, .int r1), (0, .ref b), (1, .ref h), (2, .ref g), (3, .ref q), (4, .int (nI (5 * k)))]) hx hb dL_law_1063 hl (by decide) rfl (fun ls hl => ?_)
  refine lv_aload_n hx hb dL_law_1065 rfl (lv_at hl 3 rfl) ?_
  refine lv_aload_n hx hb dL_law_1066 rfl (lv_at hl 1 rfl) ?_
  refine lv_iload hx hb dL_law_1067 (lv_at hl 5 rfl) ?_
  refine lv_iconst (v := ((nI 1) : Int32)) hx hb dL_law_1069 (by decide +kernel) ?_
  refine tv_iadd (a := 5 * k) (b := 1) hx hb dL_law_1070 ?_
  refine va_sld hx hb hXs hbl hbA hS (vp_in_nI (by omega) (by omega)) dL_law_1071 ?_
  refine tv_re (y := xs ((5 * k) + 1)) (by rw [nI_clamp (by omega)]) ?_
  have hPc : va_P D vwCl Wm H := t_endP (a := (q, .inl (cL, 1, .inr (.inl o1))) :: W1) hP
  have hDc : va_D (fun q : Nat => s.heap.size ≤ q) Wm := t_endD (a := (q, .inl (cL, 1, .inr (.inl o1))) :: W1) hD
  have hFc := t_endF (a := (q, .inl (cL, 1, .inr (.inl o1))) :: W1) hD hS hA
  refine va_calli (va_runV (As := [.int (xs ((5 * k) + 1))]) (rest := []) ⟨hx, hb, hml, hown, hts⟩ (c_X9_lag l D cI cL Wm g y n th un ju ch tm ba thr (xs ((5 * k) + 1)) hM H.size) (cwV 1 hts gL_law_X9_lag rfl rfl rfl (by decide +kernel) ⟨Nat.le_of_ble_eq_true rfl, Nat.le_of_ble_eq_true rfl⟩) ⟨t_wPc_blind, va_recv hK hPc (ci := 9) (q0 := 0) rfl hfsm, fun U hU hW => ⟨rfl, by rw [hU], by rw [hU]; exact hPc, va_K.moved hW.alike hK, hDc.weaken (fun _ _ _ _ => trivial)⟩⟩ rfl rfl hl.1 rfl (lv_room (Nat.le_of_ble_eq_true rfl)) dL_law_1072 ⟨(show 47 + k + 1 + 0 ≤ 1074 by omega), (show 8436 + 6 * k + 6 + 0 ≤ 11629 by omega)⟩) hS (fun q _ h => hFc q h) hFc (fun b1 u t H1 locs ht hvm hw hB hz1 hk1 hS => ?_)
  obtain ⟨hP1, hK1, hD1⟩ := hB
  rw [ht] at hP1
  obtain ⟨hP, hD⟩ := t_jend (a := (q, .inl (cL, 1, .inr (.inl o1))) :: W1) hP hD hk1 hFc hP1 hD1
  have hwm := hw
  obtain ⟨M1, huM1⟩ : ∃ W1, W1 = u := ⟨_, rfl⟩
  rw [← huM1] at hP hD hwm
  have hP : va_P D vwCl ((q, .inl (cL, 1, .inr (.inl o1))) :: (W1 ++ M1)) H1 := hP
  have hD : va_D (fun q : Nat => s.heap.size ≤ q) ((q, .inl (cL, 1, .inr (.inl o1))) :: (W1 ++ M1)) := hD
  clear hP1 hD1 hK1 hPc hDc hFc hvm hz1 hk1 ht
  generalize H1 = H at hP hS ⊢
  obtain ⟨h0, x2, y2, n2, th2, un2, ju2, ch2, tm2, ba2, hO2, hM2, hag2⟩ := t_pr_lag (r := r1)  hag hn hwc hwm
  refine lv_istore (lv' := [(6, .int b1), (5, .int r1), (0, .ref b), (1, .ref h), (2, .ref g), (3, .ref q), (4, .int (nI (5 * k)))]) hx hb dL_law_1075 hl (by decide) rfl (fun ls hl => ?_)
  refine lv_aload_n hx hb dL_law_1077 rfl (lv_at hl 4 rfl) ?_
  have hPc : va_P D vwCl M1 H := t_endP (a := (q, .inl (cL, 1, .inr (.inl o1))) :: W1) hP
  have hDc : va_D (fun q : Nat => s.heap.size ≤ q) M1 := t_endD (a := (q, .inl (cL, 1, .inr (.inl o1))) :: W1) hD
  have hFc := t_endF (a := (q, .inl (cL, 1, .inr (.inl o1))) :: W1) hD hS hA
  obtain ⟨fsm, hfsm⟩ := t_mob_hd hM2
  refine va_calli (va_runV (As := []) (rest := []) ⟨hx, hb, hml, hown, hts⟩ (c_X9_thrown l D cI cL M1 g y2 n2 th2 un2 ju2 ch2 tm2 ba2 r1 hM2 H.size) (cwV 0 hts gL_law_X9_thrown rfl rfl rfl (by decide +kernel) ⟨Nat.le_of_ble_eq_true rfl, Nat.le_of_ble_eq_true rfl⟩) ⟨t_wPc_blind, va_recv hK hPc (ci := 9) (q0 := 0) rfl hfsm, fun U hU hW => ⟨rfl, by rw [hU], by rw [hU]; exact hPc, va_K.moved hW.alike hK, hDc.weaken (fun _ _ _ _ => trivial)⟩⟩ rfl rfl hl.1 rfl (lv_room (Nat.le_of_ble_eq_true rfl)) dL_law_1078 ⟨(show 47 + k + 1 + 0 ≤ 1074 by omega), (show 8436 + 6 * k + 6 + 0 ≤ 11629 by omega)⟩) hS (fun q _ h => hFc q h) hFc (fun r3 u t H1 locs ht hvm hw hB hz1 hk1 hS => ?_)
  obtain ⟨hP1, hK1, hD1⟩ := hB
  rw [ht] at hP1
  obtain ⟨hP, hD⟩ := t_jend (a := (q, .inl (cL, 1, .inr (.inl o1))) :: W1) hP hD hk1 hFc hP1 hD1
  obtain ⟨M2, huM2⟩ : ∃ W1, W1 = u := ⟨_, rfl⟩
  rw [← huM2] at hP hD hw
  have hP : va_P D vwCl ((q, .inl (cL, 1, .inr (.inl o1))) :: (W1 ++ M2)) H1 := hP
  have hD : va_D (fun q : Nat => s.heap.size ≤ q) ((q, .inl (cL, 1, .inr (.inl o1))) :: (W1 ++ M2)) := hD
  clear hP1 hD1 hK1 hPc hDc hFc hvm hz1 hk1 ht
  generalize H1 = H at hP hS ⊢
  obtain ⟨h3, hM3⟩ := hw
  refine tv_re (y := r1) h3 ?_
  have hLI2 : t_LI cI h g W1 M2 := t_LJ_LI hO2 hM3 hag2
  refine lv_iload hx hb dL_law_1081 (lv_at hl 1 rfl) ?_
  refine lv_icmp_eq (tgt := 1088) hx hb dL_law_1083 (by decide) (fun q1083_1 => ?_) (fun q1083_1 => absurd rfl q1083_1)
  refine lv_iload hx hb dL_law_1088 (lv_at hl 1 rfl) ?_
  refine lv_if_ne (tgt := 1105) hx hb dL_law_1090 (by decide) (fun q1090_2 => ?_) (fun q1090_2 => ?_)
  · refine lv_goto (tgt := 1520) hx hb dL_law_1105 (by decide) ?_
    exact kk _ _ _ _ _ _ hLI2 hP hD hS (lv_sub hl [2, 3, 4, 5, 6] rfl)
  · refine lv_aload_n hx hb dL_law_1093 rfl (lv_at hl 5 rfl) ?_
    refine lv_iconst (v := ((nI 0) : Int32)) hx hb dL_law_1094 (by decide +kernel) ?_
    refine va_lald hx hb hK hP 0 1 rfl rfl (vp_in_nI (by decide) (by decide)) dL_law_1095 ?_
    refine tv_reL (y := o1 0) (by rw [nI_clamp (by decide)]) ?_
    refine lv_iload hx hb dL_law_1096 (lv_at hl 0 rfl) ?_
    refine lv_i2l hx hb dL_law_1098 rfl ?_
    refine W.lcmp hx hb dL_law_1099 ?_
    refine tv_cmp_eq (tgt := 1105) hx hb dL_law_1100 (by decide) (fun q1100_3 => ?_) (fun q1100_3 => absurd (h0 (q1090_2.trans nI_0.symm)) q1100_3)
    refine lv_goto (tgt := 1520) hx hb dL_law_1105 (by decide) ?_
    exact kk _ _ _ _ _ _ hLI2 hP hD hS (lv_sub hl [2, 3, 4, 5, 6] rfl)

set_option maxHeartbeats 4000000 in
set_option maxRecDepth 100000 in
theorem law_c18 {p : Program} {l : Launch} {e : Env} {s : State} {m : MethodId} {below : List Frame} {meth : Method} {c : Code} {D : va_G} {cI cL : ClassId} {b L : Nat} {xs : Nat → Int32} {h g q k : Nat} {o : Nat → Int64} {Wo Wm : va_W} {H : Heap} {locs : List Loc} {ls : Array Slot} (hl0 : l.stackTraces = false) (C0 : lw_At p s m meth c b L xs) (hL : L ≤ 2560) (hk : 5 * k + 5 ≤ L) (hK : va_K D vwCl [(cI, .int), (cL, .long)] s) (hX : t_X (fun q : Nat => s.heap.size ≤ q) s s.heap) (hLI : t_LI cI h g Wo Wm) (hP : va_P D vwCl ((q, .inl (cL, 1, .inr (.inl o))) :: (Wo ++ Wm)) H) (hD : va_D (fun q : Nat => s.heap.size ≤ q) ((q, .inl (cL, 1, .inr (.inl o))) :: (Wo ++ Wm))) (hS : va_S (fun q : Nat => s.heap.size ≤ q) s.heap H locs) (hl : lv_has ls 7 [(0, .ref b), (1, .ref h), (2, .ref g), (3, .ref q), (4, .int (nI (5 * k)))]) (kk : ∀ (o : Nat → Int64) (Wo Wm : va_W) (H : Heap) (locs : List Loc) (ls : Array Slot), t_LI cI h g Wo Wm → va_P D vwCl ((q, .inl (cL, 1, .inr (.inl o))) :: (Wo ++ Wm)) H → va_D (fun q : Nat => s.heap.size ≤ q) ((q, .inl (cL, 1, .inr (.inl o))) :: (Wo ++ Wm)) → va_S (fun q : Nat => s.heap.size ≤ q) s.heap H locs → lv_has ls 7 [(0, .ref b), (1, .ref h), (2, .ref g), (3, .ref q), (4, .int (nI (5 * k)))] → W p l e room_1 s m #[Value.ref b] below meth c H locs (47 + (k + 1)) (8436 + 6 * (k + 1)) (lw_Z below #[Value.ref b] s) (F0 m 1520 ls [])) : W p l e room_1 s m #[Value.ref b] below meth c H locs (47 + k) (8436 + 6 * k) (lw_Z below #[Value.ref b] s) (F0 m 1108 ls []) := by
  obtain ⟨hx, hb, hr, hml, hown, hts, hXs, hbl, hlocks, hgv⟩ := id C0
  have hown : s.vm.findClass RL = some m.cls := hown
  have hts : ∀ w ∈ wsL_law, w.before #[Value.ref b] s = true := fun w h => hts w (wsL_law_in w h)
  have hA : ∀ q : Nat, s.heap.size ≤ q → (fun q : Nat => s.heap.size ≤ q) q := fun _ h => h
  have hbA : ¬ (fun q : Nat => s.heap.size ≤ q) b := Nat.not_le.mpr hbl
  obtain ⟨x, y, n, th, un, ju, ch, tm, ba, thr, hO, hM, hag⟩ := hLI
  have hn := t_mob_n hM
  obtain ⟨fs, hfs⟩ := t_obj_hd hO
  obtain ⟨fsm, hfsm⟩ := t_mob_hd hM
  refine lv_aload_n hx hb dL_law_1108 rfl (lv_at hl 1 rfl) ?_
  refine lv_aload_n hx hb dL_law_1109 rfl (lv_at hl 0 rfl) ?_
  refine lv_iload hx hb dL_law_1110 (lv_at hl 4 rfl) ?_
  refine lv_iconst (v := ((nI 1) : Int32)) hx hb dL_law_1112 (by decide +kernel) ?_
  refine tv_iadd (a := 5 * k) (b := 1) hx hb dL_law_1113 ?_
  refine va_sld hx hb hXs hbl hbA hS (vp_in_nI (by omega) (by omega)) dL_law_1114 ?_
  refine tv_re (y := xs ((5 * k) + 1)) (by rw [nI_clamp (by omega)]) ?_
  refine lv_aload_n hx hb dL_law_1115 rfl (lv_at hl 3 rfl) ?_
  have hPc : va_P D vwCl ((q, .inl (cL, 1, .inr (.inl o))) :: Wo) H := t_fstP (b := (q, .inl (cL, 1, .inr (.inl o))) :: Wo) (c := Wm) hP
  have hDc : va_D (fun q : Nat => s.heap.size ≤ q) ((q, .inl (cL, 1, .inr (.inl o))) :: Wo) := t_fstD (b := (q, .inl (cL, 1, .inr (.inl o))) :: Wo) (c := Wm) hD
  have hFc := t_fstF (b := (q, .inl (cL, 1, .inr (.inl o))) :: Wo) (c := Wm) hD hS hA
  refine va_calli (vx_runSW (As := [.ref h, .int (xs ((5 * k) + 1)), .ref q]) (rest := []) ⟨hx, hb, hml, hown, hts⟩ (c_L_period l hl0 D cI cL Wo h x n th un ju ch tm ba (xs ((5 * k) + 1)) q o hO H.size) (vx_cwSW 3 hts gL_law_L_period rfl rfl rfl (by decide +kernel) ⟨Nat.le_of_ble_eq_true rfl, Nat.le_of_ble_eq_true rfl⟩) ⟨t_wPcX_blind, fun U hU hW => ⟨rfl, by rw [hU], by rw [hU]; exact hPc, va_K.moved hW.alike hK, hDc.weaken (fun _ _ _ _ => trivial), by rw [hU]; exact ((hX.kept hS.2.1).narrow hFc).moved hW⟩⟩ rfl rfl hl.1 rfl (lv_room (Nat.le_of_ble_eq_true rfl)) dL_law_1116 ⟨(show 47 + k + 1 ≤ 1074 by omega), (show 8436 + 6 * k + 6 ≤ 11629 by omega)⟩) hS (fun q _ h => hFc q h) hFc (fun r1 u t H1 locs ht hvm hw hB hz1 hk1 hS => ?_)
  obtain ⟨hP1, hK1, hD1⟩ := hB
  rw [ht] at hP1
  obtain ⟨hP, hD⟩ := t_jfst (b := (q, .inl (cL, 1, .inr (.inl o))) :: Wo) (c := Wm) hP hD hk1 hFc hP1 hD1
  obtain ⟨o1, W1, hu, hwc⟩ := hw
  subst hu
  have hP : va_P D vwCl ((q, .inl (cL, 1, .inr (.inl o1))) :: (W1 ++ Wm)) H1 := hP
  have hD : va_D (fun q : Nat => s.heap.size ≤ q) ((q, .inl (cL, 1, .inr (.inl o1))) :: (W1 ++ Wm)) := hD
  clear hP1 hD1 hK1 hPc hDc hFc hvm hz1 hk1 ht
  generalize H1 = H at hP hS ⊢
  refine lv_istore (lv' := [(5, .int r1), (0, .ref b), (1, .ref h), (2, .ref g), (3, .ref q), (4, .int (nI (5 * k)))]) hx hb dL_law_1119 hl (by decide) rfl (fun ls hl => ?_)
  refine lv_aload_n hx hb dL_law_1121 rfl (lv_at hl 3 rfl) ?_
  refine lv_aload_n hx hb dL_law_1122 rfl (lv_at hl 1 rfl) ?_
  refine lv_iload hx hb dL_law_1123 (lv_at hl 5 rfl) ?_
  refine lv_iconst (v := ((nI 1) : Int32)) hx hb dL_law_1125 (by decide +kernel) ?_
  refine tv_iadd (a := 5 * k) (b := 1) hx hb dL_law_1126 ?_
  refine va_sld hx hb hXs hbl hbA hS (vp_in_nI (by omega) (by omega)) dL_law_1127 ?_
  refine tv_re (y := xs ((5 * k) + 1)) (by rw [nI_clamp (by omega)]) ?_
  have hPc : va_P D vwCl Wm H := t_endP (a := (q, .inl (cL, 1, .inr (.inl o1))) :: W1) hP
  have hDc : va_D (fun q : Nat => s.heap.size ≤ q) Wm := t_endD (a := (q, .inl (cL, 1, .inr (.inl o1))) :: W1) hD
  have hFc := t_endF (a := (q, .inl (cL, 1, .inr (.inl o1))) :: W1) hD hS hA
  refine va_calli (va_runV (As := [.int (xs ((5 * k) + 1))]) (rest := []) ⟨hx, hb, hml, hown, hts⟩ (c_X9_period l D cI cL Wm g y n th un ju ch tm ba thr (xs ((5 * k) + 1)) hM H.size) (cwV 1 hts gL_law_X9_period rfl rfl rfl (by decide +kernel) ⟨Nat.le_of_ble_eq_true rfl, Nat.le_of_ble_eq_true rfl⟩) ⟨t_wPc_blind, va_recv hK hPc (ci := 9) (q0 := 0) rfl hfsm, fun U hU hW => ⟨rfl, by rw [hU], by rw [hU]; exact hPc, va_K.moved hW.alike hK, hDc.weaken (fun _ _ _ _ => trivial)⟩⟩ rfl rfl hl.1 rfl (lv_room (Nat.le_of_ble_eq_true rfl)) dL_law_1128 ⟨(show 47 + k + 1 + 0 ≤ 1074 by omega), (show 8436 + 6 * k + 6 + 0 ≤ 11629 by omega)⟩) hS (fun q _ h => hFc q h) hFc (fun b1 u t H1 locs ht hvm hw hB hz1 hk1 hS => ?_)
  obtain ⟨hP1, hK1, hD1⟩ := hB
  rw [ht] at hP1
  obtain ⟨hP, hD⟩ := t_jend (a := (q, .inl (cL, 1, .inr (.inl o1))) :: W1) hP hD hk1 hFc hP1 hD1
  have hwm := hw
  obtain ⟨M1, huM1⟩ : ∃ W1, W1 = u := ⟨_, rfl⟩
  rw [← huM1] at hP hD hwm
  have hP : va_P D vwCl ((q, .inl (cL, 1, .inr (.inl o1))) :: (W1 ++ M1)) H1 := hP
  have hD : va_D (fun q : Nat => s.heap.size ≤ q) ((q, .inl (cL, 1, .inr (.inl o1))) :: (W1 ++ M1)) := hD
  clear hP1 hD1 hK1 hPc hDc hFc hvm hz1 hk1 ht
  generalize H1 = H at hP hS ⊢
  obtain ⟨h0, x2, y2, n2, th2, un2, ju2, ch2, tm2, ba2, hO2, hM2, hag2⟩ := t_pr_period (r := r1)  hag hn hwc hwm
  refine lv_istore (lv' := [(6, .int b1), (5, .int r1), (0, .ref b), (1, .ref h), (2, .ref g), (3, .ref q), (4, .int (nI (5 * k)))]) hx hb dL_law_1131 hl (by decide) rfl (fun ls hl => ?_)
  refine lv_aload_n hx hb dL_law_1133 rfl (lv_at hl 4 rfl) ?_
  have hPc : va_P D vwCl M1 H := t_endP (a := (q, .inl (cL, 1, .inr (.inl o1))) :: W1) hP
  have hDc : va_D (fun q : Nat => s.heap.size ≤ q) M1 := t_endD (a := (q, .inl (cL, 1, .inr (.inl o1))) :: W1) hD
  have hFc := t_endF (a := (q, .inl (cL, 1, .inr (.inl o1))) :: W1) hD hS hA
  obtain ⟨fsm, hfsm⟩ := t_mob_hd hM2
  refine va_calli (va_runV (As := []) (rest := []) ⟨hx, hb, hml, hown, hts⟩ (c_X9_thrown l D cI cL M1 g y2 n2 th2 un2 ju2 ch2 tm2 ba2 r1 hM2 H.size) (cwV 0 hts gL_law_X9_thrown rfl rfl rfl (by decide +kernel) ⟨Nat.le_of_ble_eq_true rfl, Nat.le_of_ble_eq_true rfl⟩) ⟨t_wPc_blind, va_recv hK hPc (ci := 9) (q0 := 0) rfl hfsm, fun U hU hW => ⟨rfl, by rw [hU], by rw [hU]; exact hPc, va_K.moved hW.alike hK, hDc.weaken (fun _ _ _ _ => trivial)⟩⟩ rfl rfl hl.1 rfl (lv_room (Nat.le_of_ble_eq_true rfl)) dL_law_1134 ⟨(show 47 + k + 1 + 0 ≤ 1074 by omega), (show 8436 + 6 * k + 6 + 0 ≤ 11629 by omega)⟩) hS (fun q _ h => hFc q h) hFc (fun r3 u t H1 locs ht hvm hw hB hz1 hk1 hS => ?_)
  obtain ⟨hP1, hK1, hD1⟩ := hB
  rw [ht] at hP1
  obtain ⟨hP, hD⟩ := t_jend (a := (q, .inl (cL, 1, .inr (.inl o1))) :: W1) hP hD hk1 hFc hP1 hD1
  obtain ⟨M2, huM2⟩ : ∃ W1, W1 = u := ⟨_, rfl⟩
  rw [← huM2] at hP hD hw
  have hP : va_P D vwCl ((q, .inl (cL, 1, .inr (.inl o1))) :: (W1 ++ M2)) H1 := hP
  have hD : va_D (fun q : Nat => s.heap.size ≤ q) ((q, .inl (cL, 1, .inr (.inl o1))) :: (W1 ++ M2)) := hD
  clear hP1 hD1 hK1 hPc hDc hFc hvm hz1 hk1 ht
  generalize H1 = H at hP hS ⊢
  obtain ⟨h3, hM3⟩ := hw
  refine tv_re (y := r1) h3 ?_
  have hLI2 : t_LI cI h g W1 M2 := t_LJ_LI hO2 hM3 hag2
  refine lv_iload hx hb dL_law_1137 (lv_at hl 1 rfl) ?_
  refine lv_icmp_eq (tgt := 1144) hx hb dL_law_1139 (by decide) (fun q1139_1 => ?_) (fun q1139_1 => absurd rfl q1139_1)
  refine lv_iload hx hb dL_law_1144 (lv_at hl 1 rfl) ?_
  refine lv_if_ne (tgt := 1161) hx hb dL_law_1146 (by decide) (fun q1146_2 => ?_) (fun q1146_2 => ?_)
  · refine lv_goto (tgt := 1520) hx hb dL_law_1161 (by decide) ?_
    exact kk _ _ _ _ _ _ hLI2 hP hD hS (lv_sub hl [2, 3, 4, 5, 6] rfl)
  · refine lv_aload_n hx hb dL_law_1149 rfl (lv_at hl 5 rfl) ?_
    refine lv_iconst (v := ((nI 0) : Int32)) hx hb dL_law_1150 (by decide +kernel) ?_
    refine va_lald hx hb hK hP 0 1 rfl rfl (vp_in_nI (by decide) (by decide)) dL_law_1151 ?_
    refine tv_reL (y := o1 0) (by rw [nI_clamp (by decide)]) ?_
    refine lv_iload hx hb dL_law_1152 (lv_at hl 0 rfl) ?_
    refine lv_i2l hx hb dL_law_1154 rfl ?_
    refine W.lcmp hx hb dL_law_1155 ?_
    refine tv_cmp_eq (tgt := 1161) hx hb dL_law_1156 (by decide) (fun q1156_3 => ?_) (fun q1156_3 => absurd (h0 (q1146_2.trans nI_0.symm)) q1156_3)
    refine lv_goto (tgt := 1520) hx hb dL_law_1161 (by decide) ?_
    exact kk _ _ _ _ _ _ hLI2 hP hD hS (lv_sub hl [2, 3, 4, 5, 6] rfl)

set_option maxHeartbeats 4000000 in
set_option maxRecDepth 100000 in
theorem law_c19 {p : Program} {l : Launch} {e : Env} {s : State} {m : MethodId} {below : List Frame} {meth : Method} {c : Code} {D : va_G} {cI cL : ClassId} {b L : Nat} {xs : Nat → Int32} {h g q k : Nat} {o : Nat → Int64} {Wo Wm : va_W} {H : Heap} {locs : List Loc} {ls : Array Slot} (hl0 : l.stackTraces = false) (C0 : lw_At p s m meth c b L xs) (hL : L ≤ 2560) (hk : 5 * k + 5 ≤ L) (hK : va_K D vwCl [(cI, .int), (cL, .long)] s) (hX : t_X (fun q : Nat => s.heap.size ≤ q) s s.heap) (hLI : t_LI cI h g Wo Wm) (hP : va_P D vwCl ((q, .inl (cL, 1, .inr (.inl o))) :: (Wo ++ Wm)) H) (hD : va_D (fun q : Nat => s.heap.size ≤ q) ((q, .inl (cL, 1, .inr (.inl o))) :: (Wo ++ Wm))) (hS : va_S (fun q : Nat => s.heap.size ≤ q) s.heap H locs) (hl : lv_has ls 7 [(0, .ref b), (1, .ref h), (2, .ref g), (3, .ref q), (4, .int (nI (5 * k)))]) (kk : ∀ (o : Nat → Int64) (Wo Wm : va_W) (H : Heap) (locs : List Loc) (ls : Array Slot), t_LI cI h g Wo Wm → va_P D vwCl ((q, .inl (cL, 1, .inr (.inl o))) :: (Wo ++ Wm)) H → va_D (fun q : Nat => s.heap.size ≤ q) ((q, .inl (cL, 1, .inr (.inl o))) :: (Wo ++ Wm)) → va_S (fun q : Nat => s.heap.size ≤ q) s.heap H locs → lv_has ls 7 [(0, .ref b), (1, .ref h), (2, .ref g), (3, .ref q), (4, .int (nI (5 * k)))] → W p l e room_1 s m #[Value.ref b] below meth c H locs (47 + (k + 1)) (8436 + 6 * (k + 1)) (lw_Z below #[Value.ref b] s) (F0 m 1520 ls [])) : W p l e room_1 s m #[Value.ref b] below meth c H locs (47 + k) (8436 + 6 * k) (lw_Z below #[Value.ref b] s) (F0 m 1164 ls []) := by
  obtain ⟨hx, hb, hr, hml, hown, hts, hXs, hbl, hlocks, hgv⟩ := id C0
  have hown : s.vm.findClass RL = some m.cls := hown
  have hts : ∀ w ∈ wsL_law, w.before #[Value.ref b] s = true := fun w h => hts w (wsL_law_in w h)
  have hA : ∀ q : Nat, s.heap.size ≤ q → (fun q : Nat => s.heap.size ≤ q) q := fun _ h => h
  have hbA : ¬ (fun q : Nat => s.heap.size ≤ q) b := Nat.not_le.mpr hbl
  obtain ⟨x, y, n, th, un, ju, ch, tm, ba, thr, hO, hM, hag⟩ := hLI
  have hn := t_mob_n hM
  obtain ⟨fs, hfs⟩ := t_obj_hd hO
  obtain ⟨fsm, hfsm⟩ := t_mob_hd hM
  refine lv_aload_n hx hb dL_law_1164 rfl (lv_at hl 1 rfl) ?_
  refine lv_aload_n hx hb dL_law_1165 rfl (lv_at hl 0 rfl) ?_
  refine lv_iload hx hb dL_law_1166 (lv_at hl 4 rfl) ?_
  refine lv_iconst (v := ((nI 1) : Int32)) hx hb dL_law_1168 (by decide +kernel) ?_
  refine tv_iadd (a := 5 * k) (b := 1) hx hb dL_law_1169 ?_
  refine va_sld hx hb hXs hbl hbA hS (vp_in_nI (by omega) (by omega)) dL_law_1170 ?_
  refine tv_re (y := xs ((5 * k) + 1)) (by rw [nI_clamp (by omega)]) ?_
  refine lv_aload_n hx hb dL_law_1171 rfl (lv_at hl 3 rfl) ?_
  have hPc : va_P D vwCl ((q, .inl (cL, 1, .inr (.inl o))) :: Wo) H := t_fstP (b := (q, .inl (cL, 1, .inr (.inl o))) :: Wo) (c := Wm) hP
  have hDc : va_D (fun q : Nat => s.heap.size ≤ q) ((q, .inl (cL, 1, .inr (.inl o))) :: Wo) := t_fstD (b := (q, .inl (cL, 1, .inr (.inl o))) :: Wo) (c := Wm) hD
  have hFc := t_fstF (b := (q, .inl (cL, 1, .inr (.inl o))) :: Wo) (c := Wm) hD hS hA
  refine va_calli (vx_runSW (As := [.ref h, .int (xs ((5 * k) + 1)), .ref q]) (rest := []) ⟨hx, hb, hml, hown, hts⟩ (c_L_name l hl0 D cI cL Wo h x n th un ju ch tm ba (xs ((5 * k) + 1)) q o hO H.size) (vx_cwSW 3 hts gL_law_L_name rfl rfl rfl (by decide +kernel) ⟨Nat.le_of_ble_eq_true rfl, Nat.le_of_ble_eq_true rfl⟩) ⟨t_wPcX_blind, fun U hU hW => ⟨rfl, by rw [hU], by rw [hU]; exact hPc, va_K.moved hW.alike hK, hDc.weaken (fun _ _ _ _ => trivial), by rw [hU]; exact ((hX.kept hS.2.1).narrow hFc).moved hW⟩⟩ rfl rfl hl.1 rfl (lv_room (Nat.le_of_ble_eq_true rfl)) dL_law_1172 ⟨(show 47 + k + 1 ≤ 1074 by omega), (show 8436 + 6 * k + 6 ≤ 11629 by omega)⟩) hS (fun q _ h => hFc q h) hFc (fun r1 u t H1 locs ht hvm hw hB hz1 hk1 hS => ?_)
  obtain ⟨hP1, hK1, hD1⟩ := hB
  rw [ht] at hP1
  obtain ⟨hP, hD⟩ := t_jfst (b := (q, .inl (cL, 1, .inr (.inl o))) :: Wo) (c := Wm) hP hD hk1 hFc hP1 hD1
  obtain ⟨o1, W1, hu, hwc⟩ := hw
  subst hu
  have hP : va_P D vwCl ((q, .inl (cL, 1, .inr (.inl o1))) :: (W1 ++ Wm)) H1 := hP
  have hD : va_D (fun q : Nat => s.heap.size ≤ q) ((q, .inl (cL, 1, .inr (.inl o1))) :: (W1 ++ Wm)) := hD
  clear hP1 hD1 hK1 hPc hDc hFc hvm hz1 hk1 ht
  generalize H1 = H at hP hS ⊢
  refine lv_istore (lv' := [(5, .int r1), (0, .ref b), (1, .ref h), (2, .ref g), (3, .ref q), (4, .int (nI (5 * k)))]) hx hb dL_law_1175 hl (by decide) rfl (fun ls hl => ?_)
  refine lv_aload_n hx hb dL_law_1177 rfl (lv_at hl 3 rfl) ?_
  refine lv_aload_n hx hb dL_law_1178 rfl (lv_at hl 1 rfl) ?_
  refine lv_iload hx hb dL_law_1179 (lv_at hl 5 rfl) ?_
  refine lv_iconst (v := ((nI 1) : Int32)) hx hb dL_law_1181 (by decide +kernel) ?_
  refine tv_iadd (a := 5 * k) (b := 1) hx hb dL_law_1182 ?_
  refine va_sld hx hb hXs hbl hbA hS (vp_in_nI (by omega) (by omega)) dL_law_1183 ?_
  refine tv_re (y := xs ((5 * k) + 1)) (by rw [nI_clamp (by omega)]) ?_
  have hPc : va_P D vwCl Wm H := t_endP (a := (q, .inl (cL, 1, .inr (.inl o1))) :: W1) hP
  have hDc : va_D (fun q : Nat => s.heap.size ≤ q) Wm := t_endD (a := (q, .inl (cL, 1, .inr (.inl o1))) :: W1) hD
  have hFc := t_endF (a := (q, .inl (cL, 1, .inr (.inl o1))) :: W1) hD hS hA
  refine va_calli (va_runV (As := [.int (xs ((5 * k) + 1))]) (rest := []) ⟨hx, hb, hml, hown, hts⟩ (c_X9_name l D cI cL Wm g y n th un ju ch tm ba thr (xs ((5 * k) + 1)) hM H.size) (cwV 1 hts gL_law_X9_name rfl rfl rfl (by decide +kernel) ⟨Nat.le_of_ble_eq_true rfl, Nat.le_of_ble_eq_true rfl⟩) ⟨t_wPc_blind, va_recv hK hPc (ci := 9) (q0 := 0) rfl hfsm, fun U hU hW => ⟨rfl, by rw [hU], by rw [hU]; exact hPc, va_K.moved hW.alike hK, hDc.weaken (fun _ _ _ _ => trivial)⟩⟩ rfl rfl hl.1 rfl (lv_room (Nat.le_of_ble_eq_true rfl)) dL_law_1184 ⟨(show 47 + k + 1 + 0 ≤ 1074 by omega), (show 8436 + 6 * k + 6 + 0 ≤ 11629 by omega)⟩) hS (fun q _ h => hFc q h) hFc (fun b1 u t H1 locs ht hvm hw hB hz1 hk1 hS => ?_)
  obtain ⟨hP1, hK1, hD1⟩ := hB
  rw [ht] at hP1
  obtain ⟨hP, hD⟩ := t_jend (a := (q, .inl (cL, 1, .inr (.inl o1))) :: W1) hP hD hk1 hFc hP1 hD1
  have hwm := hw
  obtain ⟨M1, huM1⟩ : ∃ W1, W1 = u := ⟨_, rfl⟩
  rw [← huM1] at hP hD hwm
  have hP : va_P D vwCl ((q, .inl (cL, 1, .inr (.inl o1))) :: (W1 ++ M1)) H1 := hP
  have hD : va_D (fun q : Nat => s.heap.size ≤ q) ((q, .inl (cL, 1, .inr (.inl o1))) :: (W1 ++ M1)) := hD
  clear hP1 hD1 hK1 hPc hDc hFc hvm hz1 hk1 ht
  generalize H1 = H at hP hS ⊢
  obtain ⟨h0, x2, y2, n2, th2, un2, ju2, ch2, tm2, ba2, hO2, hM2, hag2⟩ := t_pr_name (r := r1)  hag hn hwc hwm
  refine lv_istore (lv' := [(6, .int b1), (5, .int r1), (0, .ref b), (1, .ref h), (2, .ref g), (3, .ref q), (4, .int (nI (5 * k)))]) hx hb dL_law_1187 hl (by decide) rfl (fun ls hl => ?_)
  refine lv_aload_n hx hb dL_law_1189 rfl (lv_at hl 4 rfl) ?_
  have hPc : va_P D vwCl M1 H := t_endP (a := (q, .inl (cL, 1, .inr (.inl o1))) :: W1) hP
  have hDc : va_D (fun q : Nat => s.heap.size ≤ q) M1 := t_endD (a := (q, .inl (cL, 1, .inr (.inl o1))) :: W1) hD
  have hFc := t_endF (a := (q, .inl (cL, 1, .inr (.inl o1))) :: W1) hD hS hA
  obtain ⟨fsm, hfsm⟩ := t_mob_hd hM2
  refine va_calli (va_runV (As := []) (rest := []) ⟨hx, hb, hml, hown, hts⟩ (c_X9_thrown l D cI cL M1 g y2 n2 th2 un2 ju2 ch2 tm2 ba2 r1 hM2 H.size) (cwV 0 hts gL_law_X9_thrown rfl rfl rfl (by decide +kernel) ⟨Nat.le_of_ble_eq_true rfl, Nat.le_of_ble_eq_true rfl⟩) ⟨t_wPc_blind, va_recv hK hPc (ci := 9) (q0 := 0) rfl hfsm, fun U hU hW => ⟨rfl, by rw [hU], by rw [hU]; exact hPc, va_K.moved hW.alike hK, hDc.weaken (fun _ _ _ _ => trivial)⟩⟩ rfl rfl hl.1 rfl (lv_room (Nat.le_of_ble_eq_true rfl)) dL_law_1190 ⟨(show 47 + k + 1 + 0 ≤ 1074 by omega), (show 8436 + 6 * k + 6 + 0 ≤ 11629 by omega)⟩) hS (fun q _ h => hFc q h) hFc (fun r3 u t H1 locs ht hvm hw hB hz1 hk1 hS => ?_)
  obtain ⟨hP1, hK1, hD1⟩ := hB
  rw [ht] at hP1
  obtain ⟨hP, hD⟩ := t_jend (a := (q, .inl (cL, 1, .inr (.inl o1))) :: W1) hP hD hk1 hFc hP1 hD1
  obtain ⟨M2, huM2⟩ : ∃ W1, W1 = u := ⟨_, rfl⟩
  rw [← huM2] at hP hD hw
  have hP : va_P D vwCl ((q, .inl (cL, 1, .inr (.inl o1))) :: (W1 ++ M2)) H1 := hP
  have hD : va_D (fun q : Nat => s.heap.size ≤ q) ((q, .inl (cL, 1, .inr (.inl o1))) :: (W1 ++ M2)) := hD
  clear hP1 hD1 hK1 hPc hDc hFc hvm hz1 hk1 ht
  generalize H1 = H at hP hS ⊢
  obtain ⟨h3, hM3⟩ := hw
  refine tv_re (y := r1) h3 ?_
  have hLI2 : t_LI cI h g W1 M2 := t_LJ_LI hO2 hM3 hag2
  refine lv_iload hx hb dL_law_1193 (lv_at hl 1 rfl) ?_
  refine lv_icmp_eq (tgt := 1200) hx hb dL_law_1195 (by decide) (fun q1195_1 => ?_) (fun q1195_1 => absurd rfl q1195_1)
  refine lv_iload hx hb dL_law_1200 (lv_at hl 1 rfl) ?_
  refine lv_if_ne (tgt := 1217) hx hb dL_law_1202 (by decide) (fun q1202_2 => ?_) (fun q1202_2 => ?_)
  · refine lv_goto (tgt := 1520) hx hb dL_law_1217 (by decide) ?_
    exact kk _ _ _ _ _ _ hLI2 hP hD hS (lv_sub hl [2, 3, 4, 5, 6] rfl)
  · refine lv_aload_n hx hb dL_law_1205 rfl (lv_at hl 5 rfl) ?_
    refine lv_iconst (v := ((nI 0) : Int32)) hx hb dL_law_1206 (by decide +kernel) ?_
    refine va_lald hx hb hK hP 0 1 rfl rfl (vp_in_nI (by decide) (by decide)) dL_law_1207 ?_
    refine tv_reL (y := o1 0) (by rw [nI_clamp (by decide)]) ?_
    refine lv_iload hx hb dL_law_1208 (lv_at hl 0 rfl) ?_
    refine lv_i2l hx hb dL_law_1210 rfl ?_
    refine W.lcmp hx hb dL_law_1211 ?_
    refine tv_cmp_eq (tgt := 1217) hx hb dL_law_1212 (by decide) (fun q1212_3 => ?_) (fun q1212_3 => absurd (h0 (q1202_2.trans nI_0.symm)) q1212_3)
    refine lv_goto (tgt := 1520) hx hb dL_law_1217 (by decide) ?_
    exact kk _ _ _ _ _ _ hLI2 hP hD hS (lv_sub hl [2, 3, 4, 5, 6] rfl)

set_option maxHeartbeats 4000000 in
set_option maxRecDepth 100000 in
theorem law_c20 {p : Program} {l : Launch} {e : Env} {s : State} {m : MethodId} {below : List Frame} {meth : Method} {c : Code} {D : va_G} {cI cL : ClassId} {b L : Nat} {xs : Nat → Int32} {h g q k : Nat} {o : Nat → Int64} {Wo Wm : va_W} {H : Heap} {locs : List Loc} {ls : Array Slot} (hl0 : l.stackTraces = false) (C0 : lw_At p s m meth c b L xs) (hL : L ≤ 2560) (hk : 5 * k + 5 ≤ L) (hK : va_K D vwCl [(cI, .int), (cL, .long)] s) (hX : t_X (fun q : Nat => s.heap.size ≤ q) s s.heap) (hLI : t_LI cI h g Wo Wm) (hP : va_P D vwCl ((q, .inl (cL, 1, .inr (.inl o))) :: (Wo ++ Wm)) H) (hD : va_D (fun q : Nat => s.heap.size ≤ q) ((q, .inl (cL, 1, .inr (.inl o))) :: (Wo ++ Wm))) (hS : va_S (fun q : Nat => s.heap.size ≤ q) s.heap H locs) (hl : lv_has ls 7 [(0, .ref b), (1, .ref h), (2, .ref g), (3, .ref q), (4, .int (nI (5 * k)))]) (kk : ∀ (o : Nat → Int64) (Wo Wm : va_W) (H : Heap) (locs : List Loc) (ls : Array Slot), t_LI cI h g Wo Wm → va_P D vwCl ((q, .inl (cL, 1, .inr (.inl o))) :: (Wo ++ Wm)) H → va_D (fun q : Nat => s.heap.size ≤ q) ((q, .inl (cL, 1, .inr (.inl o))) :: (Wo ++ Wm)) → va_S (fun q : Nat => s.heap.size ≤ q) s.heap H locs → lv_has ls 7 [(0, .ref b), (1, .ref h), (2, .ref g), (3, .ref q), (4, .int (nI (5 * k)))] → W p l e room_1 s m #[Value.ref b] below meth c H locs (47 + (k + 1)) (8436 + 6 * (k + 1)) (lw_Z below #[Value.ref b] s) (F0 m 1520 ls [])) : W p l e room_1 s m #[Value.ref b] below meth c H locs (47 + k) (8436 + 6 * k) (lw_Z below #[Value.ref b] s) (F0 m 1220 ls []) := by
  obtain ⟨hx, hb, hr, hml, hown, hts, hXs, hbl, hlocks, hgv⟩ := id C0
  have hown : s.vm.findClass RL = some m.cls := hown
  have hts : ∀ w ∈ wsL_law, w.before #[Value.ref b] s = true := fun w h => hts w (wsL_law_in w h)
  have hA : ∀ q : Nat, s.heap.size ≤ q → (fun q : Nat => s.heap.size ≤ q) q := fun _ h => h
  have hbA : ¬ (fun q : Nat => s.heap.size ≤ q) b := Nat.not_le.mpr hbl
  obtain ⟨x, y, n, th, un, ju, ch, tm, ba, thr, hO, hM, hag⟩ := hLI
  have hn := t_mob_n hM
  obtain ⟨fs, hfs⟩ := t_obj_hd hO
  obtain ⟨fsm, hfsm⟩ := t_mob_hd hM
  refine lv_aload_n hx hb dL_law_1220 rfl (lv_at hl 1 rfl) ?_
  refine lv_aload_n hx hb dL_law_1221 rfl (lv_at hl 0 rfl) ?_
  refine lv_iload hx hb dL_law_1222 (lv_at hl 4 rfl) ?_
  refine lv_iconst (v := ((nI 1) : Int32)) hx hb dL_law_1224 (by decide +kernel) ?_
  refine tv_iadd (a := 5 * k) (b := 1) hx hb dL_law_1225 ?_
  refine va_sld hx hb hXs hbl hbA hS (vp_in_nI (by omega) (by omega)) dL_law_1226 ?_
  refine tv_re (y := xs ((5 * k) + 1)) (by rw [nI_clamp (by omega)]) ?_
  refine lv_aload_n hx hb dL_law_1227 rfl (lv_at hl 3 rfl) ?_
  have hPc : va_P D vwCl ((q, .inl (cL, 1, .inr (.inl o))) :: Wo) H := t_fstP (b := (q, .inl (cL, 1, .inr (.inl o))) :: Wo) (c := Wm) hP
  have hDc : va_D (fun q : Nat => s.heap.size ≤ q) ((q, .inl (cL, 1, .inr (.inl o))) :: Wo) := t_fstD (b := (q, .inl (cL, 1, .inr (.inl o))) :: Wo) (c := Wm) hD
  have hFc := t_fstF (b := (q, .inl (cL, 1, .inr (.inl o))) :: Wo) (c := Wm) hD hS hA
  refine va_calli (vx_runSW (As := [.ref h, .int (xs ((5 * k) + 1)), .ref q]) (rest := []) ⟨hx, hb, hml, hown, hts⟩ (c_L_octave l hl0 D cI cL Wo h x n th un ju ch tm ba (xs ((5 * k) + 1)) q o hO H.size) (vx_cwSW 3 hts gL_law_L_octave rfl rfl rfl (by decide +kernel) ⟨Nat.le_of_ble_eq_true rfl, Nat.le_of_ble_eq_true rfl⟩) ⟨t_wPcX_blind, fun U hU hW => ⟨rfl, by rw [hU], by rw [hU]; exact hPc, va_K.moved hW.alike hK, hDc.weaken (fun _ _ _ _ => trivial), by rw [hU]; exact ((hX.kept hS.2.1).narrow hFc).moved hW⟩⟩ rfl rfl hl.1 rfl (lv_room (Nat.le_of_ble_eq_true rfl)) dL_law_1228 ⟨(show 47 + k + 1 ≤ 1074 by omega), (show 8436 + 6 * k + 6 ≤ 11629 by omega)⟩) hS (fun q _ h => hFc q h) hFc (fun r1 u t H1 locs ht hvm hw hB hz1 hk1 hS => ?_)
  obtain ⟨hP1, hK1, hD1⟩ := hB
  rw [ht] at hP1
  obtain ⟨hP, hD⟩ := t_jfst (b := (q, .inl (cL, 1, .inr (.inl o))) :: Wo) (c := Wm) hP hD hk1 hFc hP1 hD1
  obtain ⟨o1, W1, hu, hwc⟩ := hw
  subst hu
  have hP : va_P D vwCl ((q, .inl (cL, 1, .inr (.inl o1))) :: (W1 ++ Wm)) H1 := hP
  have hD : va_D (fun q : Nat => s.heap.size ≤ q) ((q, .inl (cL, 1, .inr (.inl o1))) :: (W1 ++ Wm)) := hD
  clear hP1 hD1 hK1 hPc hDc hFc hvm hz1 hk1 ht
  generalize H1 = H at hP hS ⊢
  refine lv_istore (lv' := [(5, .int r1), (0, .ref b), (1, .ref h), (2, .ref g), (3, .ref q), (4, .int (nI (5 * k)))]) hx hb dL_law_1231 hl (by decide) rfl (fun ls hl => ?_)
  refine lv_aload_n hx hb dL_law_1233 rfl (lv_at hl 3 rfl) ?_
  refine lv_aload_n hx hb dL_law_1234 rfl (lv_at hl 1 rfl) ?_
  refine lv_iload hx hb dL_law_1235 (lv_at hl 5 rfl) ?_
  refine lv_iconst (v := ((nI 1) : Int32)) hx hb dL_law_1237 (by decide +kernel) ?_
  refine tv_iadd (a := 5 * k) (b := 1) hx hb dL_law_1238 ?_
  refine va_sld hx hb hXs hbl hbA hS (vp_in_nI (by omega) (by omega)) dL_law_1239 ?_
  refine tv_re (y := xs ((5 * k) + 1)) (by rw [nI_clamp (by omega)]) ?_
  have hPc : va_P D vwCl Wm H := t_endP (a := (q, .inl (cL, 1, .inr (.inl o1))) :: W1) hP
  have hDc : va_D (fun q : Nat => s.heap.size ≤ q) Wm := t_endD (a := (q, .inl (cL, 1, .inr (.inl o1))) :: W1) hD
  have hFc := t_endF (a := (q, .inl (cL, 1, .inr (.inl o1))) :: W1) hD hS hA
  refine va_calli (va_runV (As := [.int (xs ((5 * k) + 1))]) (rest := []) ⟨hx, hb, hml, hown, hts⟩ (c_X9_octave l D cI cL Wm g y n th un ju ch tm ba thr (xs ((5 * k) + 1)) hM H.size) (cwV 1 hts gL_law_X9_octave rfl rfl rfl (by decide +kernel) ⟨Nat.le_of_ble_eq_true rfl, Nat.le_of_ble_eq_true rfl⟩) ⟨t_wPc_blind, va_recv hK hPc (ci := 9) (q0 := 0) rfl hfsm, fun U hU hW => ⟨rfl, by rw [hU], by rw [hU]; exact hPc, va_K.moved hW.alike hK, hDc.weaken (fun _ _ _ _ => trivial)⟩⟩ rfl rfl hl.1 rfl (lv_room (Nat.le_of_ble_eq_true rfl)) dL_law_1240 ⟨(show 47 + k + 1 + 0 ≤ 1074 by omega), (show 8436 + 6 * k + 6 + 0 ≤ 11629 by omega)⟩) hS (fun q _ h => hFc q h) hFc (fun b1 u t H1 locs ht hvm hw hB hz1 hk1 hS => ?_)
  obtain ⟨hP1, hK1, hD1⟩ := hB
  rw [ht] at hP1
  obtain ⟨hP, hD⟩ := t_jend (a := (q, .inl (cL, 1, .inr (.inl o1))) :: W1) hP hD hk1 hFc hP1 hD1
  have hwm := hw
  obtain ⟨M1, huM1⟩ : ∃ W1, W1 = u := ⟨_, rfl⟩
  rw [← huM1] at hP hD hwm
  have hP : va_P D vwCl ((q, .inl (cL, 1, .inr (.inl o1))) :: (W1 ++ M1)) H1 := hP
  have hD : va_D (fun q : Nat => s.heap.size ≤ q) ((q, .inl (cL, 1, .inr (.inl o1))) :: (W1 ++ M1)) := hD
  clear hP1 hD1 hK1 hPc hDc hFc hvm hz1 hk1 ht
  generalize H1 = H at hP hS ⊢
  obtain ⟨h0, x2, y2, n2, th2, un2, ju2, ch2, tm2, ba2, hO2, hM2, hag2⟩ := t_pr_octave (r := r1)  hag hn hwc hwm
  refine lv_istore (lv' := [(6, .int b1), (5, .int r1), (0, .ref b), (1, .ref h), (2, .ref g), (3, .ref q), (4, .int (nI (5 * k)))]) hx hb dL_law_1243 hl (by decide) rfl (fun ls hl => ?_)
  refine lv_aload_n hx hb dL_law_1245 rfl (lv_at hl 4 rfl) ?_
  have hPc : va_P D vwCl M1 H := t_endP (a := (q, .inl (cL, 1, .inr (.inl o1))) :: W1) hP
  have hDc : va_D (fun q : Nat => s.heap.size ≤ q) M1 := t_endD (a := (q, .inl (cL, 1, .inr (.inl o1))) :: W1) hD
  have hFc := t_endF (a := (q, .inl (cL, 1, .inr (.inl o1))) :: W1) hD hS hA
  obtain ⟨fsm, hfsm⟩ := t_mob_hd hM2
  refine va_calli (va_runV (As := []) (rest := []) ⟨hx, hb, hml, hown, hts⟩ (c_X9_thrown l D cI cL M1 g y2 n2 th2 un2 ju2 ch2 tm2 ba2 r1 hM2 H.size) (cwV 0 hts gL_law_X9_thrown rfl rfl rfl (by decide +kernel) ⟨Nat.le_of_ble_eq_true rfl, Nat.le_of_ble_eq_true rfl⟩) ⟨t_wPc_blind, va_recv hK hPc (ci := 9) (q0 := 0) rfl hfsm, fun U hU hW => ⟨rfl, by rw [hU], by rw [hU]; exact hPc, va_K.moved hW.alike hK, hDc.weaken (fun _ _ _ _ => trivial)⟩⟩ rfl rfl hl.1 rfl (lv_room (Nat.le_of_ble_eq_true rfl)) dL_law_1246 ⟨(show 47 + k + 1 + 0 ≤ 1074 by omega), (show 8436 + 6 * k + 6 + 0 ≤ 11629 by omega)⟩) hS (fun q _ h => hFc q h) hFc (fun r3 u t H1 locs ht hvm hw hB hz1 hk1 hS => ?_)
  obtain ⟨hP1, hK1, hD1⟩ := hB
  rw [ht] at hP1
  obtain ⟨hP, hD⟩ := t_jend (a := (q, .inl (cL, 1, .inr (.inl o1))) :: W1) hP hD hk1 hFc hP1 hD1
  obtain ⟨M2, huM2⟩ : ∃ W1, W1 = u := ⟨_, rfl⟩
  rw [← huM2] at hP hD hw
  have hP : va_P D vwCl ((q, .inl (cL, 1, .inr (.inl o1))) :: (W1 ++ M2)) H1 := hP
  have hD : va_D (fun q : Nat => s.heap.size ≤ q) ((q, .inl (cL, 1, .inr (.inl o1))) :: (W1 ++ M2)) := hD
  clear hP1 hD1 hK1 hPc hDc hFc hvm hz1 hk1 ht
  generalize H1 = H at hP hS ⊢
  obtain ⟨h3, hM3⟩ := hw
  refine tv_re (y := r1) h3 ?_
  have hLI2 : t_LI cI h g W1 M2 := t_LJ_LI hO2 hM3 hag2
  refine lv_iload hx hb dL_law_1249 (lv_at hl 1 rfl) ?_
  refine lv_icmp_eq (tgt := 1256) hx hb dL_law_1251 (by decide) (fun q1251_1 => ?_) (fun q1251_1 => absurd rfl q1251_1)
  refine lv_iload hx hb dL_law_1256 (lv_at hl 1 rfl) ?_
  refine lv_if_ne (tgt := 1273) hx hb dL_law_1258 (by decide) (fun q1258_2 => ?_) (fun q1258_2 => ?_)
  · refine lv_goto (tgt := 1520) hx hb dL_law_1273 (by decide) ?_
    exact kk _ _ _ _ _ _ hLI2 hP hD hS (lv_sub hl [2, 3, 4, 5, 6] rfl)
  · refine lv_aload_n hx hb dL_law_1261 rfl (lv_at hl 5 rfl) ?_
    refine lv_iconst (v := ((nI 0) : Int32)) hx hb dL_law_1262 (by decide +kernel) ?_
    refine va_lald hx hb hK hP 0 1 rfl rfl (vp_in_nI (by decide) (by decide)) dL_law_1263 ?_
    refine tv_reL (y := o1 0) (by rw [nI_clamp (by decide)]) ?_
    refine lv_iload hx hb dL_law_1264 (lv_at hl 0 rfl) ?_
    refine lv_i2l hx hb dL_law_1266 rfl ?_
    refine W.lcmp hx hb dL_law_1267 ?_
    refine tv_cmp_eq (tgt := 1273) hx hb dL_law_1268 (by decide) (fun q1268_3 => ?_) (fun q1268_3 => absurd (h0 (q1258_2.trans nI_0.symm)) q1268_3)
    refine lv_goto (tgt := 1520) hx hb dL_law_1273 (by decide) ?_
    exact kk _ _ _ _ _ _ hLI2 hP hD hS (lv_sub hl [2, 3, 4, 5, 6] rfl)

set_option maxHeartbeats 4000000 in
set_option maxRecDepth 100000 in
theorem law_c21 {p : Program} {l : Launch} {e : Env} {s : State} {m : MethodId} {below : List Frame} {meth : Method} {c : Code} {D : va_G} {cI cL : ClassId} {b L : Nat} {xs : Nat → Int32} {h g q k : Nat} {o : Nat → Int64} {Wo Wm : va_W} {H : Heap} {locs : List Loc} {ls : Array Slot} (hl0 : l.stackTraces = false) (C0 : lw_At p s m meth c b L xs) (hL : L ≤ 2560) (hk : 5 * k + 5 ≤ L) (hK : va_K D vwCl [(cI, .int), (cL, .long)] s) (hX : t_X (fun q : Nat => s.heap.size ≤ q) s s.heap) (hLI : t_LI cI h g Wo Wm) (hP : va_P D vwCl ((q, .inl (cL, 1, .inr (.inl o))) :: (Wo ++ Wm)) H) (hD : va_D (fun q : Nat => s.heap.size ≤ q) ((q, .inl (cL, 1, .inr (.inl o))) :: (Wo ++ Wm))) (hS : va_S (fun q : Nat => s.heap.size ≤ q) s.heap H locs) (hl : lv_has ls 7 [(0, .ref b), (1, .ref h), (2, .ref g), (3, .ref q), (4, .int (nI (5 * k)))]) (kk : ∀ (o : Nat → Int64) (Wo Wm : va_W) (H : Heap) (locs : List Loc) (ls : Array Slot), t_LI cI h g Wo Wm → va_P D vwCl ((q, .inl (cL, 1, .inr (.inl o))) :: (Wo ++ Wm)) H → va_D (fun q : Nat => s.heap.size ≤ q) ((q, .inl (cL, 1, .inr (.inl o))) :: (Wo ++ Wm)) → va_S (fun q : Nat => s.heap.size ≤ q) s.heap H locs → lv_has ls 7 [(0, .ref b), (1, .ref h), (2, .ref g), (3, .ref q), (4, .int (nI (5 * k)))] → W p l e room_1 s m #[Value.ref b] below meth c H locs (47 + (k + 1)) (8436 + 6 * (k + 1)) (lw_Z below #[Value.ref b] s) (F0 m 1520 ls [])) : W p l e room_1 s m #[Value.ref b] below meth c H locs (47 + k) (8436 + 6 * k) (lw_Z below #[Value.ref b] s) (F0 m 1276 ls []) := by
  obtain ⟨hx, hb, hr, hml, hown, hts, hXs, hbl, hlocks, hgv⟩ := id C0
  have hown : s.vm.findClass RL = some m.cls := hown
  have hts : ∀ w ∈ wsL_law, w.before #[Value.ref b] s = true := fun w h => hts w (wsL_law_in w h)
  have hA : ∀ q : Nat, s.heap.size ≤ q → (fun q : Nat => s.heap.size ≤ q) q := fun _ h => h
  have hbA : ¬ (fun q : Nat => s.heap.size ≤ q) b := Nat.not_le.mpr hbl
  obtain ⟨x, y, n, th, un, ju, ch, tm, ba, thr, hO, hM, hag⟩ := hLI
  have hn := t_mob_n hM
  obtain ⟨fs, hfs⟩ := t_obj_hd hO
  obtain ⟨fsm, hfsm⟩ := t_mob_hd hM
  refine lv_aload_n hx hb dL_law_1276 rfl (lv_at hl 1 rfl) ?_
  refine lv_aload_n hx hb dL_law_1277 rfl (lv_at hl 0 rfl) ?_
  refine lv_iload hx hb dL_law_1278 (lv_at hl 4 rfl) ?_
  refine lv_iconst (v := ((nI 1) : Int32)) hx hb dL_law_1280 (by decide +kernel) ?_
  refine tv_iadd (a := 5 * k) (b := 1) hx hb dL_law_1281 ?_
  refine va_sld hx hb hXs hbl hbA hS (vp_in_nI (by omega) (by omega)) dL_law_1282 ?_
  refine tv_re (y := xs ((5 * k) + 1)) (by rw [nI_clamp (by omega)]) ?_
  refine lv_aload_n hx hb dL_law_1283 rfl (lv_at hl 3 rfl) ?_
  have hPc : va_P D vwCl ((q, .inl (cL, 1, .inr (.inl o))) :: Wo) H := t_fstP (b := (q, .inl (cL, 1, .inr (.inl o))) :: Wo) (c := Wm) hP
  have hDc : va_D (fun q : Nat => s.heap.size ≤ q) ((q, .inl (cL, 1, .inr (.inl o))) :: Wo) := t_fstD (b := (q, .inl (cL, 1, .inr (.inl o))) :: Wo) (c := Wm) hD
  have hFc := t_fstF (b := (q, .inl (cL, 1, .inr (.inl o))) :: Wo) (c := Wm) hD hS hA
  refine va_calli (vx_runSW (As := [.ref h, .int (xs ((5 * k) + 1)), .ref q]) (rest := []) ⟨hx, hb, hml, hown, hts⟩ (c_L_isOnset l hl0 D cI cL Wo h x n th un ju ch tm ba (xs ((5 * k) + 1)) q o hO H.size) (vx_cwSW 3 hts gL_law_L_isOnset rfl rfl rfl (by decide +kernel) ⟨Nat.le_of_ble_eq_true rfl, Nat.le_of_ble_eq_true rfl⟩) ⟨t_wPcX_blind, fun U hU hW => ⟨rfl, by rw [hU], by rw [hU]; exact hPc, va_K.moved hW.alike hK, hDc.weaken (fun _ _ _ _ => trivial), by rw [hU]; exact ((hX.kept hS.2.1).narrow hFc).moved hW⟩⟩ rfl rfl hl.1 rfl (lv_room (Nat.le_of_ble_eq_true rfl)) dL_law_1284 ⟨(show 47 + k + 1 ≤ 1074 by omega), (show 8436 + 6 * k + 6 ≤ 11629 by omega)⟩) hS (fun q _ h => hFc q h) hFc (fun r1 u t H1 locs ht hvm hw hB hz1 hk1 hS => ?_)
  obtain ⟨hP1, hK1, hD1⟩ := hB
  rw [ht] at hP1
  obtain ⟨hP, hD⟩ := t_jfst (b := (q, .inl (cL, 1, .inr (.inl o))) :: Wo) (c := Wm) hP hD hk1 hFc hP1 hD1
  obtain ⟨o1, W1, hu, hwc⟩ := hw
  subst hu
  have hP : va_P D vwCl ((q, .inl (cL, 1, .inr (.inl o1))) :: (W1 ++ Wm)) H1 := hP
  have hD : va_D (fun q : Nat => s.heap.size ≤ q) ((q, .inl (cL, 1, .inr (.inl o1))) :: (W1 ++ Wm)) := hD
  clear hP1 hD1 hK1 hPc hDc hFc hvm hz1 hk1 ht
  generalize H1 = H at hP hS ⊢
  refine lv_istore (lv' := [(5, .int r1), (0, .ref b), (1, .ref h), (2, .ref g), (3, .ref q), (4, .int (nI (5 * k)))]) hx hb dL_law_1287 hl (by decide) rfl (fun ls hl => ?_)
  refine lv_aload_n hx hb dL_law_1289 rfl (lv_at hl 3 rfl) ?_
  refine lv_aload_n hx hb dL_law_1290 rfl (lv_at hl 1 rfl) ?_
  refine lv_iload hx hb dL_law_1291 (lv_at hl 5 rfl) ?_
  refine lv_iconst (v := ((nI 1) : Int32)) hx hb dL_law_1293 (by decide +kernel) ?_
  refine tv_iadd (a := 5 * k) (b := 1) hx hb dL_law_1294 ?_
  refine va_sld hx hb hXs hbl hbA hS (vp_in_nI (by omega) (by omega)) dL_law_1295 ?_
  refine tv_re (y := xs ((5 * k) + 1)) (by rw [nI_clamp (by omega)]) ?_
  have hPc : va_P D vwCl Wm H := t_endP (a := (q, .inl (cL, 1, .inr (.inl o1))) :: W1) hP
  have hDc : va_D (fun q : Nat => s.heap.size ≤ q) Wm := t_endD (a := (q, .inl (cL, 1, .inr (.inl o1))) :: W1) hD
  have hFc := t_endF (a := (q, .inl (cL, 1, .inr (.inl o1))) :: W1) hD hS hA
  refine va_calli (va_runV (As := [.int (xs ((5 * k) + 1))]) (rest := []) ⟨hx, hb, hml, hown, hts⟩ (c_X9_isOnset l D cI cL Wm g y n th un ju ch tm ba thr (xs ((5 * k) + 1)) hM H.size) (cwV 1 hts gL_law_X9_isOnset rfl rfl rfl (by decide +kernel) ⟨Nat.le_of_ble_eq_true rfl, Nat.le_of_ble_eq_true rfl⟩) ⟨t_wPc_blind, va_recv hK hPc (ci := 9) (q0 := 0) rfl hfsm, fun U hU hW => ⟨rfl, by rw [hU], by rw [hU]; exact hPc, va_K.moved hW.alike hK, hDc.weaken (fun _ _ _ _ => trivial)⟩⟩ rfl rfl hl.1 rfl (lv_room (Nat.le_of_ble_eq_true rfl)) dL_law_1296 ⟨(show 47 + k + 1 + 0 ≤ 1074 by omega), (show 8436 + 6 * k + 6 + 0 ≤ 11629 by omega)⟩) hS (fun q _ h => hFc q h) hFc (fun b1 u t H1 locs ht hvm hw hB hz1 hk1 hS => ?_)
  obtain ⟨hP1, hK1, hD1⟩ := hB
  rw [ht] at hP1
  obtain ⟨hP, hD⟩ := t_jend (a := (q, .inl (cL, 1, .inr (.inl o1))) :: W1) hP hD hk1 hFc hP1 hD1
  have hwm := hw
  obtain ⟨M1, huM1⟩ : ∃ W1, W1 = u := ⟨_, rfl⟩
  rw [← huM1] at hP hD hwm
  have hP : va_P D vwCl ((q, .inl (cL, 1, .inr (.inl o1))) :: (W1 ++ M1)) H1 := hP
  have hD : va_D (fun q : Nat => s.heap.size ≤ q) ((q, .inl (cL, 1, .inr (.inl o1))) :: (W1 ++ M1)) := hD
  clear hP1 hD1 hK1 hPc hDc hFc hvm hz1 hk1 ht
  generalize H1 = H at hP hS ⊢
  have hBo := t_pr_isOnsetB (o1 := o1) (r := r1) hag hn hwc hwm
  obtain ⟨h0, x2, y2, n2, th2, un2, ju2, ch2, tm2, ba2, hO2, hM2, hag2⟩ := t_pr_isOnset (r := r1)  hag hn hwc hwm
  refine lv_istore (lv' := [(6, .int b1), (5, .int r1), (0, .ref b), (1, .ref h), (2, .ref g), (3, .ref q), (4, .int (nI (5 * k)))]) hx hb dL_law_1299 hl (by decide) rfl (fun ls hl => ?_)
  refine lv_aload_n hx hb dL_law_1301 rfl (lv_at hl 4 rfl) ?_
  have hPc : va_P D vwCl M1 H := t_endP (a := (q, .inl (cL, 1, .inr (.inl o1))) :: W1) hP
  have hDc : va_D (fun q : Nat => s.heap.size ≤ q) M1 := t_endD (a := (q, .inl (cL, 1, .inr (.inl o1))) :: W1) hD
  have hFc := t_endF (a := (q, .inl (cL, 1, .inr (.inl o1))) :: W1) hD hS hA
  obtain ⟨fsm, hfsm⟩ := t_mob_hd hM2
  refine va_calli (va_runV (As := []) (rest := []) ⟨hx, hb, hml, hown, hts⟩ (c_X9_thrown l D cI cL M1 g y2 n2 th2 un2 ju2 ch2 tm2 ba2 r1 hM2 H.size) (cwV 0 hts gL_law_X9_thrown rfl rfl rfl (by decide +kernel) ⟨Nat.le_of_ble_eq_true rfl, Nat.le_of_ble_eq_true rfl⟩) ⟨t_wPc_blind, va_recv hK hPc (ci := 9) (q0 := 0) rfl hfsm, fun U hU hW => ⟨rfl, by rw [hU], by rw [hU]; exact hPc, va_K.moved hW.alike hK, hDc.weaken (fun _ _ _ _ => trivial)⟩⟩ rfl rfl hl.1 rfl (lv_room (Nat.le_of_ble_eq_true rfl)) dL_law_1302 ⟨(show 47 + k + 1 + 0 ≤ 1074 by omega), (show 8436 + 6 * k + 6 + 0 ≤ 11629 by omega)⟩) hS (fun q _ h => hFc q h) hFc (fun r3 u t H1 locs ht hvm hw hB hz1 hk1 hS => ?_)
  obtain ⟨hP1, hK1, hD1⟩ := hB
  rw [ht] at hP1
  obtain ⟨hP, hD⟩ := t_jend (a := (q, .inl (cL, 1, .inr (.inl o1))) :: W1) hP hD hk1 hFc hP1 hD1
  obtain ⟨M2, huM2⟩ : ∃ W1, W1 = u := ⟨_, rfl⟩
  rw [← huM2] at hP hD hw
  have hP : va_P D vwCl ((q, .inl (cL, 1, .inr (.inl o1))) :: (W1 ++ M2)) H1 := hP
  have hD : va_D (fun q : Nat => s.heap.size ≤ q) ((q, .inl (cL, 1, .inr (.inl o1))) :: (W1 ++ M2)) := hD
  clear hP1 hD1 hK1 hPc hDc hFc hvm hz1 hk1 ht
  generalize H1 = H at hP hS ⊢
  obtain ⟨h3, hM3⟩ := hw
  refine tv_re (y := r1) h3 ?_
  have hLI2 : t_LI cI h g W1 M2 := t_LJ_LI hO2 hM3 hag2
  refine lv_iload hx hb dL_law_1305 (lv_at hl 1 rfl) ?_
  refine lv_icmp_eq (tgt := 1312) hx hb dL_law_1307 (by decide) (fun q1307_1 => ?_) (fun q1307_1 => absurd rfl q1307_1)
  refine lv_iload hx hb dL_law_1312 (lv_at hl 1 rfl) ?_
  refine lv_if_ne (tgt := 1336) hx hb dL_law_1314 (by decide) (fun q1314_2 => ?_) (fun q1314_2 => ?_)
  · refine lv_goto (tgt := 1520) hx hb dL_law_1336 (by decide) ?_
    exact kk _ _ _ _ _ _ hLI2 hP hD hS (lv_sub hl [2, 3, 4, 5, 6] rfl)
  · refine lv_aload_n hx hb dL_law_1317 rfl (lv_at hl 5 rfl) ?_
    refine lv_iconst (v := ((nI 0) : Int32)) hx hb dL_law_1318 (by decide +kernel) ?_
    refine va_lald hx hb hK hP 0 1 rfl rfl (vp_in_nI (by decide) (by decide)) dL_law_1319 ?_
    refine tv_reL (y := o1 0) (by rw [nI_clamp (by decide)]) ?_
    refine lv_iload hx hb dL_law_1320 (lv_at hl 0 rfl) ?_
    refine lv_if_eq (tgt := 1329) hx hb dL_law_1322 (by decide) (fun q1322_3 => ?_) (fun q1322_3 => ?_)
    · refine lv_lconst (v := 0) hx hb dL_law_1329 (by decide +kernel) ?_
      refine W.lcmp hx hb dL_law_1330 ?_
      refine tv_cmp_eq (tgt := 1336) hx hb dL_law_1331 (by decide) (fun q1331_4 => ?_) (fun q1331_4 => absurd ((h0 (q1314_2.trans nI_0.symm)).trans (t_bo_z (hBo (q1314_2.trans nI_0.symm)) q1322_3)) q1331_4)
      refine lv_goto (tgt := 1520) hx hb dL_law_1336 (by decide) ?_
      exact kk _ _ _ _ _ _ hLI2 hP hD hS (lv_sub hl [2, 3, 4, 5, 6] rfl)
    · refine lv_lconst (v := 1) hx hb dL_law_1325 (by decide +kernel) ?_
      refine lv_goto (tgt := 1330) hx hb dL_law_1326 (by decide) ?_
      refine W.lcmp hx hb dL_law_1330 ?_
      refine tv_cmp_eq (tgt := 1336) hx hb dL_law_1331 (by decide) (fun q1331_5 => ?_) (fun q1331_5 => absurd ((h0 (q1314_2.trans nI_0.symm)).trans (t_bo_o (hBo (q1314_2.trans nI_0.symm)) q1322_3)) q1331_5)
      refine lv_goto (tgt := 1520) hx hb dL_law_1336 (by decide) ?_
      exact kk _ _ _ _ _ _ hLI2 hP hD hS (lv_sub hl [2, 3, 4, 5, 6] rfl)

set_option maxHeartbeats 4000000 in
set_option maxRecDepth 100000 in
theorem law_c22 {p : Program} {l : Launch} {e : Env} {s : State} {m : MethodId} {below : List Frame} {meth : Method} {c : Code} {D : va_G} {cI cL : ClassId} {b L : Nat} {xs : Nat → Int32} {h g q k : Nat} {o : Nat → Int64} {Wo Wm : va_W} {H : Heap} {locs : List Loc} {ls : Array Slot} (hl0 : l.stackTraces = false) (C0 : lw_At p s m meth c b L xs) (hL : L ≤ 2560) (hk : 5 * k + 5 ≤ L) (hK : va_K D vwCl [(cI, .int), (cL, .long)] s) (hX : t_X (fun q : Nat => s.heap.size ≤ q) s s.heap) (hLI : t_LI cI h g Wo Wm) (hP : va_P D vwCl ((q, .inl (cL, 1, .inr (.inl o))) :: (Wo ++ Wm)) H) (hD : va_D (fun q : Nat => s.heap.size ≤ q) ((q, .inl (cL, 1, .inr (.inl o))) :: (Wo ++ Wm))) (hS : va_S (fun q : Nat => s.heap.size ≤ q) s.heap H locs) (hl : lv_has ls 7 [(0, .ref b), (1, .ref h), (2, .ref g), (3, .ref q), (4, .int (nI (5 * k)))]) (kk : ∀ (o : Nat → Int64) (Wo Wm : va_W) (H : Heap) (locs : List Loc) (ls : Array Slot), t_LI cI h g Wo Wm → va_P D vwCl ((q, .inl (cL, 1, .inr (.inl o))) :: (Wo ++ Wm)) H → va_D (fun q : Nat => s.heap.size ≤ q) ((q, .inl (cL, 1, .inr (.inl o))) :: (Wo ++ Wm)) → va_S (fun q : Nat => s.heap.size ≤ q) s.heap H locs → lv_has ls 7 [(0, .ref b), (1, .ref h), (2, .ref g), (3, .ref q), (4, .int (nI (5 * k)))] → W p l e room_1 s m #[Value.ref b] below meth c H locs (47 + (k + 1)) (8436 + 6 * (k + 1)) (lw_Z below #[Value.ref b] s) (F0 m 1520 ls [])) : W p l e room_1 s m #[Value.ref b] below meth c H locs (47 + k) (8436 + 6 * k) (lw_Z below #[Value.ref b] s) (F0 m 1339 ls []) := by
  obtain ⟨hx, hb, hr, hml, hown, hts, hXs, hbl, hlocks, hgv⟩ := id C0
  have hown : s.vm.findClass RL = some m.cls := hown
  have hts : ∀ w ∈ wsL_law, w.before #[Value.ref b] s = true := fun w h => hts w (wsL_law_in w h)
  have hA : ∀ q : Nat, s.heap.size ≤ q → (fun q : Nat => s.heap.size ≤ q) q := fun _ h => h
  have hbA : ¬ (fun q : Nat => s.heap.size ≤ q) b := Nat.not_le.mpr hbl
  obtain ⟨x, y, n, th, un, ju, ch, tm, ba, thr, hO, hM, hag⟩ := hLI
  have hn := t_mob_n hM
  obtain ⟨fs, hfs⟩ := t_obj_hd hO
  obtain ⟨fsm, hfsm⟩ := t_mob_hd hM
  refine lv_aload_n hx hb dL_law_1339 rfl (lv_at hl 1 rfl) ?_
  have hPc : va_P D vwCl Wo H := t_midP (a := [(q, .inl (cL, 1, .inr (.inl o)))]) (b := Wo) (c := Wm) hP
  have hDc : va_D (fun q : Nat => s.heap.size ≤ q) Wo := t_midD (a := [(q, .inl (cL, 1, .inr (.inl o)))]) (b := Wo) (c := Wm) hD
  have hFc := t_midF (a := [(q, .inl (cL, 1, .inr (.inl o)))]) (b := Wo) (c := Wm) hD hS hA
  refine va_calli (va_runV (As := []) (rest := []) ⟨hx, hb, hml, hown, hts⟩ (c_X8_notes l D cI cL Wo h x n th un ju ch tm ba hO H.size) (cwV 0 hts gL_law_X8_notes rfl rfl rfl (by decide +kernel) ⟨Nat.le_of_ble_eq_true rfl, Nat.le_of_ble_eq_true rfl⟩) ⟨t_wPcX_blind, va_recv hK hPc (ci := 8) (q0 := 0) rfl hfs, fun U hU hW => ⟨rfl, by rw [hU], by rw [hU]; exact hPc, va_K.moved hW.alike hK, hDc.weaken (fun _ _ _ _ => trivial), by rw [hU]; exact ((hX.kept hS.2.1).narrow hFc).moved hW⟩⟩ rfl rfl hl.1 rfl (lv_room (Nat.le_of_ble_eq_true rfl)) dL_law_1340 ⟨(show 47 + k + 0 ≤ 1074 by omega), (show 8436 + 6 * k + 0 ≤ 11629 by omega)⟩) hS (fun q _ h => hFc q h) hFc (fun r1 u t H1 locs ht hvm hw hB hz1 hk1 hS => ?_)
  obtain ⟨hP1, hK1, hD1⟩ := hB
  rw [ht] at hP1
  obtain ⟨hP, hD⟩ := t_jmid (a := [(q, .inl (cL, 1, .inr (.inl o)))]) (b := Wo) (c := Wm) hP hD hk1 hFc hP1 hD1
  have hwc := hw
  obtain ⟨W1, hu⟩ : ∃ W1, W1 = u := ⟨_, rfl⟩
  rw [← hu] at hP hD hwc
  have hP : va_P D vwCl ((q, .inl (cL, 1, .inr (.inl o))) :: (W1 ++ Wm)) H1 := hP
  have hD : va_D (fun q : Nat => s.heap.size ≤ q) ((q, .inl (cL, 1, .inr (.inl o))) :: (W1 ++ Wm)) := hD
  clear hP1 hD1 hK1 hPc hDc hFc hvm hz1 hk1 ht
  generalize H1 = H at hP hS ⊢
  refine lv_aload_n hx hb dL_law_1343 rfl (lv_at hl 2 rfl) ?_
  have hPc : va_P D vwCl Wm H := t_endP (a := (q, .inl (cL, 1, .inr (.inl o))) :: W1) hP
  have hDc : va_D (fun q : Nat => s.heap.size ≤ q) Wm := t_endD (a := (q, .inl (cL, 1, .inr (.inl o))) :: W1) hD
  have hFc := t_endF (a := (q, .inl (cL, 1, .inr (.inl o))) :: W1) hD hS hA
  refine va_calli (va_runV (As := []) (rest := [.int r1]) ⟨hx, hb, hml, hown, hts⟩ (c_X9_notes l D cI cL Wm g y n th un ju ch tm ba thr  hM H.size) (cwV 0 hts gL_law_X9_notes rfl rfl rfl (by decide +kernel) ⟨Nat.le_of_ble_eq_true rfl, Nat.le_of_ble_eq_true rfl⟩) ⟨t_wPc_blind, va_recv hK hPc (ci := 9) (q0 := 0) rfl hfsm, fun U hU hW => ⟨rfl, by rw [hU], by rw [hU]; exact hPc, va_K.moved hW.alike hK, hDc.weaken (fun _ _ _ _ => trivial)⟩⟩ rfl rfl hl.1 rfl (lv_room (Nat.le_of_ble_eq_true rfl)) dL_law_1344 ⟨(show 47 + k + 0 ≤ 1074 by omega), (show 8436 + 6 * k + 0 ≤ 11629 by omega)⟩) hS (fun q _ h => hFc q h) hFc (fun b1 u t H1 locs ht hvm hw hB hz1 hk1 hS => ?_)
  obtain ⟨hP1, hK1, hD1⟩ := hB
  rw [ht] at hP1
  obtain ⟨hP, hD⟩ := t_jend (a := (q, .inl (cL, 1, .inr (.inl o))) :: W1) hP hD hk1 hFc hP1 hD1
  have hwm := hw
  obtain ⟨M1, huM1⟩ : ∃ W1, W1 = u := ⟨_, rfl⟩
  rw [← huM1] at hP hD hwm
  have hP : va_P D vwCl ((q, .inl (cL, 1, .inr (.inl o))) :: (W1 ++ M1)) H1 := hP
  have hD : va_D (fun q : Nat => s.heap.size ≤ q) ((q, .inl (cL, 1, .inr (.inl o))) :: (W1 ++ M1)) := hD
  clear hP1 hD1 hK1 hPc hDc hFc hvm hz1 hk1 ht
  generalize H1 = H at hP hS ⊢
  obtain ⟨heq, hLI2⟩ := t_pr_notes hag hn hwc hwm
  refine lv_icmp_eq (tgt := 1520) hx hb dL_law_1347 (by decide) (fun q1347_1 => ?_) (fun q1347_1 => absurd heq q1347_1)
  refine W.widen (k := 47 + k + 1) (n := 8436 + 6 * k + 6) (by omega) (by omega) ?_
  exact kk _ _ _ _ _ _ hLI2 hP hD hS (lv_sub hl [0, 1, 2, 3, 4] rfl)

set_option maxHeartbeats 4000000 in
set_option maxRecDepth 100000 in
theorem law_c23 {p : Program} {l : Launch} {e : Env} {s : State} {m : MethodId} {below : List Frame} {meth : Method} {c : Code} {D : va_G} {cI cL : ClassId} {b L : Nat} {xs : Nat → Int32} {h g q k : Nat} {o : Nat → Int64} {Wo Wm : va_W} {H : Heap} {locs : List Loc} {ls : Array Slot} (hl0 : l.stackTraces = false) (C0 : lw_At p s m meth c b L xs) (hL : L ≤ 2560) (hk : 5 * k + 5 ≤ L) (hK : va_K D vwCl [(cI, .int), (cL, .long)] s) (hX : t_X (fun q : Nat => s.heap.size ≤ q) s s.heap) (hLI : t_LI cI h g Wo Wm) (hP : va_P D vwCl ((q, .inl (cL, 1, .inr (.inl o))) :: (Wo ++ Wm)) H) (hD : va_D (fun q : Nat => s.heap.size ≤ q) ((q, .inl (cL, 1, .inr (.inl o))) :: (Wo ++ Wm))) (hS : va_S (fun q : Nat => s.heap.size ≤ q) s.heap H locs) (hl : lv_has ls 7 [(0, .ref b), (1, .ref h), (2, .ref g), (3, .ref q), (4, .int (nI (5 * k)))]) (kk : ∀ (o : Nat → Int64) (Wo Wm : va_W) (H : Heap) (locs : List Loc) (ls : Array Slot), t_LI cI h g Wo Wm → va_P D vwCl ((q, .inl (cL, 1, .inr (.inl o))) :: (Wo ++ Wm)) H → va_D (fun q : Nat => s.heap.size ≤ q) ((q, .inl (cL, 1, .inr (.inl o))) :: (Wo ++ Wm)) → va_S (fun q : Nat => s.heap.size ≤ q) s.heap H locs → lv_has ls 7 [(0, .ref b), (1, .ref h), (2, .ref g), (3, .ref q), (4, .int (nI (5 * k)))] → W p l e room_1 s m #[Value.ref b] below meth c H locs (47 + (k + 1)) (8436 + 6 * (k + 1)) (lw_Z below #[Value.ref b] s) (F0 m 1520 ls [])) : W p l e room_1 s m #[Value.ref b] below meth c H locs (47 + k) (8436 + 6 * k) (lw_Z below #[Value.ref b] s) (F0 m 1352 ls []) := by
  obtain ⟨hx, hb, hr, hml, hown, hts, hXs, hbl, hlocks, hgv⟩ := id C0
  have hown : s.vm.findClass RL = some m.cls := hown
  have hts : ∀ w ∈ wsL_law, w.before #[Value.ref b] s = true := fun w h => hts w (wsL_law_in w h)
  have hA : ∀ q : Nat, s.heap.size ≤ q → (fun q : Nat => s.heap.size ≤ q) q := fun _ h => h
  have hbA : ¬ (fun q : Nat => s.heap.size ≤ q) b := Nat.not_le.mpr hbl
  obtain ⟨x, y, n, th, un, ju, ch, tm, ba, thr, hO, hM, hag⟩ := hLI
  have hn := t_mob_n hM
  obtain ⟨fs, hfs⟩ := t_obj_hd hO
  obtain ⟨fsm, hfsm⟩ := t_mob_hd hM
  refine lv_aload_n hx hb dL_law_1352 rfl (lv_at hl 1 rfl) ?_
  refine lv_aload_n hx hb dL_law_1353 rfl (lv_at hl 0 rfl) ?_
  refine lv_iload hx hb dL_law_1354 (lv_at hl 4 rfl) ?_
  refine lv_iconst (v := ((nI 1) : Int32)) hx hb dL_law_1356 (by decide +kernel) ?_
  refine tv_iadd (a := 5 * k) (b := 1) hx hb dL_law_1357 ?_
  refine va_sld hx hb hXs hbl hbA hS (vp_in_nI (by omega) (by omega)) dL_law_1358 ?_
  refine tv_re (y := xs ((5 * k) + 1)) (by rw [nI_clamp (by omega)]) ?_
  refine lv_aload_n hx hb dL_law_1359 rfl (lv_at hl 3 rfl) ?_
  have hPc : va_P D vwCl ((q, .inl (cL, 1, .inr (.inl o))) :: Wo) H := t_fstP (b := (q, .inl (cL, 1, .inr (.inl o))) :: Wo) (c := Wm) hP
  have hDc : va_D (fun q : Nat => s.heap.size ≤ q) ((q, .inl (cL, 1, .inr (.inl o))) :: Wo) := t_fstD (b := (q, .inl (cL, 1, .inr (.inl o))) :: Wo) (c := Wm) hD
  have hFc := t_fstF (b := (q, .inl (cL, 1, .inr (.inl o))) :: Wo) (c := Wm) hD hS hA
  refine va_calli (vx_runSW (As := [.ref h, .int (xs ((5 * k) + 1)), .ref q]) (rest := []) ⟨hx, hb, hml, hown, hts⟩ (c_L_noteStart l hl0 D cI cL Wo h x n th un ju ch tm ba (xs ((5 * k) + 1)) q o hO H.size) (vx_cwSW 3 hts gL_law_L_noteStart rfl rfl rfl (by decide +kernel) ⟨Nat.le_of_ble_eq_true rfl, Nat.le_of_ble_eq_true rfl⟩) ⟨t_wPcX_blind, fun U hU hW => ⟨rfl, by rw [hU], by rw [hU]; exact hPc, va_K.moved hW.alike hK, hDc.weaken (fun _ _ _ _ => trivial), by rw [hU]; exact ((hX.kept hS.2.1).narrow hFc).moved hW⟩⟩ rfl rfl hl.1 rfl (lv_room (Nat.le_of_ble_eq_true rfl)) dL_law_1360 ⟨(show 47 + k + 1 ≤ 1074 by omega), (show 8436 + 6 * k + 6 ≤ 11629 by omega)⟩) hS (fun q _ h => hFc q h) hFc (fun r1 u t H1 locs ht hvm hw hB hz1 hk1 hS => ?_)
  obtain ⟨hP1, hK1, hD1⟩ := hB
  rw [ht] at hP1
  obtain ⟨hP, hD⟩ := t_jfst (b := (q, .inl (cL, 1, .inr (.inl o))) :: Wo) (c := Wm) hP hD hk1 hFc hP1 hD1
  obtain ⟨o1, W1, hu, hwc⟩ := hw
  subst hu
  have hP : va_P D vwCl ((q, .inl (cL, 1, .inr (.inl o1))) :: (W1 ++ Wm)) H1 := hP
  have hD : va_D (fun q : Nat => s.heap.size ≤ q) ((q, .inl (cL, 1, .inr (.inl o1))) :: (W1 ++ Wm)) := hD
  clear hP1 hD1 hK1 hPc hDc hFc hvm hz1 hk1 ht
  generalize H1 = H at hP hS ⊢
  refine lv_istore (lv' := [(5, .int r1), (0, .ref b), (1, .ref h), (2, .ref g), (3, .ref q), (4, .int (nI (5 * k)))]) hx hb dL_law_1363 hl (by decide) rfl (fun ls hl => ?_)
  refine lv_aload_n hx hb dL_law_1365 rfl (lv_at hl 3 rfl) ?_
  refine lv_aload_n hx hb dL_law_1366 rfl (lv_at hl 1 rfl) ?_
  refine lv_iload hx hb dL_law_1367 (lv_at hl 5 rfl) ?_
  refine lv_iconst (v := ((nI 1) : Int32)) hx hb dL_law_1369 (by decide +kernel) ?_
  refine tv_iadd (a := 5 * k) (b := 1) hx hb dL_law_1370 ?_
  refine va_sld hx hb hXs hbl hbA hS (vp_in_nI (by omega) (by omega)) dL_law_1371 ?_
  refine tv_re (y := xs ((5 * k) + 1)) (by rw [nI_clamp (by omega)]) ?_
  have hPc : va_P D vwCl Wm H := t_endP (a := (q, .inl (cL, 1, .inr (.inl o1))) :: W1) hP
  have hDc : va_D (fun q : Nat => s.heap.size ≤ q) Wm := t_endD (a := (q, .inl (cL, 1, .inr (.inl o1))) :: W1) hD
  have hFc := t_endF (a := (q, .inl (cL, 1, .inr (.inl o1))) :: W1) hD hS hA
  refine va_calli (va_runV (As := [.int (xs ((5 * k) + 1))]) (rest := []) ⟨hx, hb, hml, hown, hts⟩ (c_X9_noteStart l D cI cL Wm g y n th un ju ch tm ba thr (xs ((5 * k) + 1)) hM H.size) (cwV 1 hts gL_law_X9_noteStart rfl rfl rfl (by decide +kernel) ⟨Nat.le_of_ble_eq_true rfl, Nat.le_of_ble_eq_true rfl⟩) ⟨t_wPc_blind, va_recv hK hPc (ci := 9) (q0 := 0) rfl hfsm, fun U hU hW => ⟨rfl, by rw [hU], by rw [hU]; exact hPc, va_K.moved hW.alike hK, hDc.weaken (fun _ _ _ _ => trivial)⟩⟩ rfl rfl hl.1 rfl (lv_room (Nat.le_of_ble_eq_true rfl)) dL_law_1372 ⟨(show 47 + k + 1 + 0 ≤ 1074 by omega), (show 8436 + 6 * k + 6 + 0 ≤ 11629 by omega)⟩) hS (fun q _ h => hFc q h) hFc (fun b1 u t H1 locs ht hvm hw hB hz1 hk1 hS => ?_)
  obtain ⟨hP1, hK1, hD1⟩ := hB
  rw [ht] at hP1
  obtain ⟨hP, hD⟩ := t_jend (a := (q, .inl (cL, 1, .inr (.inl o1))) :: W1) hP hD hk1 hFc hP1 hD1
  have hwm := hw
  obtain ⟨M1, huM1⟩ : ∃ W1, W1 = u := ⟨_, rfl⟩
  rw [← huM1] at hP hD hwm
  have hP : va_P D vwCl ((q, .inl (cL, 1, .inr (.inl o1))) :: (W1 ++ M1)) H1 := hP
  have hD : va_D (fun q : Nat => s.heap.size ≤ q) ((q, .inl (cL, 1, .inr (.inl o1))) :: (W1 ++ M1)) := hD
  clear hP1 hD1 hK1 hPc hDc hFc hvm hz1 hk1 ht
  generalize H1 = H at hP hS ⊢
  obtain ⟨h0, x2, y2, n2, th2, un2, ju2, ch2, tm2, ba2, hO2, hM2, hag2⟩ := t_pr_noteStart (r := r1)  hag hn hwc hwm
  refine lv_istore (lv' := [(6, .int b1), (5, .int r1), (0, .ref b), (1, .ref h), (2, .ref g), (3, .ref q), (4, .int (nI (5 * k)))]) hx hb dL_law_1375 hl (by decide) rfl (fun ls hl => ?_)
  refine lv_aload_n hx hb dL_law_1377 rfl (lv_at hl 4 rfl) ?_
  have hPc : va_P D vwCl M1 H := t_endP (a := (q, .inl (cL, 1, .inr (.inl o1))) :: W1) hP
  have hDc : va_D (fun q : Nat => s.heap.size ≤ q) M1 := t_endD (a := (q, .inl (cL, 1, .inr (.inl o1))) :: W1) hD
  have hFc := t_endF (a := (q, .inl (cL, 1, .inr (.inl o1))) :: W1) hD hS hA
  obtain ⟨fsm, hfsm⟩ := t_mob_hd hM2
  refine va_calli (va_runV (As := []) (rest := []) ⟨hx, hb, hml, hown, hts⟩ (c_X9_thrown l D cI cL M1 g y2 n2 th2 un2 ju2 ch2 tm2 ba2 r1 hM2 H.size) (cwV 0 hts gL_law_X9_thrown rfl rfl rfl (by decide +kernel) ⟨Nat.le_of_ble_eq_true rfl, Nat.le_of_ble_eq_true rfl⟩) ⟨t_wPc_blind, va_recv hK hPc (ci := 9) (q0 := 0) rfl hfsm, fun U hU hW => ⟨rfl, by rw [hU], by rw [hU]; exact hPc, va_K.moved hW.alike hK, hDc.weaken (fun _ _ _ _ => trivial)⟩⟩ rfl rfl hl.1 rfl (lv_room (Nat.le_of_ble_eq_true rfl)) dL_law_1378 ⟨(show 47 + k + 1 + 0 ≤ 1074 by omega), (show 8436 + 6 * k + 6 + 0 ≤ 11629 by omega)⟩) hS (fun q _ h => hFc q h) hFc (fun r3 u t H1 locs ht hvm hw hB hz1 hk1 hS => ?_)
  obtain ⟨hP1, hK1, hD1⟩ := hB
  rw [ht] at hP1
  obtain ⟨hP, hD⟩ := t_jend (a := (q, .inl (cL, 1, .inr (.inl o1))) :: W1) hP hD hk1 hFc hP1 hD1
  obtain ⟨M2, huM2⟩ : ∃ W1, W1 = u := ⟨_, rfl⟩
  rw [← huM2] at hP hD hw
  have hP : va_P D vwCl ((q, .inl (cL, 1, .inr (.inl o1))) :: (W1 ++ M2)) H1 := hP
  have hD : va_D (fun q : Nat => s.heap.size ≤ q) ((q, .inl (cL, 1, .inr (.inl o1))) :: (W1 ++ M2)) := hD
  clear hP1 hD1 hK1 hPc hDc hFc hvm hz1 hk1 ht
  generalize H1 = H at hP hS ⊢
  obtain ⟨h3, hM3⟩ := hw
  refine tv_re (y := r1) h3 ?_
  have hLI2 : t_LI cI h g W1 M2 := t_LJ_LI hO2 hM3 hag2
  refine lv_iload hx hb dL_law_1381 (lv_at hl 1 rfl) ?_
  refine lv_icmp_eq (tgt := 1388) hx hb dL_law_1383 (by decide) (fun q1383_1 => ?_) (fun q1383_1 => absurd rfl q1383_1)
  refine lv_iload hx hb dL_law_1388 (lv_at hl 1 rfl) ?_
  refine lv_if_ne (tgt := 1405) hx hb dL_law_1390 (by decide) (fun q1390_2 => ?_) (fun q1390_2 => ?_)
  · refine lv_goto (tgt := 1520) hx hb dL_law_1405 (by decide) ?_
    exact kk _ _ _ _ _ _ hLI2 hP hD hS (lv_sub hl [2, 3, 4, 5, 6] rfl)
  · refine lv_aload_n hx hb dL_law_1393 rfl (lv_at hl 5 rfl) ?_
    refine lv_iconst (v := ((nI 0) : Int32)) hx hb dL_law_1394 (by decide +kernel) ?_
    refine va_lald hx hb hK hP 0 1 rfl rfl (vp_in_nI (by decide) (by decide)) dL_law_1395 ?_
    refine tv_reL (y := o1 0) (by rw [nI_clamp (by decide)]) ?_
    refine lv_iload hx hb dL_law_1396 (lv_at hl 0 rfl) ?_
    refine lv_i2l hx hb dL_law_1398 rfl ?_
    refine W.lcmp hx hb dL_law_1399 ?_
    refine tv_cmp_eq (tgt := 1405) hx hb dL_law_1400 (by decide) (fun q1400_3 => ?_) (fun q1400_3 => absurd (h0 (q1390_2.trans nI_0.symm)) q1400_3)
    refine lv_goto (tgt := 1520) hx hb dL_law_1405 (by decide) ?_
    exact kk _ _ _ _ _ _ hLI2 hP hD hS (lv_sub hl [2, 3, 4, 5, 6] rfl)

set_option maxHeartbeats 4000000 in
set_option maxRecDepth 100000 in
theorem law_c24 {p : Program} {l : Launch} {e : Env} {s : State} {m : MethodId} {below : List Frame} {meth : Method} {c : Code} {D : va_G} {cI cL : ClassId} {b L : Nat} {xs : Nat → Int32} {h g q k : Nat} {o : Nat → Int64} {Wo Wm : va_W} {H : Heap} {locs : List Loc} {ls : Array Slot} (hl0 : l.stackTraces = false) (C0 : lw_At p s m meth c b L xs) (hL : L ≤ 2560) (hk : 5 * k + 5 ≤ L) (hK : va_K D vwCl [(cI, .int), (cL, .long)] s) (hX : t_X (fun q : Nat => s.heap.size ≤ q) s s.heap) (hLI : t_LI cI h g Wo Wm) (hP : va_P D vwCl ((q, .inl (cL, 1, .inr (.inl o))) :: (Wo ++ Wm)) H) (hD : va_D (fun q : Nat => s.heap.size ≤ q) ((q, .inl (cL, 1, .inr (.inl o))) :: (Wo ++ Wm))) (hS : va_S (fun q : Nat => s.heap.size ≤ q) s.heap H locs) (hl : lv_has ls 7 [(0, .ref b), (1, .ref h), (2, .ref g), (3, .ref q), (4, .int (nI (5 * k)))]) (kk : ∀ (o : Nat → Int64) (Wo Wm : va_W) (H : Heap) (locs : List Loc) (ls : Array Slot), t_LI cI h g Wo Wm → va_P D vwCl ((q, .inl (cL, 1, .inr (.inl o))) :: (Wo ++ Wm)) H → va_D (fun q : Nat => s.heap.size ≤ q) ((q, .inl (cL, 1, .inr (.inl o))) :: (Wo ++ Wm)) → va_S (fun q : Nat => s.heap.size ≤ q) s.heap H locs → lv_has ls 7 [(0, .ref b), (1, .ref h), (2, .ref g), (3, .ref q), (4, .int (nI (5 * k)))] → W p l e room_1 s m #[Value.ref b] below meth c H locs (47 + (k + 1)) (8436 + 6 * (k + 1)) (lw_Z below #[Value.ref b] s) (F0 m 1520 ls [])) : W p l e room_1 s m #[Value.ref b] below meth c H locs (47 + k) (8436 + 6 * k) (lw_Z below #[Value.ref b] s) (F0 m 1408 ls []) := by
  obtain ⟨hx, hb, hr, hml, hown, hts, hXs, hbl, hlocks, hgv⟩ := id C0
  have hown : s.vm.findClass RL = some m.cls := hown
  have hts : ∀ w ∈ wsL_law, w.before #[Value.ref b] s = true := fun w h => hts w (wsL_law_in w h)
  have hA : ∀ q : Nat, s.heap.size ≤ q → (fun q : Nat => s.heap.size ≤ q) q := fun _ h => h
  have hbA : ¬ (fun q : Nat => s.heap.size ≤ q) b := Nat.not_le.mpr hbl
  obtain ⟨x, y, n, th, un, ju, ch, tm, ba, thr, hO, hM, hag⟩ := hLI
  have hn := t_mob_n hM
  obtain ⟨fs, hfs⟩ := t_obj_hd hO
  obtain ⟨fsm, hfsm⟩ := t_mob_hd hM
  refine lv_aload_n hx hb dL_law_1408 rfl (lv_at hl 1 rfl) ?_
  refine lv_aload_n hx hb dL_law_1409 rfl (lv_at hl 0 rfl) ?_
  refine lv_iload hx hb dL_law_1410 (lv_at hl 4 rfl) ?_
  refine lv_iconst (v := ((nI 1) : Int32)) hx hb dL_law_1412 (by decide +kernel) ?_
  refine tv_iadd (a := 5 * k) (b := 1) hx hb dL_law_1413 ?_
  refine va_sld hx hb hXs hbl hbA hS (vp_in_nI (by omega) (by omega)) dL_law_1414 ?_
  refine tv_re (y := xs ((5 * k) + 1)) (by rw [nI_clamp (by omega)]) ?_
  refine lv_aload_n hx hb dL_law_1415 rfl (lv_at hl 3 rfl) ?_
  have hPc : va_P D vwCl ((q, .inl (cL, 1, .inr (.inl o))) :: Wo) H := t_fstP (b := (q, .inl (cL, 1, .inr (.inl o))) :: Wo) (c := Wm) hP
  have hDc : va_D (fun q : Nat => s.heap.size ≤ q) ((q, .inl (cL, 1, .inr (.inl o))) :: Wo) := t_fstD (b := (q, .inl (cL, 1, .inr (.inl o))) :: Wo) (c := Wm) hD
  have hFc := t_fstF (b := (q, .inl (cL, 1, .inr (.inl o))) :: Wo) (c := Wm) hD hS hA
  refine va_calli (vx_runSW (As := [.ref h, .int (xs ((5 * k) + 1)), .ref q]) (rest := []) ⟨hx, hb, hml, hown, hts⟩ (c_L_noteLength l hl0 D cI cL Wo h x n th un ju ch tm ba (xs ((5 * k) + 1)) q o hO H.size) (vx_cwSW 3 hts gL_law_L_noteLength rfl rfl rfl (by decide +kernel) ⟨Nat.le_of_ble_eq_true rfl, Nat.le_of_ble_eq_true rfl⟩) ⟨t_wPcX_blind, fun U hU hW => ⟨rfl, by rw [hU], by rw [hU]; exact hPc, va_K.moved hW.alike hK, hDc.weaken (fun _ _ _ _ => trivial), by rw [hU]; exact ((hX.kept hS.2.1).narrow hFc).moved hW⟩⟩ rfl rfl hl.1 rfl (lv_room (Nat.le_of_ble_eq_true rfl)) dL_law_1416 ⟨(show 47 + k + 1 ≤ 1074 by omega), (show 8436 + 6 * k + 6 ≤ 11629 by omega)⟩) hS (fun q _ h => hFc q h) hFc (fun r1 u t H1 locs ht hvm hw hB hz1 hk1 hS => ?_)
  obtain ⟨hP1, hK1, hD1⟩ := hB
  rw [ht] at hP1
  obtain ⟨hP, hD⟩ := t_jfst (b := (q, .inl (cL, 1, .inr (.inl o))) :: Wo) (c := Wm) hP hD hk1 hFc hP1 hD1
  obtain ⟨o1, W1, hu, hwc⟩ := hw
  subst hu
  have hP : va_P D vwCl ((q, .inl (cL, 1, .inr (.inl o1))) :: (W1 ++ Wm)) H1 := hP
  have hD : va_D (fun q : Nat => s.heap.size ≤ q) ((q, .inl (cL, 1, .inr (.inl o1))) :: (W1 ++ Wm)) := hD
  clear hP1 hD1 hK1 hPc hDc hFc hvm hz1 hk1 ht
  generalize H1 = H at hP hS ⊢
  refine lv_istore (lv' := [(5, .int r1), (0, .ref b), (1, .ref h), (2, .ref g), (3, .ref q), (4, .int (nI (5 * k)))]) hx hb dL_law_1419 hl (by decide) rfl (fun ls hl => ?_)
  refine lv_aload_n hx hb dL_law_1421 rfl (lv_at hl 3 rfl) ?_
  refine lv_aload_n hx hb dL_law_1422 rfl (lv_at hl 1 rfl) ?_
  refine lv_iload hx hb dL_law_1423 (lv_at hl 5 rfl) ?_
  refine lv_iconst (v := ((nI 1) : Int32)) hx hb dL_law_1425 (by decide +kernel) ?_
  refine tv_iadd (a := 5 * k) (b := 1) hx hb dL_law_1426 ?_
  refine va_sld hx hb hXs hbl hbA hS (vp_in_nI (by omega) (by omega)) dL_law_1427 ?_
  refine tv_re (y := xs ((5 * k) + 1)) (by rw [nI_clamp (by omega)]) ?_
  have hPc : va_P D vwCl Wm H := t_endP (a := (q, .inl (cL, 1, .inr (.inl o1))) :: W1) hP
  have hDc : va_D (fun q : Nat => s.heap.size ≤ q) Wm := t_endD (a := (q, .inl (cL, 1, .inr (.inl o1))) :: W1) hD
  have hFc := t_endF (a := (q, .inl (cL, 1, .inr (.inl o1))) :: W1) hD hS hA
  refine va_calli (va_runV (As := [.int (xs ((5 * k) + 1))]) (rest := []) ⟨hx, hb, hml, hown, hts⟩ (c_X9_noteLength l D cI cL Wm g y n th un ju ch tm ba thr (xs ((5 * k) + 1)) hM H.size) (cwV 1 hts gL_law_X9_noteLength rfl rfl rfl (by decide +kernel) ⟨Nat.le_of_ble_eq_true rfl, Nat.le_of_ble_eq_true rfl⟩) ⟨t_wPc_blind, va_recv hK hPc (ci := 9) (q0 := 0) rfl hfsm, fun U hU hW => ⟨rfl, by rw [hU], by rw [hU]; exact hPc, va_K.moved hW.alike hK, hDc.weaken (fun _ _ _ _ => trivial)⟩⟩ rfl rfl hl.1 rfl (lv_room (Nat.le_of_ble_eq_true rfl)) dL_law_1428 ⟨(show 47 + k + 1 + 0 ≤ 1074 by omega), (show 8436 + 6 * k + 6 + 0 ≤ 11629 by omega)⟩) hS (fun q _ h => hFc q h) hFc (fun b1 u t H1 locs ht hvm hw hB hz1 hk1 hS => ?_)
  obtain ⟨hP1, hK1, hD1⟩ := hB
  rw [ht] at hP1
  obtain ⟨hP, hD⟩ := t_jend (a := (q, .inl (cL, 1, .inr (.inl o1))) :: W1) hP hD hk1 hFc hP1 hD1
  have hwm := hw
  obtain ⟨M1, huM1⟩ : ∃ W1, W1 = u := ⟨_, rfl⟩
  rw [← huM1] at hP hD hwm
  have hP : va_P D vwCl ((q, .inl (cL, 1, .inr (.inl o1))) :: (W1 ++ M1)) H1 := hP
  have hD : va_D (fun q : Nat => s.heap.size ≤ q) ((q, .inl (cL, 1, .inr (.inl o1))) :: (W1 ++ M1)) := hD
  clear hP1 hD1 hK1 hPc hDc hFc hvm hz1 hk1 ht
  generalize H1 = H at hP hS ⊢
  obtain ⟨h0, x2, y2, n2, th2, un2, ju2, ch2, tm2, ba2, hO2, hM2, hag2⟩ := t_pr_noteLength (r := r1)  hag hn hwc hwm
  refine lv_istore (lv' := [(6, .int b1), (5, .int r1), (0, .ref b), (1, .ref h), (2, .ref g), (3, .ref q), (4, .int (nI (5 * k)))]) hx hb dL_law_1431 hl (by decide) rfl (fun ls hl => ?_)
  refine lv_aload_n hx hb dL_law_1433 rfl (lv_at hl 4 rfl) ?_
  have hPc : va_P D vwCl M1 H := t_endP (a := (q, .inl (cL, 1, .inr (.inl o1))) :: W1) hP
  have hDc : va_D (fun q : Nat => s.heap.size ≤ q) M1 := t_endD (a := (q, .inl (cL, 1, .inr (.inl o1))) :: W1) hD
  have hFc := t_endF (a := (q, .inl (cL, 1, .inr (.inl o1))) :: W1) hD hS hA
  obtain ⟨fsm, hfsm⟩ := t_mob_hd hM2
  refine va_calli (va_runV (As := []) (rest := []) ⟨hx, hb, hml, hown, hts⟩ (c_X9_thrown l D cI cL M1 g y2 n2 th2 un2 ju2 ch2 tm2 ba2 r1 hM2 H.size) (cwV 0 hts gL_law_X9_thrown rfl rfl rfl (by decide +kernel) ⟨Nat.le_of_ble_eq_true rfl, Nat.le_of_ble_eq_true rfl⟩) ⟨t_wPc_blind, va_recv hK hPc (ci := 9) (q0 := 0) rfl hfsm, fun U hU hW => ⟨rfl, by rw [hU], by rw [hU]; exact hPc, va_K.moved hW.alike hK, hDc.weaken (fun _ _ _ _ => trivial)⟩⟩ rfl rfl hl.1 rfl (lv_room (Nat.le_of_ble_eq_true rfl)) dL_law_1434 ⟨(show 47 + k + 1 + 0 ≤ 1074 by omega), (show 8436 + 6 * k + 6 + 0 ≤ 11629 by omega)⟩) hS (fun q _ h => hFc q h) hFc (fun r3 u t H1 locs ht hvm hw hB hz1 hk1 hS => ?_)
  obtain ⟨hP1, hK1, hD1⟩ := hB
  rw [ht] at hP1
  obtain ⟨hP, hD⟩ := t_jend (a := (q, .inl (cL, 1, .inr (.inl o1))) :: W1) hP hD hk1 hFc hP1 hD1
  obtain ⟨M2, huM2⟩ : ∃ W1, W1 = u := ⟨_, rfl⟩
  rw [← huM2] at hP hD hw
  have hP : va_P D vwCl ((q, .inl (cL, 1, .inr (.inl o1))) :: (W1 ++ M2)) H1 := hP
  have hD : va_D (fun q : Nat => s.heap.size ≤ q) ((q, .inl (cL, 1, .inr (.inl o1))) :: (W1 ++ M2)) := hD
  clear hP1 hD1 hK1 hPc hDc hFc hvm hz1 hk1 ht
  generalize H1 = H at hP hS ⊢
  obtain ⟨h3, hM3⟩ := hw
  refine tv_re (y := r1) h3 ?_
  have hLI2 : t_LI cI h g W1 M2 := t_LJ_LI hO2 hM3 hag2
  refine lv_iload hx hb dL_law_1437 (lv_at hl 1 rfl) ?_
  refine lv_icmp_eq (tgt := 1444) hx hb dL_law_1439 (by decide) (fun q1439_1 => ?_) (fun q1439_1 => absurd rfl q1439_1)
  refine lv_iload hx hb dL_law_1444 (lv_at hl 1 rfl) ?_
  refine lv_if_ne (tgt := 1461) hx hb dL_law_1446 (by decide) (fun q1446_2 => ?_) (fun q1446_2 => ?_)
  · refine lv_goto (tgt := 1520) hx hb dL_law_1461 (by decide) ?_
    exact kk _ _ _ _ _ _ hLI2 hP hD hS (lv_sub hl [2, 3, 4, 5, 6] rfl)
  · refine lv_aload_n hx hb dL_law_1449 rfl (lv_at hl 5 rfl) ?_
    refine lv_iconst (v := ((nI 0) : Int32)) hx hb dL_law_1450 (by decide +kernel) ?_
    refine va_lald hx hb hK hP 0 1 rfl rfl (vp_in_nI (by decide) (by decide)) dL_law_1451 ?_
    refine tv_reL (y := o1 0) (by rw [nI_clamp (by decide)]) ?_
    refine lv_iload hx hb dL_law_1452 (lv_at hl 0 rfl) ?_
    refine lv_i2l hx hb dL_law_1454 rfl ?_
    refine W.lcmp hx hb dL_law_1455 ?_
    refine tv_cmp_eq (tgt := 1461) hx hb dL_law_1456 (by decide) (fun q1456_3 => ?_) (fun q1456_3 => absurd (h0 (q1446_2.trans nI_0.symm)) q1456_3)
    refine lv_goto (tgt := 1520) hx hb dL_law_1461 (by decide) ?_
    exact kk _ _ _ _ _ _ hLI2 hP hD hS (lv_sub hl [2, 3, 4, 5, 6] rfl)

set_option maxHeartbeats 4000000 in
set_option maxRecDepth 100000 in
theorem law_c25 {p : Program} {l : Launch} {e : Env} {s : State} {m : MethodId} {below : List Frame} {meth : Method} {c : Code} {D : va_G} {cI cL : ClassId} {b L : Nat} {xs : Nat → Int32} {h g q k : Nat} {o : Nat → Int64} {Wo Wm : va_W} {H : Heap} {locs : List Loc} {ls : Array Slot} (hl0 : l.stackTraces = false) (C0 : lw_At p s m meth c b L xs) (hL : L ≤ 2560) (hk : 5 * k + 5 ≤ L) (hK : va_K D vwCl [(cI, .int), (cL, .long)] s) (hX : t_X (fun q : Nat => s.heap.size ≤ q) s s.heap) (hLI : t_LI cI h g Wo Wm) (hP : va_P D vwCl ((q, .inl (cL, 1, .inr (.inl o))) :: (Wo ++ Wm)) H) (hD : va_D (fun q : Nat => s.heap.size ≤ q) ((q, .inl (cL, 1, .inr (.inl o))) :: (Wo ++ Wm))) (hS : va_S (fun q : Nat => s.heap.size ≤ q) s.heap H locs) (hl : lv_has ls 7 [(0, .ref b), (1, .ref h), (2, .ref g), (3, .ref q), (4, .int (nI (5 * k)))]) (kk : ∀ (o : Nat → Int64) (Wo Wm : va_W) (H : Heap) (locs : List Loc) (ls : Array Slot), t_LI cI h g Wo Wm → va_P D vwCl ((q, .inl (cL, 1, .inr (.inl o))) :: (Wo ++ Wm)) H → va_D (fun q : Nat => s.heap.size ≤ q) ((q, .inl (cL, 1, .inr (.inl o))) :: (Wo ++ Wm)) → va_S (fun q : Nat => s.heap.size ≤ q) s.heap H locs → lv_has ls 7 [(0, .ref b), (1, .ref h), (2, .ref g), (3, .ref q), (4, .int (nI (5 * k)))] → W p l e room_1 s m #[Value.ref b] below meth c H locs (47 + (k + 1)) (8436 + 6 * (k + 1)) (lw_Z below #[Value.ref b] s) (F0 m 1520 ls [])) : W p l e room_1 s m #[Value.ref b] below meth c H locs (47 + k) (8436 + 6 * k) (lw_Z below #[Value.ref b] s) (F0 m 1464 ls []) := by
  obtain ⟨hx, hb, hr, hml, hown, hts, hXs, hbl, hlocks, hgv⟩ := id C0
  have hown : s.vm.findClass RL = some m.cls := hown
  have hts : ∀ w ∈ wsL_law, w.before #[Value.ref b] s = true := fun w h => hts w (wsL_law_in w h)
  have hA : ∀ q : Nat, s.heap.size ≤ q → (fun q : Nat => s.heap.size ≤ q) q := fun _ h => h
  have hbA : ¬ (fun q : Nat => s.heap.size ≤ q) b := Nat.not_le.mpr hbl
  obtain ⟨x, y, n, th, un, ju, ch, tm, ba, thr, hO, hM, hag⟩ := hLI
  have hn := t_mob_n hM
  obtain ⟨fs, hfs⟩ := t_obj_hd hO
  obtain ⟨fsm, hfsm⟩ := t_mob_hd hM
  refine lv_aload_n hx hb dL_law_1464 rfl (lv_at hl 1 rfl) ?_
  refine lv_aload_n hx hb dL_law_1465 rfl (lv_at hl 0 rfl) ?_
  refine lv_iload hx hb dL_law_1466 (lv_at hl 4 rfl) ?_
  refine lv_iconst (v := ((nI 1) : Int32)) hx hb dL_law_1468 (by decide +kernel) ?_
  refine tv_iadd (a := 5 * k) (b := 1) hx hb dL_law_1469 ?_
  refine va_sld hx hb hXs hbl hbA hS (vp_in_nI (by omega) (by omega)) dL_law_1470 ?_
  refine tv_re (y := xs ((5 * k) + 1)) (by rw [nI_clamp (by omega)]) ?_
  refine lv_aload_n hx hb dL_law_1471 rfl (lv_at hl 3 rfl) ?_
  have hPc : va_P D vwCl ((q, .inl (cL, 1, .inr (.inl o))) :: Wo) H := t_fstP (b := (q, .inl (cL, 1, .inr (.inl o))) :: Wo) (c := Wm) hP
  have hDc : va_D (fun q : Nat => s.heap.size ≤ q) ((q, .inl (cL, 1, .inr (.inl o))) :: Wo) := t_fstD (b := (q, .inl (cL, 1, .inr (.inl o))) :: Wo) (c := Wm) hD
  have hFc := t_fstF (b := (q, .inl (cL, 1, .inr (.inl o))) :: Wo) (c := Wm) hD hS hA
  refine va_calli (vx_runSW (As := [.ref h, .int (xs ((5 * k) + 1)), .ref q]) (rest := []) ⟨hx, hb, hml, hown, hts⟩ (c_L_noteOf l hl0 D cI cL Wo h x n th un ju ch tm ba (xs ((5 * k) + 1)) q o hO H.size) (vx_cwSW 3 hts gL_law_L_noteOf rfl rfl rfl (by decide +kernel) ⟨Nat.le_of_ble_eq_true rfl, Nat.le_of_ble_eq_true rfl⟩) ⟨t_wPcX_blind, fun U hU hW => ⟨rfl, by rw [hU], by rw [hU]; exact hPc, va_K.moved hW.alike hK, hDc.weaken (fun _ _ _ _ => trivial), by rw [hU]; exact ((hX.kept hS.2.1).narrow hFc).moved hW⟩⟩ rfl rfl hl.1 rfl (lv_room (Nat.le_of_ble_eq_true rfl)) dL_law_1472 ⟨(show 47 + k + 1 ≤ 1074 by omega), (show 8436 + 6 * k + 6 ≤ 11629 by omega)⟩) hS (fun q _ h => hFc q h) hFc (fun r1 u t H1 locs ht hvm hw hB hz1 hk1 hS => ?_)
  obtain ⟨hP1, hK1, hD1⟩ := hB
  rw [ht] at hP1
  obtain ⟨hP, hD⟩ := t_jfst (b := (q, .inl (cL, 1, .inr (.inl o))) :: Wo) (c := Wm) hP hD hk1 hFc hP1 hD1
  obtain ⟨o1, W1, hu, hwc⟩ := hw
  subst hu
  have hP : va_P D vwCl ((q, .inl (cL, 1, .inr (.inl o1))) :: (W1 ++ Wm)) H1 := hP
  have hD : va_D (fun q : Nat => s.heap.size ≤ q) ((q, .inl (cL, 1, .inr (.inl o1))) :: (W1 ++ Wm)) := hD
  clear hP1 hD1 hK1 hPc hDc hFc hvm hz1 hk1 ht
  generalize H1 = H at hP hS ⊢
  refine lv_istore (lv' := [(5, .int r1), (0, .ref b), (1, .ref h), (2, .ref g), (3, .ref q), (4, .int (nI (5 * k)))]) hx hb dL_law_1475 hl (by decide) rfl (fun ls hl => ?_)
  refine lv_aload_n hx hb dL_law_1477 rfl (lv_at hl 3 rfl) ?_
  refine lv_aload_n hx hb dL_law_1478 rfl (lv_at hl 1 rfl) ?_
  refine lv_iload hx hb dL_law_1479 (lv_at hl 5 rfl) ?_
  refine lv_iconst (v := ((nI 1) : Int32)) hx hb dL_law_1481 (by decide +kernel) ?_
  refine tv_iadd (a := 5 * k) (b := 1) hx hb dL_law_1482 ?_
  refine va_sld hx hb hXs hbl hbA hS (vp_in_nI (by omega) (by omega)) dL_law_1483 ?_
  refine tv_re (y := xs ((5 * k) + 1)) (by rw [nI_clamp (by omega)]) ?_
  have hPc : va_P D vwCl Wm H := t_endP (a := (q, .inl (cL, 1, .inr (.inl o1))) :: W1) hP
  have hDc : va_D (fun q : Nat => s.heap.size ≤ q) Wm := t_endD (a := (q, .inl (cL, 1, .inr (.inl o1))) :: W1) hD
  have hFc := t_endF (a := (q, .inl (cL, 1, .inr (.inl o1))) :: W1) hD hS hA
  refine va_calli (va_runV (As := [.int (xs ((5 * k) + 1))]) (rest := []) ⟨hx, hb, hml, hown, hts⟩ (c_X9_noteOf l D cI cL Wm g y n th un ju ch tm ba thr (xs ((5 * k) + 1)) hM H.size) (cwV 1 hts gL_law_X9_noteOf rfl rfl rfl (by decide +kernel) ⟨Nat.le_of_ble_eq_true rfl, Nat.le_of_ble_eq_true rfl⟩) ⟨t_wPc_blind, va_recv hK hPc (ci := 9) (q0 := 0) rfl hfsm, fun U hU hW => ⟨rfl, by rw [hU], by rw [hU]; exact hPc, va_K.moved hW.alike hK, hDc.weaken (fun _ _ _ _ => trivial)⟩⟩ rfl rfl hl.1 rfl (lv_room (Nat.le_of_ble_eq_true rfl)) dL_law_1484 ⟨(show 47 + k + 1 + 0 ≤ 1074 by omega), (show 8436 + 6 * k + 6 + 0 ≤ 11629 by omega)⟩) hS (fun q _ h => hFc q h) hFc (fun b1 u t H1 locs ht hvm hw hB hz1 hk1 hS => ?_)
  obtain ⟨hP1, hK1, hD1⟩ := hB
  rw [ht] at hP1
  obtain ⟨hP, hD⟩ := t_jend (a := (q, .inl (cL, 1, .inr (.inl o1))) :: W1) hP hD hk1 hFc hP1 hD1
  have hwm := hw
  obtain ⟨M1, huM1⟩ : ∃ W1, W1 = u := ⟨_, rfl⟩
  rw [← huM1] at hP hD hwm
  have hP : va_P D vwCl ((q, .inl (cL, 1, .inr (.inl o1))) :: (W1 ++ M1)) H1 := hP
  have hD : va_D (fun q : Nat => s.heap.size ≤ q) ((q, .inl (cL, 1, .inr (.inl o1))) :: (W1 ++ M1)) := hD
  clear hP1 hD1 hK1 hPc hDc hFc hvm hz1 hk1 ht
  generalize H1 = H at hP hS ⊢
  obtain ⟨h0, x2, y2, n2, th2, un2, ju2, ch2, tm2, ba2, hO2, hM2, hag2⟩ := t_pr_noteOf (r := r1)  hag hn hwc hwm
  refine lv_istore (lv' := [(6, .int b1), (5, .int r1), (0, .ref b), (1, .ref h), (2, .ref g), (3, .ref q), (4, .int (nI (5 * k)))]) hx hb dL_law_1487 hl (by decide) rfl (fun ls hl => ?_)
  refine lv_aload_n hx hb dL_law_1489 rfl (lv_at hl 4 rfl) ?_
  have hPc : va_P D vwCl M1 H := t_endP (a := (q, .inl (cL, 1, .inr (.inl o1))) :: W1) hP
  have hDc : va_D (fun q : Nat => s.heap.size ≤ q) M1 := t_endD (a := (q, .inl (cL, 1, .inr (.inl o1))) :: W1) hD
  have hFc := t_endF (a := (q, .inl (cL, 1, .inr (.inl o1))) :: W1) hD hS hA
  obtain ⟨fsm, hfsm⟩ := t_mob_hd hM2
  refine va_calli (va_runV (As := []) (rest := []) ⟨hx, hb, hml, hown, hts⟩ (c_X9_thrown l D cI cL M1 g y2 n2 th2 un2 ju2 ch2 tm2 ba2 r1 hM2 H.size) (cwV 0 hts gL_law_X9_thrown rfl rfl rfl (by decide +kernel) ⟨Nat.le_of_ble_eq_true rfl, Nat.le_of_ble_eq_true rfl⟩) ⟨t_wPc_blind, va_recv hK hPc (ci := 9) (q0 := 0) rfl hfsm, fun U hU hW => ⟨rfl, by rw [hU], by rw [hU]; exact hPc, va_K.moved hW.alike hK, hDc.weaken (fun _ _ _ _ => trivial)⟩⟩ rfl rfl hl.1 rfl (lv_room (Nat.le_of_ble_eq_true rfl)) dL_law_1490 ⟨(show 47 + k + 1 + 0 ≤ 1074 by omega), (show 8436 + 6 * k + 6 + 0 ≤ 11629 by omega)⟩) hS (fun q _ h => hFc q h) hFc (fun r3 u t H1 locs ht hvm hw hB hz1 hk1 hS => ?_)
  obtain ⟨hP1, hK1, hD1⟩ := hB
  rw [ht] at hP1
  obtain ⟨hP, hD⟩ := t_jend (a := (q, .inl (cL, 1, .inr (.inl o1))) :: W1) hP hD hk1 hFc hP1 hD1
  obtain ⟨M2, huM2⟩ : ∃ W1, W1 = u := ⟨_, rfl⟩
  rw [← huM2] at hP hD hw
  have hP : va_P D vwCl ((q, .inl (cL, 1, .inr (.inl o1))) :: (W1 ++ M2)) H1 := hP
  have hD : va_D (fun q : Nat => s.heap.size ≤ q) ((q, .inl (cL, 1, .inr (.inl o1))) :: (W1 ++ M2)) := hD
  clear hP1 hD1 hK1 hPc hDc hFc hvm hz1 hk1 ht
  generalize H1 = H at hP hS ⊢
  obtain ⟨h3, hM3⟩ := hw
  refine tv_re (y := r1) h3 ?_
  have hLI2 : t_LI cI h g W1 M2 := t_LJ_LI hO2 hM3 hag2
  refine lv_iload hx hb dL_law_1493 (lv_at hl 1 rfl) ?_
  refine lv_icmp_eq (tgt := 1500) hx hb dL_law_1495 (by decide) (fun q1495_1 => ?_) (fun q1495_1 => absurd rfl q1495_1)
  refine lv_iload hx hb dL_law_1500 (lv_at hl 1 rfl) ?_
  refine lv_if_ne (tgt := 1517) hx hb dL_law_1502 (by decide) (fun q1502_2 => ?_) (fun q1502_2 => ?_)
  · refine lv_goto (tgt := 1520) hx hb dL_law_1517 (by decide) ?_
    exact kk _ _ _ _ _ _ hLI2 hP hD hS (lv_sub hl [2, 3, 4, 5, 6] rfl)
  · refine lv_aload_n hx hb dL_law_1505 rfl (lv_at hl 5 rfl) ?_
    refine lv_iconst (v := ((nI 0) : Int32)) hx hb dL_law_1506 (by decide +kernel) ?_
    refine va_lald hx hb hK hP 0 1 rfl rfl (vp_in_nI (by decide) (by decide)) dL_law_1507 ?_
    refine tv_reL (y := o1 0) (by rw [nI_clamp (by decide)]) ?_
    refine lv_iload hx hb dL_law_1508 (lv_at hl 0 rfl) ?_
    refine lv_i2l hx hb dL_law_1510 rfl ?_
    refine W.lcmp hx hb dL_law_1511 ?_
    refine tv_cmp_eq (tgt := 1517) hx hb dL_law_1512 (by decide) (fun q1512_3 => ?_) (fun q1512_3 => absurd (h0 (q1502_2.trans nI_0.symm)) q1512_3)
    refine lv_goto (tgt := 1520) hx hb dL_law_1517 (by decide) ?_
    exact kk _ _ _ _ _ _ hLI2 hP hD hS (lv_sub hl [2, 3, 4, 5, 6] rfl)
