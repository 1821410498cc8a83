set_option maxHeartbeats 4000000 in
set_option maxRecDepth 100000 in
theorem start_K {s : State} {args : Array Value} (hts : ∀ w ∈ lw_tbl, w.before args s = true) : ∃ (D : va_G) (cI cL : ClassId), va_K D vwCl [(cI, .int), (cL, .long)] s := by
  obtain ⟨c0, i0, hk0⟩ := u_known (C := RX0) (T := TX0) (N := 5) (n := 5) hts inX0 (hts (.instantiable RX0 5) (List.mem_of_getElem? (i := 108) (by decide +kernel)))
  obtain ⟨c1, i1, hk1⟩ := u_known (C := RX1) (T := TX1) (N := 3) (n := 3) hts inX1 (hts (.instantiable RX1 3) (List.mem_of_getElem? (i := 79) (by decide +kernel)))
  obtain ⟨c2, i2, hk2⟩ := u_known (C := RX2) (T := TX2) (N := 4) (n := 4) hts inX2 (hts (.instantiable RX2 4) (List.mem_of_getElem? (i := 195) (by decide +kernel)))
  obtain ⟨c3, i3, hk3⟩ := u_known (C := RX3) (T := TX3) (N := 4) (n := 4) hts inX3 (hts (.instantiable RX3 4) (List.mem_of_getElem? (i := 174) (by decide +kernel)))
  obtain ⟨c4, i4, hk4⟩ := u_known (C := RX4) (T := TX4) (N := 1) (n := 1) hts inX4 (hts (.instantiable RX4 1) (List.mem_of_getElem? (i := 114) (by decide +kernel)))
  obtain ⟨c5, i5, hk5⟩ := u_known (C := RX5) (T := TX5) (N := 2) (n := 2) hts inX5 (hts (.instantiable RX5 2) (List.mem_of_getElem? (i := 65) (by decide +kernel)))
  obtain ⟨c6, i6, hk6⟩ := u_known (C := RX6) (T := TX6) (N := 2) (n := 2) hts inX6 (hts (.instantiable RX6 2) (List.mem_of_getElem? (i := 85) (by decide +kernel)))
  obtain ⟨c7, i7, hk7⟩ := u_known (C := RX7) (T := TX7) (N := 7) (n := 7) hts inX7 (hts (.instantiable RX7 7) (List.mem_of_getElem? (i := 142) (by decide +kernel)))
  obtain ⟨c8, i8, hk8⟩ := u_known (C := RX8) (T := TX8) (N := 7) (n := 7) hts inX8 (hts (.instantiable RX8 7) (List.mem_of_getElem? (i := 57) (by decide +kernel)))
  obtain ⟨c9, i9, hk9⟩ := u_known (C := RX9) (T := TX9) (N := 22) (n := 22) hts inX9 (hts (.instantiable RX9 22) (List.mem_of_getElem? (i := 795) (by decide +kernel)))
  obtain ⟨cI, kI, pI, a1, a2, a3⟩ := Cond.arrayClass_spec (show (Cond.arrayClass .int).holds args s none s [] = true from (hts (.arrayClass .int) (List.mem_of_getElem? (i := 77) (by decide +kernel))))
  obtain ⟨cL, kL, pL, b1, b2, b3⟩ := Cond.arrayClass_spec (show (Cond.arrayClass .long).holds args s none s [] = true from (hts (.arrayClass .long) (List.mem_of_getElem? (i := 1078) (by decide +kernel))))
  refine ⟨(fun k => match k with | 0 => c0 | 1 => c1 | 2 => c2 | 3 => c3 | 4 => c4 | 5 => c5 | 6 => c6 | 7 => c7 | 8 => c8 | _ => c9, fun k => match k with | 0 => i0 | 1 => i1 | 2 => i2 | 3 => i3 | 4 => i4 | 5 => i5 | 6 => i6 | 7 => i7 | 8 => i8 | _ => i9), cI, cL, fun k z hz => ?_, fun k z hz => ?_⟩
  · match k, hz with
    | 0, hz => cases hz; exact hk0
    | 1, hz => cases hz; exact hk1
    | 2, hz => cases hz; exact hk2
    | 3, hz => cases hz; exact hk3
    | 4, hz => cases hz; exact hk4
    | 5, hz => cases hz; exact hk5
    | 6, hz => cases hz; exact hk6
    | 7, hz => cases hz; exact hk7
    | 8, hz => cases hz; exact hk8
    | 9, hz => cases hz; exact hk9
    | k + 10, hz => simp [vwCl] at hz
  · match k, hz with
    | 0, hz => cases hz; exact ⟨fun n z => ⟨fun k h => (by cases h), kI, a2, pI, a3⟩, a1⟩
    | 1, hz => cases hz; exact ⟨fun n z => ⟨fun k h => (by cases h), kL, b2, pL, b3⟩, b1⟩
    | k + 2, hz => simp at hz
set_option maxHeartbeats 4000000 in
set_option maxRecDepth 100000 in
theorem start_X {s : State} {args : Array Value} (hts : ∀ w ∈ lw_tbl, w.before args s = true) (hgf : ∀ w ∈ flatC (Jvm.Cond.and given_1 narrow_1), w.before args s = true) : t_X (fun q : Nat => s.heap.size ≤ q) s s.heap := by
  have hA : ∀ a : Nat, a < s.heap.size → ¬ (fun q : Nat => s.heap.size ≤ q) a := fun a ha => Nat.not_le.mpr ha
  have hw : ∀ j, j < 36 → Cond.eq (.elem (.static "PitchTracker$Pitches" "PARTS" "[I") (.int (Int32.ofNat j))) (.int (t_parts j)) ∈ flatC (Jvm.Cond.and given_1 narrow_1) := by decide +kernel
  obtain ⟨pa, hpa, hT⟩ := va_Tof (tm := .static "PitchTracker$Pitches" "PARTS" "[I") (ty := .int) (N := 36) (f := fun j => .int (t_parts j)) (by decide) (hgf (Cond.arrayOf (.static "PitchTracker$Pitches" "PARTS" "[I") .int) (by decide +kernel)) (va_eqt (hgf (Cond.eq (.length (.static "PitchTracker$Pitches" "PARTS" "[I")) (.int 36)) (by decide +kernel))) (fun j hj => va_eqt (hgf _ (hw j hj))) hA
  have hZ := va_Zof (hts (.laysStatic RX3 "PARTS" "[I") (List.mem_of_getElem? (i := 417) (by decide +kernel))) (hts (.initialized RX3) (List.mem_of_getElem? (i := 46) (by decide +kernel))) hpa hA
  obtain ⟨q0, _, _, _, hq0, -⟩ := Cond.exactly_spec (show (Cond.exactly (.string "PitchTracker" 166) "java/lang/String").holds args s none s [] = true from (hgf (Cond.exactly (.string "PitchTracker" 166) "java/lang/String") (by decide +kernel)))
  obtain ⟨q1, _, _, _, hq1, -⟩ := Cond.exactly_spec (show (Cond.exactly (.string "PitchTracker" 178) "java/lang/String").holds args s none s [] = true from (hgf (Cond.exactly (.string "PitchTracker" 178) "java/lang/String") (by decide +kernel)))
  obtain ⟨q2, _, _, _, hq2, -⟩ := Cond.exactly_spec (show (Cond.exactly (.string "PitchTracker" 173) "java/lang/String").holds args s none s [] = true from (hgf (Cond.exactly (.string "PitchTracker" 173) "java/lang/String") (by decide +kernel)))
  refine ⟨⟨va_Nw.of rfl (hts (.methodLinkNest RX1 57 yX8_quotient RX8) (List.mem_of_getElem? (i := 337) (by decide +kernel))), va_Nw.of rfl (hts (.methodLinkNest RX3 53 yX8_quotient RX8) (List.mem_of_getElem? (i := 399) (by decide +kernel))), va_Nw.of rfl (hts (.methodLinkNest RX8 9 yX5_init RX8) (List.mem_of_getElem? (i := 66) (by decide +kernel))), va_Nw.of rfl (hts (.methodLinkNest RX8 18 yX1_init RX8) (List.mem_of_getElem? (i := 80) (by decide +kernel))), va_Nw.of rfl (hts (.methodLinkNest RX8 25 yX0_init RX8) (List.mem_of_getElem? (i := 109) (by decide +kernel))), va_Nw.of rfl (hts (.methodLinkNest RX8 32 yX7_init RX8) (List.mem_of_getElem? (i := 143) (by decide +kernel))), va_Nw.of rfl (hts (.methodLinkNest RX8 39 yX3_init RX8) (List.mem_of_getElem? (i := 175) (by decide +kernel))), va_Nw.of rfl (hts (.methodLinkNest RX8 46 yX2_init RX8) (List.mem_of_getElem? (i := 196) (by decide +kernel)))⟩, ⟨pa, hZ, hT⟩, ?_⟩
  exact ⟨vx_Zqof (hts (.laysStatic Bundle.tN "UNASSIGNED_STACK" Bundle.steD) (List.mem_of_getElem? (i := 498) (by decide +kernel))) (hts (.initialized "java/lang/Throwable") (List.mem_of_getElem? (i := 49) (by decide +kernel))) (hgf (Cond.isRef (.static Bundle.tN "UNASSIGNED_STACK" Bundle.steD)) (by decide +kernel)) hA, vx_Zqof (hts (.laysStatic Bundle.tN "SUPPRESSED_SENTINEL" Bundle.listD) (List.mem_of_getElem? (i := 500) (by decide +kernel))) (hts (.initialized "java/lang/Throwable") (List.mem_of_getElem? (i := 49) (by decide +kernel))) (hgf (Cond.isRef (.static Bundle.tN "SUPPRESSED_SENTINEL" Bundle.listD)) (by decide +kernel)) hA, ⟨q0, vk_R.of (hts (.stringRef RX8 166 "a number is out of range") (List.mem_of_getElem? (i := 512) (by decide +kernel))) hq0⟩, ⟨q1, vk_R.of (hts (.stringRef RX8 178 "more samples would be fed than there is room for") (List.mem_of_getElem? (i := 552) (by decide +kernel))) hq1⟩, ⟨q2, vk_R.of (hts (.stringRef RX8 173 "there is none of this number") (List.mem_of_getElem? (i := 643) (by decide +kernel))) hq2⟩, va_Nw.of rfl (hts (.castable "java/lang/IllegalArgumentException" "java/lang/IllegalArgumentException") (List.mem_of_getElem? (i := 473) (by decide +kernel))), va_Nw.of rfl (hts (.castable "java/lang/IllegalStateException" "java/lang/IllegalStateException") (List.mem_of_getElem? (i := 545) (by decide +kernel))), va_Nw.of rfl (hts (.castable "java/lang/IndexOutOfBoundsException" "java/lang/IndexOutOfBoundsException") (List.mem_of_getElem? (i := 636) (by decide +kernel))), va_Nc.of (hgf (Cond.not (.castable "java/lang/IllegalStateException" "java/lang/IllegalArgumentException")) (by decide +kernel)), va_Nc.of (hgf (Cond.not (.castable "java/lang/IllegalArgumentException" "java/lang/IndexOutOfBoundsException")) (by decide +kernel)), va_Nw.of rfl (hts (.declares (Bundle.initS "java/lang/RuntimeException")) (List.mem_of_getElem? (i := 475) (by decide +kernel))), va_Nw.of rfl (hts (.declares (Bundle.initS "java/lang/Exception")) (List.mem_of_getElem? (i := 477) (by decide +kernel))), va_Nw.of rfl (hts (.declares (Bundle.initS Bundle.tN)) (List.mem_of_getElem? (i := 479) (by decide +kernel)))⟩
section TN2
variable {p : Program} {l : Launch} {e : Env} {R : Room} {s : State} {m : MethodId} {args : Array Value} {below : List Frame} {meth : Method} {c : Code} {H : Heap} {locs : List Loc} {cells slots : Nat} {Q : State → Prop}
variable {cc : ByteArray} {pc : Nat} {ls : Array Slot} {rest : List Value}
/-- a new long array: its class is the world's own -/
theorem tv_newl {D : va_G} {cl : List vw_C} {cI cL : ClassId} {ws : va_W} {A : Nat → Prop} {H0 : Heap} (hexec : p.tables.exec = Jvm.exec) (hb : c.code = cc) (harr : (Cond.arrayClass .long).before args s = true) (hK : va_K D cl [(cI, .int), (cL, .long)] s) (hP : va_P D cl ws H) (hD : va_D A ws) (hS : va_S A H0 H locs) (hA : ∀ q, H0.size ≤ q → A q)
    {n : Nat} (hn : n ≤ 67108864) (hcells : cells + 1 ≤ R.cells) (hslots : slots + n ≤ R.slots) (hdg : decode cc pc = .ok (.newarray .long, 2))
    (kk : ∀ (q : Nat) (H1 : Heap), va_P D cl (ws ++ [(q, .inl (cL, n, .inr (.inl (fun _ => 0))))]) H1 → va_D A (ws ++ [(q, .inl (cL, n, .inr (.inl (fun _ => 0))))]) → va_S A H0 H1 locs →
      W p l e R s m args below meth c H1 locs (cells + 1) (slots + n) Q (F0 m (pc + 2) ls (.ref q :: rest))) : W p l e R s m args below meth c H locs cells slots Q (F0 m pc ls (.int (nI n) :: rest)) := by
  refine va_newa (atype := .long) (ty := .long) (a0 := (n, .inr (.inl (fun _ => 0)))) (N' := n) hexec hb harr rfl hK hP hD hS hA (fun cA => rfl) (nI_pos (by omega)) (nI_clamp (by omega)) (by show n * 8 ≤ 536870912; omega) hcells hslots hdg (fun q cA H1 hK1 hP1 hD1 hS1 => ?_)
  have h1 : s.vm.findClass ("[" ++ FieldType.long.toString) = some cA := (hK1.2 2 (cA, .long) rfl).2
  have h2 : s.vm.findClass ("[" ++ FieldType.long.toString) = some cL := (hK.2 1 (cL, .long) rfl).2
  have e : cA = cL := Option.some.inj (h1.symm.trans h2)
  subst e
  exact kk q H1 hP1 hD1 hS1
end TN2
theorem t_Drot {A : Nat → Prop} {a : va_W} {c : Nat × va_E} (h : va_D A (a ++ [c])) : va_D A (c :: a) := by
  obtain ⟨d1, d2⟩ := t_Dn.mp h
  rw [List.pairwise_append] at d1
  refine t_Dn.mpr ⟨List.pairwise_cons.mpr ⟨fun z hz e => d1.2.2 z hz c List.mem_cons_self e.symm, d1.1⟩, fun z hz => ?_⟩
  rcases List.mem_cons.mp hz with hz | hz
  · exact d2 z (List.mem_append_right _ (by rw [hz]; exact List.mem_cons_self))
  · exact d2 z (List.mem_append_left _ hz)
theorem t_inv_0 : t_inv (fun _ => nI 0) 0 (nI 20) (nI 300) (nI 10) (nI 200) 0 (nI 4096) (-1) 0 0 (nI 0) 0 (fun _ => nI 0) (fun _ => nI 0) (fun _ => nI 0) (fun _ => nI 0) (fun _ => nI 0) (fun _ => nI 0) (fun _ => nI 0) (fun _ => nI 0) (fun _ => nI 0) (fun _ => nI 0) (fun _ => nI 0) := ⟨Nat.zero_le _, Nat.zero_le _, Nat.zero_le _, Nat.zero_le _, fun k hk => absurd hk (Nat.not_lt_zero _), fun k hk => rfl, fun k hk => absurd hk (Nat.not_lt_zero _), Or.inl rfl⟩
set_option maxHeartbeats 4000000 in
set_option maxRecDepth 100000 in
theorem whole_start {p : Program} {e : Env} {s : State} {m : MethodId} {below : List Frame} {meth : Method} {c : Code} (l : Launch) (hflags : l.flags = flags0) {b L : Nat} {xs : Nat → Int32} (hL : L ≤ 2560) (C0 : lw_At p s m meth c b L xs) : W p l e room_1 s m #[Value.ref b] below meth c s.heap [] 0 0 (lw_Z below #[Value.ref b] s) (entryFrame m ([Value.ref b] : List Value).toArray 7) := by
  have hl0 : l.stackTraces = false := by unfold Launch.stackTraces; rw [hflags]; decide +kernel
  obtain ⟨hx, hb, hr, hml, hown, hts0, hXs, hbl, hlocks, hgv⟩ := id C0
  have hown : s.vm.findClass RL = some m.cls := hown
  have hA : ∀ q : Nat, s.heap.size ≤ q → (fun q : Nat => s.heap.size ≤ q) q := fun _ h => h
  obtain ⟨D, cI, cL, hK⟩ := start_K hts0
  have hX := start_X hts0 (flat_of_before _ hgv)
  have hts : ∀ w ∈ wsL_law, w.before #[Value.ref b] s = true := fun w h => hts0 w (wsL_law_in w h)
  have hS : va_S (fun q : Nat => s.heap.size ≤ q) s.heap s.heap [] := va_S.rf
  have hP : va_P D vwCl [] s.heap := fun k q h => by simp at h
  have hD : va_D (fun q : Nat => s.heap.size ≤ q) [] := ⟨fun i j p q h => by simp at h, fun k q h => by simp at h⟩
  have hl := lv_entry ([.ref b]) (n := 7) (Nat.le_of_ble_eq_true rfl)
  rw [lg_entry_eq]
  generalize (lg_sl ([.ref b]) ++ List.replicate (7 - (lg_sl ([.ref b])).length) Slot.unset).toArray = ls at hl ⊢
  have hl : lv_has ls 7 [(0, .ref b)] := hl
  refine va_new (ci := 8) (fs := [.null, .null, .null, .null, .null, .null, .int (nI 0)]) (C := RX8) (T := TX8) (N := 7) hx hb hts0 inX8 tyX8 tyX8_ok hown (hts0 (.classLink RL 8 RX8) (List.mem_of_getElem? (i := 56) (by decide +kernel))) (hts0 (.instantiable RX8 7) (List.mem_of_getElem? (i := 57) (by decide +kernel))) (hts0 (.initialized RX8) (List.mem_of_getElem? (i := 39) (by decide +kernel))) hK hP hD hS hA rfl (fun j hj => by rcases (show j = 0 ∨ j = 1 ∨ j = 2 ∨ j = 3 ∨ j = 4 ∨ j = 5 ∨ j = 6 by omega) with rfl | rfl | rfl | rfl | rfl | rfl | rfl <;> rfl) (Nat.le_of_ble_eq_true rfl) (Nat.le_of_ble_eq_true rfl) dL_law_0 (fun h H hP hD hS => ?_)
  have hP : va_P D vwCl [(h, .inr (8, [.null, .null, .null, .null, .null, .null, .int (nI 0)]))] H := hP
  have hD : va_D (fun q : Nat => s.heap.size ≤ q) [(h, .inr (8, [.null, .null, .null, .null, .null, .null, .int (nI 0)]))] := hD
  refine W.widen (k := 1) (n := 7) (by omega) (by omega) ?_
  refine lv_dup hx hb dL_law_3 rfl ?_
  have hFc := va_free (wc := [(h, .inr (8, [.null, .null, .null, .null, .null, .null, .int (nI 0)]))]) hD hS hA [0] rfl
  refine va_callv (va_runI (As := []) (rest := [.ref h]) ⟨hx, hb, hml, hown, hts⟩ (c_X8_init l D cI cL h H.size) (cwI 0 hts gL_law_X8_init rfl rfl rfl (hts0 (.initialized RX8) (List.mem_of_getElem? (i := 39) (by decide +kernel))) (hts0 (.methodLink RL 85 yX8_init) (List.mem_of_getElem? (i := 58) (by decide +kernel))) (hts0 (.instanceMethod yX8_init) (List.mem_of_getElem? (i := 59) (by decide +kernel))) rfl (by decide +kernel) ⟨Nat.le_of_ble_eq_true rfl, Nat.le_of_ble_eq_true rfl⟩) ⟨t_wPcX_blind, fun U hU hW => ⟨rfl, by rw [hU], by rw [hU]; exact hP, va_K.moved hW.alike hK, hD.weaken (fun _ _ _ _ => trivial), by rw [hU]; exact ((hX.kept hS.2.1).narrow hFc).moved hW⟩⟩ rfl rfl hl.1 rfl (lv_room (Nat.le_of_ble_eq_true rfl)) dL_law_4 ⟨Nat.le_of_ble_eq_true rfl, Nat.le_of_ble_eq_true rfl⟩) hS (fun q _ h => hFc q h) hFc (fun u t H1 locs ht hvm hw hB hz1 hk1 hS => ?_)
  obtain ⟨hP1, hK1, hD1⟩ := hB
  rw [ht] at hP1
  obtain ⟨hP, hD⟩ := t_jend (a := []) (b := [(h, .inr (8, [.null, .null, .null, .null, .null, .null, .int (nI 0)]))]) hP hD hk1 hFc hP1 hD1
  have hP : va_P D vwCl u H1 := hP
  have hD : va_D (fun q : Nat => s.heap.size ≤ q) u := hD
  have hO : t_obj cI h (fun _ => nI 0) 0 (nI 20) (nI 300) (nI 10) (nI 200) 0 (nI 4096) u := by
    obtain ⟨so, sa, dh, t1, a1, t2, a2, kh, c1, cb, l1, lb, o1, ob, th0, u1, u3, v1, v3, y1, y2, ph, p1, p2, q1, q2, nh, i1, i2, j1, j2, k1, k2, hw⟩ := hw
    rw [hw]
    exact t_obj_in t_inv_0
  clear hP1 hD1 hK1 hFc hvm hz1 hk1 ht hw
  generalize H1 = H at hP hS ⊢
  refine W.widen (k := 34) (n := 6092) (by omega) (by omega) ?_
  refine lv_astore_n (lv' := [(1, .ref h), (0, .ref b)]) hx hb dL_law_7 rfl hl (by decide) rfl (fun ls hl => ?_)
  refine va_new (ci := 9) (fs := [.int (nI 0), .int (nI 0), .null, .int (nI 0), .int (nI 0), .int (nI 0), .int (nI 0), .int (nI 0), .int (nI 0), .null, .null, .null, .null, .null, .null, .null, .null, .null, .int (nI 0), .int (nI 0), .null, .int (nI 0)]) (C := RX9) (T := TX9) (N := 22) hx hb hts0 inX9 tyX9 tyX9_ok hown (hts0 (.classLink RL 86 RX9) (List.mem_of_getElem? (i := 794) (by decide +kernel))) (hts0 (.instantiable RX9 22) (List.mem_of_getElem? (i := 795) (by decide +kernel))) (hts0 (.initialized RX9) (List.mem_of_getElem? (i := 48) (by decide +kernel))) hK hP hD hS hA rfl (fun j hj => by rcases (show j = 0 ∨ j = 1 ∨ j = 2 ∨ j = 3 ∨ j = 4 ∨ j = 5 ∨ j = 6 ∨ j = 7 ∨ j = 8 ∨ j = 9 ∨ j = 10 ∨ j = 11 ∨ j = 12 ∨ j = 13 ∨ j = 14 ∨ j = 15 ∨ j = 16 ∨ j = 17 ∨ j = 18 ∨ j = 19 ∨ j = 20 ∨ j = 21 by omega) with rfl | rfl | rfl | rfl | rfl | rfl | rfl | rfl | rfl | rfl | rfl | rfl | rfl | rfl | rfl | rfl | rfl | rfl | rfl | rfl | rfl | rfl <;> rfl) (Nat.le_of_ble_eq_true rfl) (Nat.le_of_ble_eq_true rfl) dL_law_8 (fun g H hP hD hS => ?_)
  refine W.widen (k := 35) (n := 6114) (by omega) (by omega) ?_
  refine lv_dup hx hb dL_law_11 rfl ?_
  have hPc : va_P D vwCl [(g, .inr (9, [.int (nI 0), .int (nI 0), .null, .int (nI 0), .int (nI 0), .int (nI 0), .int (nI 0), .int (nI 0), .int (nI 0), .null, .null, .null, .null, .null, .null, .null, .null, .null, .int (nI 0), .int (nI 0), .null, .int (nI 0)]))] H := t_endP (a := u) hP
  have hDc : va_D (fun q : Nat => s.heap.size ≤ q) [(g, .inr (9, [.int (nI 0), .int (nI 0), .null, .int (nI 0), .int (nI 0), .int (nI 0), .int (nI 0), .int (nI 0), .int (nI 0), .null, .null, .null, .null, .null, .null, .null, .null, .null, .int (nI 0), .int (nI 0), .null, .int (nI 0)]))] := t_endD (a := u) hD
  have hFc := t_endF (a := u) (b := [(g, .inr (9, [.int (nI 0), .int (nI 0), .null, .int (nI 0), .int (nI 0), .int (nI 0), .int (nI 0), .int (nI 0), .int (nI 0), .null, .null, .null, .null, .null, .null, .null, .null, .null, .int (nI 0), .int (nI 0), .null, .int (nI 0)]))]) hD hS hA
  refine va_callv (va_runI (As := []) (rest := [.ref g]) ⟨hx, hb, hml, hown, hts⟩ (c_X9_init l D cI cL g H.size) (cwI 0 hts gL_law_X9_init rfl rfl rfl (hts0 (.initialized RX9) (List.mem_of_getElem? (i := 48) (by decide +kernel))) (hts0 (.methodLink RL 88 yX9_init) (List.mem_of_getElem? (i := 796) (by decide +kernel))) (hts0 (.instanceMethod yX9_init) (List.mem_of_getElem? (i := 797) (by decide +kernel))) rfl (by decide +kernel) ⟨Nat.le_of_ble_eq_true rfl, Nat.le_of_ble_eq_true rfl⟩) ⟨t_wPc_blind, fun U hU hW => ⟨rfl, by rw [hU], by rw [hU]; exact hPc, va_K.moved hW.alike hK, hDc.weaken (fun _ _ _ _ => trivial)⟩⟩ rfl rfl hl.1 rfl (lv_room (Nat.le_of_ble_eq_true rfl)) dL_law_12 ⟨Nat.le_of_ble_eq_true rfl, Nat.le_of_ble_eq_true rfl⟩) hS (fun q _ h => hFc q h) hFc (fun M t H1 locs ht hvm hM hB hz1 hk1 hS => ?_)
  obtain ⟨hP1, hK1, hD1⟩ := hB
  rw [ht] at hP1
  obtain ⟨hP, hD⟩ := t_jend (a := u) (b := [(g, .inr (9, [.int (nI 0), .int (nI 0), .null, .int (nI 0), .int (nI 0), .int (nI 0), .int (nI 0), .int (nI 0), .int (nI 0), .null, .null, .null, .null, .null, .null, .null, .null, .null, .int (nI 0), .int (nI 0), .null, .int (nI 0)]))]) hP hD hk1 hFc hP1 hD1
  have hM : t_mob cI g (fun _ => nI 0) 0 (nI 20) (nI 300) (nI 10) (nI 200) 0 (nI 4096) (nI 0) M := hM
  clear hP1 hD1 hK1 hPc hDc hFc hvm hz1 hk1 ht
  generalize H1 = H at hP hS ⊢
  refine W.widen (k := 46) (n := 8435) (by omega) (by omega) ?_
  refine lv_astore_n (lv' := [(2, .ref g), (1, .ref h), (0, .ref b)]) hx hb dL_law_15 rfl hl (by decide) rfl (fun ls hl => ?_)
  refine lv_iconst (v := (nI 1 : Int32)) hx hb dL_law_16 (by decide +kernel) ?_
  refine tv_newl (n := 1) hx hb (hts0 (.arrayClass .long) (List.mem_of_getElem? (i := 1078) (by decide +kernel))) hK hP hD hS hA (by decide) (Nat.le_of_ble_eq_true rfl) (Nat.le_of_ble_eq_true rfl) dL_law_17 (fun q H hP hD hS => ?_)
  have hP : va_P D vwCl ((q, .inl (cL, 1, .inr (.inl (fun _ => 0)))) :: (u ++ M)) H := t_Pm.mpr (fun z hz => t_Pm.mp hP z (by rcases List.mem_cons.mp hz with hz | hz; exact List.mem_append_right _ (by rw [hz]; exact List.mem_cons_self); exact List.mem_append_left _ hz))
  have hD : va_D (fun q : Nat => s.heap.size ≤ q) ((q, .inl (cL, 1, .inr (.inl (fun _ => 0)))) :: (u ++ M)) := t_Drot hD
  refine W.widen (k := 47) (n := 8436) (by omega) (by omega) ?_
  refine lv_astore_n (lv' := [(3, .ref q), (2, .ref g), (1, .ref h), (0, .ref b)]) hx hb dL_law_19 rfl hl (by decide) rfl (fun ls hl => ?_)
  refine lv_iconst (v := (nI 0 : Int32)) hx hb dL_law_20 (by decide +kernel) ?_
  refine lv_istore (lv' := [(4, .int (nI 0)), (3, .ref q), (2, .ref g), (1, .ref h), (0, .ref b)]) hx hb dL_law_21 hl (by decide) rfl (fun ls hl => ?_)
  exact law_loop (h := h) (g := g) (q := q) hl0 C0 hL hK hX (L + 1) 0 (by omega) (Nat.zero_le _) _ _ _ _ _ _ ⟨_, _, _, _, _, _, _, _, _, _, hO, hM, fun i hi => rfl⟩ hP hD hS (lv_sub hl [4, 3, 2, 1, 0] rfl)