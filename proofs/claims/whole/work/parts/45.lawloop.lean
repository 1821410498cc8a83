set_option maxHeartbeats 4000000 in
set_option maxRecDepth 100000 in
theorem law_sw {p : Program} {l : Launch} {e : Env} {s : State} {m : MethodId} {below : List Frame} {meth : Method} {c : Code} {D : va_G} {cI cL : ClassId} {b L : Nat} {xs : Nat → Int32} {h g q k : Nat} {o : Nat → Int64} {Wo Wm : va_W} {H : Heap} {locs : List Loc} {ls : Array Slot} {j : Nat} (hl0 : l.stackTraces = false) (C0 : lw_At p s m meth c b L xs) (hL : L ≤ 2560) (hk5 : 5 * k + 5 ≤ L) (hjl : j < 32) (hK : va_K D vwCl [(cI, .int), (cL, .long)] s) (hX : t_X (fun q : Nat => s.heap.size ≤ q) s s.heap) (hLI : t_LI cI h g Wo Wm) (hP : va_P D vwCl ((q, .inl (cL, 1, .inr (.inl o))) :: (Wo ++ Wm)) H) (hD : va_D (fun q : Nat => s.heap.size ≤ q) ((q, .inl (cL, 1, .inr (.inl o))) :: (Wo ++ Wm))) (hS : va_S (fun q : Nat => s.heap.size ≤ q) s.heap H locs) (hl : lv_has ls 7 [(0, .ref b), (1, .ref h), (2, .ref g), (3, .ref q), (4, .int (nI (5 * k)))]) (kk : ∀ (o : Nat → Int64) (Wo Wm : va_W) (H : Heap) (locs : List Loc) (ls : Array Slot), t_LI cI h g Wo Wm → va_P D vwCl ((q, .inl (cL, 1, .inr (.inl o))) :: (Wo ++ Wm)) H → va_D (fun q : Nat => s.heap.size ≤ q) ((q, .inl (cL, 1, .inr (.inl o))) :: (Wo ++ Wm)) → va_S (fun q : Nat => s.heap.size ≤ q) s.heap H locs → lv_has ls 7 [(0, .ref b), (1, .ref h), (2, .ref g), (3, .ref q), (4, .int (nI (5 * k)))] → W p l e room_1 s m #[Value.ref b] below meth c H locs (47 + (k + 1)) (8436 + 6 * (k + 1)) (lw_Z below #[Value.ref b] s) (F0 m 1520 ls [])) : W p l e room_1 s m #[Value.ref b] below meth c H locs (47 + k) (8436 + 6 * k) (lw_Z below #[Value.ref b] s) (F0 m 39 ls [.int (nI j)]) := by
  obtain ⟨hx, hb, -⟩ := id C0
  by_cases h26 : 26 ≤ j
  · refine lv_tableOut (tgt := 1520) hx hb dL_law_39 (Or.inr (by rw [nI_toInt (by omega)]; omega)) (by decide) ?_
    refine W.widen (k := 47 + k + 1) (n := 8436 + 6 * k + 6) (by omega) (by omega) ?_
    exact kk _ _ _ _ _ _ hLI hP hD hS hl
  · rcases (show j = 0 ∨ j = 1 ∨ j = 2 ∨ j = 3 ∨ j = 4 ∨ j = 5 ∨ j = 6 ∨ j = 7 ∨ j = 8 ∨ j = 9 ∨ j = 10 ∨ j = 11 ∨ j = 12 ∨ j = 13 ∨ j = 14 ∨ j = 15 ∨ j = 16 ∨ j = 17 ∨ j = 18 ∨ j = 19 ∨ j = 20 ∨ j = 21 ∨ j = 22 ∨ j = 23 ∨ j = 24 ∨ j = 25 by omega) with rfl | rfl | rfl | rfl | rfl | rfl | rfl | rfl | rfl | rfl | rfl | rfl | rfl | rfl | rfl | rfl | rfl | rfl | rfl | rfl | rfl | rfl | rfl | rfl | rfl | rfl
    · refine lv_tableIn (tgt := 156) (off := 117) hx hb dL_law_39 (by decide +kernel) (by decide +kernel) (by decide +kernel) (by decide) ?_
      exact law_c0 hl0 C0 hL hk5 hK hX hLI hP hD hS hl kk
    · refine lv_tableIn (tgt := 212) (off := 173) hx hb dL_law_39 (by decide +kernel) (by decide +kernel) (by decide +kernel) (by decide) ?_
      exact law_c1 hl0 C0 hL hk5 hK hX hLI hP hD hS hl kk
    · refine lv_tableIn (tgt := 304) (off := 265) hx hb dL_law_39 (by decide +kernel) (by decide +kernel) (by decide +kernel) (by decide) ?_
      exact law_c2 hl0 C0 hL hk5 hK hX hLI hP hD hS hl kk
    · refine lv_tableIn (tgt := 384) (off := 345) hx hb dL_law_39 (by decide +kernel) (by decide +kernel) (by decide +kernel) (by decide) ?_
      exact law_c3 hl0 C0 hL hk5 hK hX hLI hP hD hS hl kk
    · refine lv_tableIn (tgt := 397) (off := 358) hx hb dL_law_39 (by decide +kernel) (by decide +kernel) (by decide +kernel) (by decide) ?_
      exact law_c4 hl0 C0 hL hk5 hK hX hLI hP hD hS hl kk
    · refine lv_tableIn (tgt := 453) (off := 414) hx hb dL_law_39 (by decide +kernel) (by decide +kernel) (by decide +kernel) (by decide) ?_
      exact law_c5 hl0 C0 hL hk5 hK hX hLI hP hD hS hl kk
    · refine lv_tableIn (tgt := 513) (off := 474) hx hb dL_law_39 (by decide +kernel) (by decide +kernel) (by decide +kernel) (by decide) ?_
      exact law_c6 hl0 C0 hL hk5 hK hX hLI hP hD hS hl kk
    · refine lv_tableIn (tgt := 561) (off := 522) hx hb dL_law_39 (by decide +kernel) (by decide +kernel) (by decide +kernel) (by decide) ?_
      exact law_c7 hl0 C0 hL hk5 hK hX hLI hP hD hS hl kk
    · refine lv_tableIn (tgt := 574) (off := 535) hx hb dL_law_39 (by decide +kernel) (by decide +kernel) (by decide +kernel) (by decide) ?_
      exact law_c8 hl0 C0 hL hk5 hK hX hLI hP hD hS hl kk
    · refine lv_tableIn (tgt := 630) (off := 591) hx hb dL_law_39 (by decide +kernel) (by decide +kernel) (by decide +kernel) (by decide) ?_
      exact law_c9 hl0 C0 hL hk5 hK hX hLI hP hD hS hl kk
    · refine lv_tableIn (tgt := 643) (off := 604) hx hb dL_law_39 (by decide +kernel) (by decide +kernel) (by decide +kernel) (by decide) ?_
      exact law_c10 hl0 C0 hL hk5 hK hX hLI hP hD hS hl kk
    · refine lv_tableIn (tgt := 711) (off := 672) hx hb dL_law_39 (by decide +kernel) (by decide +kernel) (by decide +kernel) (by decide) ?_
      exact law_c11 hl0 C0 hL hk5 hK hX hLI hP hD hS hl kk
    · refine lv_tableIn (tgt := 779) (off := 740) hx hb dL_law_39 (by decide +kernel) (by decide +kernel) (by decide +kernel) (by decide) ?_
      exact law_c12 hl0 C0 hL hk5 hK hX hLI hP hD hS hl kk
    · refine lv_tableIn (tgt := 847) (off := 808) hx hb dL_law_39 (by decide +kernel) (by decide +kernel) (by decide +kernel) (by decide) ?_
      exact law_c13 hl0 C0 hL hk5 hK hX hLI hP hD hS hl kk
    · refine lv_tableIn (tgt := 915) (off := 876) hx hb dL_law_39 (by decide +kernel) (by decide +kernel) (by decide +kernel) (by decide) ?_
      exact law_c14 hl0 C0 hL hk5 hK hX hLI hP hD hS hl kk
    · refine lv_tableIn (tgt := 971) (off := 932) hx hb dL_law_39 (by decide +kernel) (by decide +kernel) (by decide +kernel) (by decide) ?_
      exact law_c15 hl0 C0 hL hk5 hK hX hLI hP hD hS hl kk
    · refine lv_tableIn (tgt := 1039) (off := 1000) hx hb dL_law_39 (by decide +kernel) (by decide +kernel) (by decide +kernel) (by decide) ?_
      exact law_c16 hl0 C0 hL hk5 hK hX hLI hP hD hS hl kk
    · refine lv_tableIn (tgt := 1052) (off := 1013) hx hb dL_law_39 (by decide +kernel) (by decide +kernel) (by decide +kernel) (by decide) ?_
      exact law_c17 hl0 C0 hL hk5 hK hX hLI hP hD hS hl kk
    · refine lv_tableIn (tgt := 1108) (off := 1069) hx hb dL_law_39 (by decide +kernel) (by decide +kernel) (by decide +kernel) (by decide) ?_
      exact law_c18 hl0 C0 hL hk5 hK hX hLI hP hD hS hl kk
    · refine lv_tableIn (tgt := 1164) (off := 1125) hx hb dL_law_39 (by decide +kernel) (by decide +kernel) (by decide +kernel) (by decide) ?_
      exact law_c19 hl0 C0 hL hk5 hK hX hLI hP hD hS hl kk
    · refine lv_tableIn (tgt := 1220) (off := 1181) hx hb dL_law_39 (by decide +kernel) (by decide +kernel) (by decide +kernel) (by decide) ?_
      exact law_c20 hl0 C0 hL hk5 hK hX hLI hP hD hS hl kk
    · refine lv_tableIn (tgt := 1276) (off := 1237) hx hb dL_law_39 (by decide +kernel) (by decide +kernel) (by decide +kernel) (by decide) ?_
      exact law_c21 hl0 C0 hL hk5 hK hX hLI hP hD hS hl kk
    · refine lv_tableIn (tgt := 1339) (off := 1300) hx hb dL_law_39 (by decide +kernel) (by decide +kernel) (by decide +kernel) (by decide) ?_
      exact law_c22 hl0 C0 hL hk5 hK hX hLI hP hD hS hl kk
    · refine lv_tableIn (tgt := 1352) (off := 1313) hx hb dL_law_39 (by decide +kernel) (by decide +kernel) (by decide +kernel) (by decide) ?_
      exact law_c23 hl0 C0 hL hk5 hK hX hLI hP hD hS hl kk
    · refine lv_tableIn (tgt := 1408) (off := 1369) hx hb dL_law_39 (by decide +kernel) (by decide +kernel) (by decide +kernel) (by decide) ?_
      exact law_c24 hl0 C0 hL hk5 hK hX hLI hP hD hS hl kk
    · refine lv_tableIn (tgt := 1464) (off := 1425) hx hb dL_law_39 (by decide +kernel) (by decide +kernel) (by decide +kernel) (by decide) ?_
      exact law_c25 hl0 C0 hL hk5 hK hX hLI hP hD hS hl kk
theorem t_and31 (x : Int32) : ∃ j : Nat, x &&& nI 31 = nI j ∧ j < 32 := by
  refine ⟨(x &&& nI 31).toUInt32.toNat, ?_, ?_⟩
  · show x &&& nI 31 = Int32.ofUInt32 (UInt32.ofNat (x &&& nI 31).toUInt32.toNat)
    rw [UInt32.ofNat_toNat]
  · show (x.toUInt32 &&& (nI 31).toUInt32).toNat < 32
    rw [UInt32.toNat_and, show (nI 31).toUInt32.toNat = 31 from by decide +kernel]
    exact Nat.lt_succ_of_le Nat.and_le_right
set_option maxHeartbeats 4000000 in
set_option maxRecDepth 100000 in
theorem law_loop {p : Program} {l : Launch} {e : Env} {s : State} {m : MethodId} {below : List Frame} {meth : Method} {c : Code} {D : va_G} {cI cL : ClassId} {b L : Nat} {xs : Nat → Int32} {h g q : Nat} (hl0 : l.stackTraces = false) (C0 : lw_At p s m meth c b L xs) (hL : L ≤ 2560) (hK : va_K D vwCl [(cI, .int), (cL, .long)] s) (hX : t_X (fun q : Nat => s.heap.size ≤ q) s s.heap) : ∀ (n k : Nat), L - 5 * k < n → 5 * k ≤ L → ∀ (o : Nat → Int64) (Wo Wm : va_W) (H : Heap) (locs : List Loc) (ls : Array Slot), t_LI cI h g Wo Wm → va_P D vwCl ((q, .inl (cL, 1, .inr (.inl o))) :: (Wo ++ Wm)) H → va_D (fun q : Nat => s.heap.size ≤ q) ((q, .inl (cL, 1, .inr (.inl o))) :: (Wo ++ Wm)) → va_S (fun q : Nat => s.heap.size ≤ q) s.heap H locs → lv_has ls 7 [(0, .ref b), (1, .ref h), (2, .ref g), (3, .ref q), (4, .int (nI (5 * k)))] → W p l e room_1 s m #[Value.ref b] below meth c H locs (47 + k) (8436 + 6 * k) (lw_Z below #[Value.ref b] s) (F0 m 23 ls []) := by
  intro n
  induction n with
  | zero => intro k h1; exact absurd h1 (Nat.not_lt_zero _)
  | succ n ih =>
    intro k hn5 hkL o Wo Wm H locs ls hLI hP hD hS hl
    obtain ⟨hx, hb, hr, hml, hown, hts, hXs, hbl, hlocks, hgv⟩ := id C0
    have hbA : ¬ (fun q : Nat => s.heap.size ≤ q) b := Nat.not_le.mpr hbl
    refine lv_iload hx hb dL_law_23 (lv_at hl 4 rfl) ?_
    refine lv_aload_n hx hb dL_law_25 rfl (lv_at hl 0 rfl) ?_
    refine va_slen hx hb hXs hbl hbA hS dL_law_26 ?_
    refine lv_iconst (v := (nI 5 : Int32)) hx hb dL_law_27 (by decide +kernel) ?_
    refine lv_isub hx hb dL_law_28 ?_
    refine lv_icmp_gt (tgt := 1526) hx hb dL_law_29 (by decide) (fun hgt => ?_) (fun hgt => ?_)
    · refine lv_iconst (v := 1) hx hb dL_law_1526 (by decide) ?_
      refine va_forget (fun q hq => hS.2.2 q hq) ?_
      refine W.widen (k := 1074) (n := 11629) (by omega) (by omega) ?_
      exact lw_ret hx hb hr hlocks dL_law_1527
    · have hk5 : 5 * k + 5 ≤ L := Nat.not_lt.mp (fun z => hgt (by
        show nI L - nI 5 < nI (5 * k)
        rw [Int32.lt_iff_toInt_lt, pk_sub_toInt (by omega) (by decide), nI_toInt (by omega)]
        omega))
      refine lv_aload_n hx hb dL_law_32 rfl (lv_at hl 0 rfl) ?_
      refine lv_iload hx hb dL_law_33 (lv_at hl 4 rfl) ?_
      refine va_sld hx hb hXs hbl hbA hS (vp_in_nI (by omega) (by omega)) dL_law_35 ?_
      refine lv_bipush (v := (nI 31 : Int32)) hx hb dL_law_36 (by decide +kernel) ?_
      refine lv_iand hx hb dL_law_38 ?_
      obtain ⟨j, hj, hjl⟩ := t_and31 (xs (nI (5 * k)).toNatClampNeg)
      refine tv_re (y := nI j) hj ?_
      clear hj
      exact law_sw hl0 C0 hL hk5 hjl hK hX hLI hP hD hS hl (fun o Wo Wm H locs ls hLI hP hD hS hl => by
        refine lv_iinc (v := nI (5 * k + 5)) (lv' := [(4, .int (nI (5 * k + 5))), (0, .ref b), (1, .ref h), (2, .ref g), (3, .ref q)]) hx hb dL_law_1520 hl (k := 4) rfl (nI_add (5 * k) 5) (by decide) rfl (fun ls hl => ?_)
        refine lv_goto (tgt := 23) hx hb dL_law_1523 (by decide) ?_
        exact ih (k + 1) (by omega) (by omega) _ _ _ _ _ _ hLI hP hD hS (by rw [show 5 * (k + 1) = 5 * k + 5 by omega]; exact lv_sub hl [1, 2, 3, 4, 0] rfl))