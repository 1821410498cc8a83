theorem t_ir_nat {v : Int32} {j a b : Nat} (h : v = nI j) (h1 : a ≤ j) (h2 : j ≤ b) (hb : b < 2147483648) : t_ir v (nI a) (nI b) := by
  rw [h]
  exact ⟨fun q => by have := (nI_ltI (by omega) (by omega)).mp q; omega, fun q => by have := (nI_ltI (by omega) (by omega)).mp q; omega⟩
/-- between two calls -/
def t_LI (cI : ClassId) (h g : Nat) (W1 M1 : va_W) : Prop := ∃ (x y : Nat → Int32) (n : Nat) (th un ju ch : Int32) (tm : Nat) (ba thr : Int32), t_obj cI h x n th un ju ch tm ba W1 ∧ t_mob cI g y n th un ju ch tm ba thr M1 ∧ t_agr x y n
set_option maxHeartbeats 1000000 in
theorem t_pr_sample {cI : ClassId} {h g : Nat} {x y : Nat → Int32} {n : Nat} {th un ju ch : Int32} {tm : Nat} {ba : Int32} {v r b : Int32} {o1 : Nat → Int64} {W1 M1 : va_W} (hag : t_agr x y n) (hn : n ≤ 1024) (hw : (r = nI 0 ∧ ∃ a : Int32, o1 0 = a.toInt64 ∧ (∃ j : Nat, v = nI j ∧ j < n ∧ a = x j) ∧ t_obj cI h x n th un ju ch tm ba W1) ∨ (r = nI 1 ∧ ((v < 0 ∨ nI n ≤ v)) ∧ t_obj cI h x n th un ju ch tm ba W1)) (hm : ((v < 0 ∨ nI n ≤ v) ∧ t_mob cI g y n th un ju ch tm ba (nI 1) M1) ∨ (∃ j : Nat, v = nI j ∧ j < n ∧ b = y j ∧ t_mob cI g y n th un ju ch tm ba (nI 0) M1)) : t_LJ cI h g r (o1 0) b W1 M1 := by
  have hF := t_F_le hn
  have hs := t_agr_same hag
  rcases hw with ⟨hr, a, ho, ⟨j, hj1, hj2, hj3⟩, hO⟩ | ⟨hr, hc, hO⟩
  · rcases hm with ⟨hc, hM⟩ | ⟨i, hi1, hi2, hi3, hM⟩
    · exact (t_noF hj1 hj2 (by omega) hc).elim
    · have e : i = j := t_nIj hi1 hj1 hi2 hj2 (by omega)
      rw [e] at hi3
      refine ⟨fun _ => ?_, x, y, n, th, un, ju, ch, tm, ba, hO, by rw [hr]; exact hM, hag⟩
      rw [ho, hj3, hi3]
      exact congrArg Int32.toInt64 (hag j hj2)
  · rcases hm with ⟨hc2, hM⟩ | ⟨i, hi1, hi2, hi3, hM⟩
    · exact ⟨fun q => absurd (hr.symm.trans q) t_nI10, x, y, n, th, un, ju, ch, tm, ba, hO, by rw [hr]; exact hM, hag⟩
    · exact (t_noF hi1 hi2 (by omega) hc).elim
set_option maxHeartbeats 1000000 in
theorem t_pr_lag {cI : ClassId} {h g : Nat} {x y : Nat → Int32} {n : Nat} {th un ju ch : Int32} {tm : Nat} {ba : Int32} {v r b : Int32} {o1 : Nat → Int64} {W1 M1 : va_W} (hag : t_agr x y n) (hn : n ≤ 1024) (hw : (r = nI 0 ∧ ∃ a : Int32, o1 0 = a.toInt64 ∧ (∃ j : Nat, v = nI j ∧ j < t_F n ∧ a = nI (t_LX x th un ju ch (t_F n) j)) ∧ t_obj cI h x n th un ju ch tm ba W1) ∨ (r = nI 1 ∧ ((v < 0 ∨ nI (t_F n) ≤ v)) ∧ t_obj cI h x n th un ju ch tm ba W1)) (hm : ((v < 0 ∨ nI (t_F n) ≤ v) ∧ t_mob cI g y n th un ju ch tm ba (nI 1) M1) ∨ (∃ j : Nat, v = nI j ∧ j < t_F n ∧ b = nI (t_LX y th un ju ch (t_F n) j) ∧ t_mob cI g y n th un ju ch tm ba (nI 0) M1)) : t_LJ cI h g r (o1 0) b W1 M1 := by
  have hF := t_F_le hn
  have hs := t_agr_same hag
  rcases hw with ⟨hr, a, ho, ⟨j, hj1, hj2, hj3⟩, hO⟩ | ⟨hr, hc, hO⟩
  · rcases hm with ⟨hc, hM⟩ | ⟨i, hi1, hi2, hi3, hM⟩
    · exact (t_noF hj1 hj2 (by omega) hc).elim
    · have e : i = j := t_nIj hi1 hj1 hi2 hj2 (by omega)
      rw [e] at hi3
      refine ⟨fun _ => ?_, x, y, n, th, un, ju, ch, tm, ba, hO, by rw [hr]; exact hM, hag⟩
      rw [ho, hj3, hi3]
      exact congrArg Int32.toInt64 (congrArg nI (t_LX_congr hs hj2))
  · rcases hm with ⟨hc2, hM⟩ | ⟨i, hi1, hi2, hi3, hM⟩
    · exact ⟨fun q => absurd (hr.symm.trans q) t_nI10, x, y, n, th, un, ju, ch, tm, ba, hO, by rw [hr]; exact hM, hag⟩
    · exact (t_noF hi1 hi2 (by omega) hc).elim
set_option maxHeartbeats 1000000 in
theorem t_pr_period {cI : ClassId} {h g : Nat} {x y : Nat → Int32} {n : Nat} {th un ju ch : Int32} {tm : Nat} {ba : Int32} {v r b : Int32} {o1 : Nat → Int64} {W1 M1 : va_W} (hag : t_agr x y n) (hn : n ≤ 1024) (hw : (r = nI 0 ∧ ∃ a : Int32, o1 0 = a.toInt64 ∧ (∃ j : Nat, v = nI j ∧ j < t_F n ∧ a = t_PE x th un ju ch (t_F n) j) ∧ t_obj cI h x n th un ju ch tm ba W1) ∨ (r = nI 1 ∧ ((v < 0 ∨ nI (t_F n) ≤ v)) ∧ t_obj cI h x n th un ju ch tm ba W1)) (hm : ((v < 0 ∨ nI (t_F n) ≤ v) ∧ t_mob cI g y n th un ju ch tm ba (nI 1) M1) ∨ (∃ j : Nat, v = nI j ∧ j < t_F n ∧ b = t_PE y th un ju ch (t_F n) j ∧ t_mob cI g y n th un ju ch tm ba (nI 0) M1)) : t_LJ cI h g r (o1 0) b W1 M1 := by
  have hF := t_F_le hn
  have hs := t_agr_same hag
  rcases hw with ⟨hr, a, ho, ⟨j, hj1, hj2, hj3⟩, hO⟩ | ⟨hr, hc, hO⟩
  · rcases hm with ⟨hc, hM⟩ | ⟨i, hi1, hi2, hi3, hM⟩
    · exact (t_noF hj1 hj2 (by omega) hc).elim
    · have e : i = j := t_nIj hi1 hj1 hi2 hj2 (by omega)
      rw [e] at hi3
      refine ⟨fun _ => ?_, x, y, n, th, un, ju, ch, tm, ba, hO, by rw [hr]; exact hM, hag⟩
      rw [ho, hj3, hi3]
      exact congrArg Int32.toInt64 (t_PE_c hs hj2)
  · rcases hm with ⟨hc2, hM⟩ | ⟨i, hi1, hi2, hi3, hM⟩
    · exact ⟨fun q => absurd (hr.symm.trans q) t_nI10, x, y, n, th, un, ju, ch, tm, ba, hO, by rw [hr]; exact hM, hag⟩
    · exact (t_noF hi1 hi2 (by omega) hc).elim
set_option maxHeartbeats 1000000 in
theorem t_pr_name {cI : ClassId} {h g : Nat} {x y : Nat → Int32} {n : Nat} {th un ju ch : Int32} {tm : Nat} {ba : Int32} {v r b : Int32} {o1 : Nat → Int64} {W1 M1 : va_W} (hag : t_agr x y n) (hn : n ≤ 1024) (hw : (r = nI 0 ∧ ∃ a : Int32, o1 0 = a.toInt64 ∧ (∃ j : Nat, v = nI j ∧ j < t_F n ∧ a = t_nm ((t_PT x th un ju ch tm ba (t_F n)) j)) ∧ t_obj cI h x n th un ju ch tm ba W1) ∨ (r = nI 1 ∧ ((v < 0 ∨ nI (t_F n) ≤ v)) ∧ t_obj cI h x n th un ju ch tm ba W1)) (hm : ((v < 0 ∨ nI (t_F n) ≤ v) ∧ t_mob cI g y n th un ju ch tm ba (nI 1) M1) ∨ (∃ j : Nat, v = nI j ∧ j < t_F n ∧ b = t_nm ((t_PT y th un ju ch tm ba (t_F n)) j) ∧ t_mob cI g y n th un ju ch tm ba (nI 0) M1)) : t_LJ cI h g r (o1 0) b W1 M1 := by
  have hF := t_F_le hn
  have hs := t_agr_same hag
  rcases hw with ⟨hr, a, ho, ⟨j, hj1, hj2, hj3⟩, hO⟩ | ⟨hr, hc, hO⟩
  · rcases hm with ⟨hc, hM⟩ | ⟨i, hi1, hi2, hi3, hM⟩
    · exact (t_noF hj1 hj2 (by omega) hc).elim
    · have e : i = j := t_nIj hi1 hj1 hi2 hj2 (by omega)
      rw [e] at hi3
      refine ⟨fun _ => ?_, x, y, n, th, un, ju, ch, tm, ba, hO, by rw [hr]; exact hM, hag⟩
      rw [ho, hj3, hi3]
      exact congrArg Int32.toInt64 (congrArg t_nm (t_PT_c hs hj2))
  · rcases hm with ⟨hc2, hM⟩ | ⟨i, hi1, hi2, hi3, hM⟩
    · exact ⟨fun q => absurd (hr.symm.trans q) t_nI10, x, y, n, th, un, ju, ch, tm, ba, hO, by rw [hr]; exact hM, hag⟩
    · exact (t_noF hi1 hi2 (by omega) hc).elim
set_option maxHeartbeats 1000000 in
theorem t_pr_octave {cI : ClassId} {h g : Nat} {x y : Nat → Int32} {n : Nat} {th un ju ch : Int32} {tm : Nat} {ba : Int32} {v r b : Int32} {o1 : Nat → Int64} {W1 M1 : va_W} (hag : t_agr x y n) (hn : n ≤ 1024) (hw : (r = nI 0 ∧ ∃ a : Int32, o1 0 = a.toInt64 ∧ (∃ j : Nat, v = nI j ∧ j < t_F n ∧ a = t_oc ((t_PT x th un ju ch tm ba (t_F n)) j)) ∧ t_obj cI h x n th un ju ch tm ba W1) ∨ (r = nI 1 ∧ ((v < 0 ∨ nI (t_F n) ≤ v)) ∧ t_obj cI h x n th un ju ch tm ba W1)) (hm : ((v < 0 ∨ nI (t_F n) ≤ v) ∧ t_mob cI g y n th un ju ch tm ba (nI 1) M1) ∨ (∃ j : Nat, v = nI j ∧ j < t_F n ∧ b = t_oc ((t_PT y th un ju ch tm ba (t_F n)) j) ∧ t_mob cI g y n th un ju ch tm ba (nI 0) M1)) : t_LJ cI h g r (o1 0) b W1 M1 := by
  have hF := t_F_le hn
  have hs := t_agr_same hag
  rcases hw with ⟨hr, a, ho, ⟨j, hj1, hj2, hj3⟩, hO⟩ | ⟨hr, hc, hO⟩
  · rcases hm with ⟨hc, hM⟩ | ⟨i, hi1, hi2, hi3, hM⟩
    · exact (t_noF hj1 hj2 (by omega) hc).elim
    · have e : i = j := t_nIj hi1 hj1 hi2 hj2 (by omega)
      rw [e] at hi3
      refine ⟨fun _ => ?_, x, y, n, th, un, ju, ch, tm, ba, hO, by rw [hr]; exact hM, hag⟩
      rw [ho, hj3, hi3]
      exact congrArg Int32.toInt64 (congrArg t_oc (t_PT_c hs hj2))
  · rcases hm with ⟨hc2, hM⟩ | ⟨i, hi1, hi2, hi3, hM⟩
    · exact ⟨fun q => absurd (hr.symm.trans q) t_nI10, x, y, n, th, un, ju, ch, tm, ba, hO, by rw [hr]; exact hM, hag⟩
    · exact (t_noF hi1 hi2 (by omega) hc).elim
set_option maxHeartbeats 1000000 in
theorem t_pr_isOnset {cI : ClassId} {h g : Nat} {x y : Nat → Int32} {n : Nat} {th un ju ch : Int32} {tm : Nat} {ba : Int32} {v r b : Int32} {o1 : Nat → Int64} {W1 M1 : va_W} (hag : t_agr x y n) (hn : n ≤ 1024) (hw : (r = nI 0 ∧ ∃ a : Int32, o1 0 = a.toInt64 ∧ (∃ j : Nat, v = nI j ∧ j < t_F n ∧ a = t_b (t_on x j)) ∧ t_obj cI h x n th un ju ch tm ba W1) ∨ (r = nI 1 ∧ ((v < 0 ∨ nI (t_F n) ≤ v)) ∧ t_obj cI h x n th un ju ch tm ba W1)) (hm : ((v < 0 ∨ nI (t_F n) ≤ v) ∧ t_mob cI g y n th un ju ch tm ba (nI 1) M1) ∨ (∃ j : Nat, v = nI j ∧ j < t_F n ∧ b = t_b (t_on y j) ∧ t_mob cI g y n th un ju ch tm ba (nI 0) M1)) : t_LJ cI h g r (o1 0) b W1 M1 := by
  have hF := t_F_le hn
  have hs := t_agr_same hag
  rcases hw with ⟨hr, a, ho, ⟨j, hj1, hj2, hj3⟩, hO⟩ | ⟨hr, hc, hO⟩
  · rcases hm with ⟨hc, hM⟩ | ⟨i, hi1, hi2, hi3, hM⟩
    · exact (t_noF hj1 hj2 (by omega) hc).elim
    · have e : i = j := t_nIj hi1 hj1 hi2 hj2 (by omega)
      rw [e] at hi3
      refine ⟨fun _ => ?_, x, y, n, th, un, ju, ch, tm, ba, hO, by rw [hr]; exact hM, hag⟩
      rw [ho, hj3, hi3]
      exact congrArg Int32.toInt64 (congrArg t_b (t_on_c hs hj2))
  · rcases hm with ⟨hc2, hM⟩ | ⟨i, hi1, hi2, hi3, hM⟩
    · exact ⟨fun q => absurd (hr.symm.trans q) t_nI10, x, y, n, th, un, ju, ch, tm, ba, hO, by rw [hr]; exact hM, hag⟩
    · exact (t_noF hi1 hi2 (by omega) hc).elim
set_option maxHeartbeats 1000000 in
theorem t_pr_candidates {cI : ClassId} {h g : Nat} {x y : Nat → Int32} {n : Nat} {th un ju ch : Int32} {tm : Nat} {ba : Int32} {v r b : Int32} {o1 : Nat → Int64} {W1 M1 : va_W} (hag : t_agr x y n) (hn : n ≤ 1024) (hw : (r = nI 0 ∧ ∃ a : Int32, o1 0 = a.toInt64 ∧ (∃ j : Nat, v = nI j ∧ j < t_F n ∧ a = nI (t_cs (t_df x j) (t_sm x j) th).length) ∧ t_obj cI h x n th un ju ch tm ba W1) ∨ (r = nI 1 ∧ ((v < 0 ∨ nI (t_F n) ≤ v)) ∧ t_obj cI h x n th un ju ch tm ba W1)) (hm : ((v < 0 ∨ nI (t_F n) ≤ v) ∧ t_mob cI g y n th un ju ch tm ba (nI 1) M1) ∨ (∃ j : Nat, v = nI j ∧ j < t_F n ∧ b = nI (t_cs (t_df y j) (t_sm y j) th).length ∧ t_mob cI g y n th un ju ch tm ba (nI 0) M1)) : t_LJ cI h g r (o1 0) b W1 M1 := by
  have hF := t_F_le hn
  have hs := t_agr_same hag
  rcases hw with ⟨hr, a, ho, ⟨j, hj1, hj2, hj3⟩, hO⟩ | ⟨hr, hc, hO⟩
  · rcases hm with ⟨hc, hM⟩ | ⟨i, hi1, hi2, hi3, hM⟩
    · exact (t_noF hj1 hj2 (by omega) hc).elim
    · have e : i = j := t_nIj hi1 hj1 hi2 hj2 (by omega)
      rw [e] at hi3
      refine ⟨fun _ => ?_, x, y, n, th, un, ju, ch, tm, ba, hO, by rw [hr]; exact hM, hag⟩
      rw [ho, hj3, hi3]
      exact congrArg Int32.toInt64 (congrArg (fun L => nI (List.length L)) (t_cs_c hs hj2))
  · rcases hm with ⟨hc2, hM⟩ | ⟨i, hi1, hi2, hi3, hM⟩
    · exact ⟨fun q => absurd (hr.symm.trans q) t_nI10, x, y, n, th, un, ju, ch, tm, ba, hO, by rw [hr]; exact hM, hag⟩
    · exact (t_noF hi1 hi2 (by omega) hc).elim
set_option maxHeartbeats 1000000 in
theorem t_pr_noteOf {cI : ClassId} {h g : Nat} {x y : Nat → Int32} {n : Nat} {th un ju ch : Int32} {tm : Nat} {ba : Int32} {v r b : Int32} {o1 : Nat → Int64} {W1 M1 : va_W} (hag : t_agr x y n) (hn : n ≤ 1024) (hw : (r = nI 0 ∧ ∃ a : Int32, o1 0 = a.toInt64 ∧ (∃ j : Nat, v = nI j ∧ j < t_F n ∧ a = t_of (t_PT x th un ju ch tm ba (t_F n)) (t_on x) j) ∧ t_obj cI h x n th un ju ch tm ba W1) ∨ (r = nI 1 ∧ ((v < 0 ∨ nI (t_F n) ≤ v)) ∧ t_obj cI h x n th un ju ch tm ba W1)) (hm : ((v < 0 ∨ nI (t_F n) ≤ v) ∧ t_mob cI g y n th un ju ch tm ba (nI 1) M1) ∨ (∃ j : Nat, v = nI j ∧ j < t_F n ∧ b = t_of (t_PT y th un ju ch tm ba (t_F n)) (t_on y) j ∧ t_mob cI g y n th un ju ch tm ba (nI 0) M1)) : t_LJ cI h g r (o1 0) b W1 M1 := by
  have hF := t_F_le hn
  have hs := t_agr_same hag
  rcases hw with ⟨hr, a, ho, ⟨j, hj1, hj2, hj3⟩, hO⟩ | ⟨hr, hc, hO⟩
  · rcases hm with ⟨hc, hM⟩ | ⟨i, hi1, hi2, hi3, hM⟩
    · exact (t_noF hj1 hj2 (by omega) hc).elim
    · have e : i = j := t_nIj hi1 hj1 hi2 hj2 (by omega)
      rw [e] at hi3
      refine ⟨fun _ => ?_, x, y, n, th, un, ju, ch, tm, ba, hO, by rw [hr]; exact hM, hag⟩
      rw [ho, hj3, hi3]
      exact congrArg Int32.toInt64 (t_of_c hs hj2)
  · rcases hm with ⟨hc2, hM⟩ | ⟨i, hi1, hi2, hi3, hM⟩
    · exact ⟨fun q => absurd (hr.symm.trans q) t_nI10, x, y, n, th, un, ju, ch, tm, ba, hO, by rw [hr]; exact hM, hag⟩
    · exact (t_noF hi1 hi2 (by omega) hc).elim
set_option maxHeartbeats 1000000 in
theorem t_pr_noteStart {cI : ClassId} {h g : Nat} {x y : Nat → Int32} {n : Nat} {th un ju ch : Int32} {tm : Nat} {ba : Int32} {v r b : Int32} {o1 : Nat → Int64} {W1 M1 : va_W} (hag : t_agr x y n) (hn : n ≤ 1024) (hw : (r = nI 0 ∧ ∃ a : Int32, o1 0 = a.toInt64 ∧ (∃ j : Nat, v = nI j ∧ j < t_nn (t_PT x th un ju ch tm ba (t_F n)) (t_on x) (t_F n) ∧ a = nI (t_sts (t_PT x th un ju ch tm ba (t_F n)) (t_on x) (t_F n) j)) ∧ t_obj cI h x n th un ju ch tm ba W1) ∨ (r = nI 1 ∧ ((v < 0 ∨ nI (t_nn (t_PT x th un ju ch tm ba (t_F n)) (t_on x) (t_F n)) ≤ v)) ∧ t_obj cI h x n th un ju ch tm ba W1)) (hm : ((v < 0 ∨ nI (t_nn (t_PT y th un ju ch tm ba (t_F n)) (t_on y) (t_F n)) ≤ v) ∧ t_mob cI g y n th un ju ch tm ba (nI 1) M1) ∨ (∃ j : Nat, v = nI j ∧ j < t_nn (t_PT y th un ju ch tm ba (t_F n)) (t_on y) (t_F n) ∧ b = nI (t_sts (t_PT y th un ju ch tm ba (t_F n)) (t_on y) (t_F n) j) ∧ t_mob cI g y n th un ju ch tm ba (nI 0) M1)) : t_LJ cI h g r (o1 0) b W1 M1 := by
  have hF := t_F_le hn
  have hs := t_agr_same hag
  have hN := t_nn_le (pa := t_PT x th un ju ch tm ba (t_F n)) (on := t_on x) (t_F n)
  rw [← t_nnN_c hs] at hm
  rcases hw with ⟨hr, a, ho, ⟨j, hj1, hj2, hj3⟩, hO⟩ | ⟨hr, hc, hO⟩
  · rcases hm with ⟨hc, hM⟩ | ⟨i, hi1, hi2, hi3, hM⟩
    · exact (t_noF hj1 hj2 (by omega) hc).elim
    · have e : i = j := t_nIj hi1 hj1 hi2 hj2 (by omega)
      rw [e] at hi3
      refine ⟨fun _ => ?_, x, y, n, th, un, ju, ch, tm, ba, hO, by rw [hr]; exact hM, hag⟩
      rw [ho, hj3, hi3]
      exact congrArg Int32.toInt64 (congrArg nI (t_sts_c hs))
  · rcases hm with ⟨hc2, hM⟩ | ⟨i, hi1, hi2, hi3, hM⟩
    · exact ⟨fun q => absurd (hr.symm.trans q) t_nI10, x, y, n, th, un, ju, ch, tm, ba, hO, by rw [hr]; exact hM, hag⟩
    · exact (t_noF hi1 hi2 (by omega) hc).elim
set_option maxHeartbeats 1000000 in
theorem t_pr_noteLength {cI : ClassId} {h g : Nat} {x y : Nat → Int32} {n : Nat} {th un ju ch : Int32} {tm : Nat} {ba : Int32} {v r b : Int32} {o1 : Nat → Int64} {W1 M1 : va_W} (hag : t_agr x y n) (hn : n ≤ 1024) (hw : (r = nI 0 ∧ ∃ a : Int32, o1 0 = a.toInt64 ∧ (∃ j : Nat, v = nI j ∧ j < t_nn (t_PT x th un ju ch tm ba (t_F n)) (t_on x) (t_F n) ∧ a = nI (t_lns (t_PT x th un ju ch tm ba (t_F n)) (t_on x) (t_F n) j)) ∧ t_obj cI h x n th un ju ch tm ba W1) ∨ (r = nI 1 ∧ ((v < 0 ∨ nI (t_nn (t_PT x th un ju ch tm ba (t_F n)) (t_on x) (t_F n)) ≤ v)) ∧ t_obj cI h x n th un ju ch tm ba W1)) (hm : ((v < 0 ∨ nI (t_nn (t_PT y th un ju ch tm ba (t_F n)) (t_on y) (t_F n)) ≤ v) ∧ t_mob cI g y n th un ju ch tm ba (nI 1) M1) ∨ (∃ j : Nat, v = nI j ∧ j < t_nn (t_PT y th un ju ch tm ba (t_F n)) (t_on y) (t_F n) ∧ b = nI (t_lns (t_PT y th un ju ch tm ba (t_F n)) (t_on y) (t_F n) j) ∧ t_mob cI g y n th un ju ch tm ba (nI 0) M1)) : t_LJ cI h g r (o1 0) b W1 M1 := by
  have hF := t_F_le hn
  have hs := t_agr_same hag
  have hN := t_nn_le (pa := t_PT x th un ju ch tm ba (t_F n)) (on := t_on x) (t_F n)
  rw [← t_nnN_c hs] at hm
  rcases hw with ⟨hr, a, ho, ⟨j, hj1, hj2, hj3⟩, hO⟩ | ⟨hr, hc, hO⟩
  · rcases hm with ⟨hc, hM⟩ | ⟨i, hi1, hi2, hi3, hM⟩
    · exact (t_noF hj1 hj2 (by omega) hc).elim
    · have e : i = j := t_nIj hi1 hj1 hi2 hj2 (by omega)
      rw [e] at hi3
      refine ⟨fun _ => ?_, x, y, n, th, un, ju, ch, tm, ba, hO, by rw [hr]; exact hM, hag⟩
      rw [ho, hj3, hi3]
      exact congrArg Int32.toInt64 (congrArg nI (t_lns_c hs))
  · rcases hm with ⟨hc2, hM⟩ | ⟨i, hi1, hi2, hi3, hM⟩
    · exact ⟨fun q => absurd (hr.symm.trans q) t_nI10, x, y, n, th, un, ju, ch, tm, ba, hO, by rw [hr]; exact hM, hag⟩
    · exact (t_noF hi1 hi2 (by omega) hc).elim
set_option maxHeartbeats 1000000 in
theorem t_pr_candidateLag {cI : ClassId} {h g : Nat} {x y : Nat → Int32} {n : Nat} {th un ju ch : Int32} {tm : Nat} {ba : Int32} {v z2 r b : Int32} {o1 : Nat → Int64} {W1 M1 : va_W} (hag : t_agr x y n) (hn : n ≤ 1024) (hw : (r = nI 0 ∧ ∃ a : Int32, o1 0 = a.toInt64 ∧ (∃ j c0 : Nat, v = nI j ∧ j < t_F n ∧ z2 = nI c0 ∧ c0 < (t_cs (t_df x j) (t_sm x j) th).length ∧ a = nI ((t_cs (t_df x j) (t_sm x j) th).getD c0 0)) ∧ t_obj cI h x n th un ju ch tm ba W1) ∨ (r = nI 1 ∧ (((v < 0 ∨ nI (t_F n) ≤ v) ∨ ∃ j : Nat, v = nI j ∧ j < t_F n ∧ (z2 < 0 ∨ nI (t_cs (t_df x j) (t_sm x j) th).length ≤ z2))) ∧ t_obj cI h x n th un ju ch tm ba W1)) (hm : (((v < 0 ∨ nI (t_F n) ≤ v) ∨ ∃ j : Nat, v = nI j ∧ j < t_F n ∧ (z2 < 0 ∨ nI (t_cs (t_df y j) (t_sm y j) th).length ≤ z2)) ∧ t_mob cI g y n th un ju ch tm ba (nI 1) M1) ∨ (∃ j c0 : Nat, v = nI j ∧ j < t_F n ∧ z2 = nI c0 ∧ c0 < (t_cs (t_df y j) (t_sm y j) th).length ∧ b = nI ((t_cs (t_df y j) (t_sm y j) th).getD c0 0) ∧ t_mob cI g y n th un ju ch tm ba (nI 0) M1)) : t_LJ cI h g r (o1 0) b W1 M1 := by
  have hF := t_F_le hn
  have hs := t_agr_same hag
  rcases hw with ⟨hr, a, ho, ⟨j, c0, hj1, hj2, hc1, hc2, hj3⟩, hO⟩ | ⟨hr, hc, hO⟩
  · rcases hm with ⟨hc, hM⟩ | ⟨i, c1, hi1, hi2, hd1, hd2, hi3, hM⟩
    · exfalso
      rcases hc with hc | ⟨i, hi1, hi2, hi3⟩
      · exact t_noF hj1 hj2 (by omega) hc
      · have e : i = j := t_nIj hi1 hj1 hi2 hj2 (by omega)
        rw [e, ← t_cs_c hs hj2] at hi3
        have hl := t_cs_len (t_df x j) (t_sm x j) th
        exact t_noF hc1 hc2 (by omega) hi3
    · have e : i = j := t_nIj hi1 hj1 hi2 hj2 (by omega)
      rw [e, ← t_cs_c hs hj2] at hi3 hd2
      have hl := t_cs_len (t_df x j) (t_sm x j) th
      have e2 : c1 = c0 := t_nIj hd1 hc1 hd2 hc2 (by omega)
      rw [e2] at hi3
      refine ⟨fun _ => ?_, x, y, n, th, un, ju, ch, tm, ba, hO, by rw [hr]; exact hM, hag⟩
      rw [ho, hj3, hi3]
  · rcases hm with ⟨hc2, hM⟩ | ⟨i, c1, hi1, hi2, hd1, hd2, hi3, hM⟩
    · exact ⟨fun q => absurd (hr.symm.trans q) t_nI10, x, y, n, th, un, ju, ch, tm, ba, hO, by rw [hr]; exact hM, hag⟩
    · exfalso
      rcases hc with hc | ⟨j, hj1, hj2, hj3⟩
      · exact t_noF hi1 hi2 (by omega) hc
      · have e : j = i := t_nIj hj1 hi1 hj2 hi2 (by omega)
        rw [e, t_cs_c hs hi2] at hj3
        have hl := t_cs_len (t_df y i) (t_sm y i) th
        exact t_noF hd1 hd2 (by omega) hj3
set_option maxHeartbeats 1000000 in
theorem t_pr_energy {cI : ClassId} {h g : Nat} {x y : Nat → Int32} {n : Nat} {th un ju ch : Int32} {tm : Nat} {ba : Int32} {v z2 r b : Int32} {o1 : Nat → Int64} {W1 M1 : va_W} (hag : t_agr x y n) (hn : n ≤ 1024) (hw : (r = nI 0 ∧ ∃ a : Int32, o1 0 = a.toInt64 ∧ (∃ j t0 : Nat, v = nI j ∧ j < t_F n ∧ z2 = nI t0 ∧ 0 ≤ t0 ∧ t0 ≤ 64 ∧ a = t_ps x (j * 32 + t0) 0) ∧ t_obj cI h x n th un ju ch tm ba W1) ∨ (r = nI 1 ∧ ((v < 0 ∨ nI (t_F n) ≤ v)) ∧ t_obj cI h x n th un ju ch tm ba W1) ∨ (r = nI 2 ∧ ((∃ j : Nat, v = nI j ∧ j < t_F n) ∧ (z2 < nI 0 ∨ nI 64 < z2)) ∧ t_obj cI h x n th un ju ch tm ba W1)) (hm : ((v < 0 ∨ nI (t_F n) ≤ v) ∧ t_mob cI g y n th un ju ch tm ba (nI 1) M1) ∨ ((∃ j : Nat, v = nI j ∧ j < t_F n) ∧ (z2 < nI 0 ∨ nI 64 < z2) ∧ t_mob cI g y n th un ju ch tm ba (nI 2) M1) ∨ (∃ j t0 : Nat, v = nI j ∧ j < t_F n ∧ z2 = nI t0 ∧ 0 ≤ t0 ∧ t0 ≤ 64 ∧ b = t_ps y (j * 32 + t0) 0 ∧ t_mob cI g y n th un ju ch tm ba (nI 0) M1)) : t_LJ cI h g r (o1 0) b W1 M1 := by
  have hF := t_F_le hn
  have hs := t_agr_same hag
  have key : ∀ j t0 : Nat, v = nI j → j < t_F n → z2 = nI t0 → 0 ≤ t0 → t0 ≤ 64 → (v < 0 ∨ nI (t_F n) ≤ v) ∨ (z2 < nI 0 ∨ nI 64 < z2) → False := by
    intro j t0 h1 h2 h3 h4 h5 hc
    rcases hc with hc | hc
    · exact t_noF h1 h2 (by omega) hc
    · have hi := t_ir_nat h3 h4 h5 (by decide)
      exact hc.elim hi.1 hi.2
  rcases hw with ⟨hr, a, ho, ⟨j, t0, hj1, hj2, hj3, hj4, hj5, hj6⟩, hO⟩ | ⟨hr, hc, hO⟩ | ⟨hr, ⟨⟨j, hj1, hj2⟩, hc⟩, hO⟩
  · rcases hm with ⟨hc, hM⟩ | ⟨hc1, hc, hM⟩ | ⟨i, t1, hi1, hi2, hi3, hi4, hi5, hi6, hM⟩
    · exact (key j t0 hj1 hj2 hj3 hj4 hj5 (Or.inl hc)).elim
    · exact (key j t0 hj1 hj2 hj3 hj4 hj5 (Or.inr hc)).elim
    · have e : i = j := t_nIj hi1 hj1 hi2 hj2 (by omega)
      have e2 : t1 = t0 := t_nIj (B := 65) hi3 hj3 (by omega) (by omega) (by omega)
      rw [e, e2] at hi6
      refine ⟨fun _ => ?_, x, y, n, th, un, ju, ch, tm, ba, hO, by rw [hr]; exact hM, hag⟩
      rw [ho, hj6, hi6]
      exact congrArg Int32.toInt64 (t_ps_congr (fun i hi => hs j hj2 i (by omega)))
  · rcases hm with ⟨hc1, hM⟩ | ⟨⟨i, hi1, hi2⟩, hc1, hM⟩ | ⟨i, t1, hi1, hi2, hi3, hi4, hi5, hi6, hM⟩
    · exact ⟨fun q => absurd (hr.symm.trans q) t_nI10, x, y, n, th, un, ju, ch, tm, ba, hO, by rw [hr]; exact hM, hag⟩
    · exact (t_noF hi1 hi2 (by omega) hc).elim
    · exact (key i t1 hi1 hi2 hi3 hi4 hi5 (Or.inl hc)).elim
  · rcases hm with ⟨hc1, hM⟩ | ⟨hc1, hc2, hM⟩ | ⟨i, t1, hi1, hi2, hi3, hi4, hi5, hi6, hM⟩
    · exact (t_noF hj1 hj2 (by omega) hc1).elim
    · exact ⟨fun q => absurd (hr.symm.trans q) t_nI20, x, y, n, th, un, ju, ch, tm, ba, hO, by rw [hr]; exact hM, hag⟩
    · exact (key i t1 hi1 hi2 hi3 hi4 hi5 (Or.inr hc)).elim
set_option maxHeartbeats 1000000 in
theorem t_pr_autocorrelation {cI : ClassId} {h g : Nat} {x y : Nat → Int32} {n : Nat} {th un ju ch : Int32} {tm : Nat} {ba : Int32} {v z2 r b : Int32} {o1 : Nat → Int64} {W1 M1 : va_W} (hag : t_agr x y n) (hn : n ≤ 1024) (hw : (r = nI 0 ∧ ∃ a : Int32, o1 0 = a.toInt64 ∧ (∃ j t0 : Nat, v = nI j ∧ j < t_F n ∧ z2 = nI t0 ∧ 1 ≤ t0 ∧ t0 ≤ 64 ∧ a = t_ps x (j * 32) t0) ∧ t_obj cI h x n th un ju ch tm ba W1) ∨ (r = nI 1 ∧ ((v < 0 ∨ nI (t_F n) ≤ v)) ∧ t_obj cI h x n th un ju ch tm ba W1) ∨ (r = nI 2 ∧ ((∃ j : Nat, v = nI j ∧ j < t_F n) ∧ (z2 < nI 1 ∨ nI 64 < z2)) ∧ t_obj cI h x n th un ju ch tm ba W1)) (hm : ((v < 0 ∨ nI (t_F n) ≤ v) ∧ t_mob cI g y n th un ju ch tm ba (nI 1) M1) ∨ ((∃ j : Nat, v = nI j ∧ j < t_F n) ∧ (z2 < nI 1 ∨ nI 64 < z2) ∧ t_mob cI g y n th un ju ch tm ba (nI 2) M1) ∨ (∃ j t0 : Nat, v = nI j ∧ j < t_F n ∧ z2 = nI t0 ∧ 1 ≤ t0 ∧ t0 ≤ 64 ∧ b = t_ps y (j * 32) t0 ∧ t_mob cI g y n th un ju ch tm ba (nI 0) M1)) : t_LJ cI h g r (o1 0) b W1 M1 := by
  have hF := t_F_le hn
  have hs := t_agr_same hag
  have key : ∀ j t0 : Nat, v = nI j → j < t_F n → z2 = nI t0 → 1 ≤ t0 → t0 ≤ 64 → (v < 0 ∨ nI (t_F n) ≤ v) ∨ (z2 < nI 1 ∨ nI 64 < z2) → False := by
    intro j t0 h1 h2 h3 h4 h5 hc
    rcases hc with hc | hc
    · exact t_noF h1 h2 (by omega) hc
    · have hi := t_ir_nat h3 h4 h5 (by decide)
      exact hc.elim hi.1 hi.2
  rcases hw with ⟨hr, a, ho, ⟨j, t0, hj1, hj2, hj3, hj4, hj5, hj6⟩, hO⟩ | ⟨hr, hc, hO⟩ | ⟨hr, ⟨⟨j, hj1, hj2⟩, hc⟩, hO⟩
  · rcases hm with ⟨hc, hM⟩ | ⟨hc1, hc, hM⟩ | ⟨i, t1, hi1, hi2, hi3, hi4, hi5, hi6, hM⟩
    · exact (key j t0 hj1 hj2 hj3 hj4 hj5 (Or.inl hc)).elim
    · exact (key j t0 hj1 hj2 hj3 hj4 hj5 (Or.inr hc)).elim
    · have e : i = j := t_nIj hi1 hj1 hi2 hj2 (by omega)
      have e2 : t1 = t0 := t_nIj (B := 65) hi3 hj3 (by omega) (by omega) (by omega)
      rw [e, e2] at hi6
      refine ⟨fun _ => ?_, x, y, n, th, un, ju, ch, tm, ba, hO, by rw [hr]; exact hM, hag⟩
      rw [ho, hj6, hi6]
      exact congrArg Int32.toInt64 (t_ps_congr (fun i hi => hs j hj2 i (by omega)))
  · rcases hm with ⟨hc1, hM⟩ | ⟨⟨i, hi1, hi2⟩, hc1, hM⟩ | ⟨i, t1, hi1, hi2, hi3, hi4, hi5, hi6, hM⟩
    · exact ⟨fun q => absurd (hr.symm.trans q) t_nI10, x, y, n, th, un, ju, ch, tm, ba, hO, by rw [hr]; exact hM, hag⟩
    · exact (t_noF hi1 hi2 (by omega) hc).elim
    · exact (key i t1 hi1 hi2 hi3 hi4 hi5 (Or.inl hc)).elim
  · rcases hm with ⟨hc1, hM⟩ | ⟨hc1, hc2, hM⟩ | ⟨i, t1, hi1, hi2, hi3, hi4, hi5, hi6, hM⟩
    · exact (t_noF hj1 hj2 (by omega) hc1).elim
    · exact ⟨fun q => absurd (hr.symm.trans q) t_nI20, x, y, n, th, un, ju, ch, tm, ba, hO, by rw [hr]; exact hM, hag⟩
    · exact (key i t1 hi1 hi2 hi3 hi4 hi5 (Or.inr hc)).elim
set_option maxHeartbeats 1000000 in
theorem t_pr_difference {cI : ClassId} {h g : Nat} {x y : Nat → Int32} {n : Nat} {th un ju ch : Int32} {tm : Nat} {ba : Int32} {v z2 r b : Int32} {o1 : Nat → Int64} {W1 M1 : va_W} (hag : t_agr x y n) (hn : n ≤ 1024) (hw : (r = nI 0 ∧ ∃ a : Int32, o1 0 = a.toInt64 ∧ (∃ j t0 : Nat, v = nI j ∧ j < t_F n ∧ z2 = nI t0 ∧ 1 ≤ t0 ∧ t0 ≤ 64 ∧ a = t_df x j t0) ∧ t_obj cI h x n th un ju ch tm ba W1) ∨ (r = nI 1 ∧ ((v < 0 ∨ nI (t_F n) ≤ v)) ∧ t_obj cI h x n th un ju ch tm ba W1) ∨ (r = nI 2 ∧ ((∃ j : Nat, v = nI j ∧ j < t_F n) ∧ (z2 < nI 1 ∨ nI 64 < z2)) ∧ t_obj cI h x n th un ju ch tm ba W1)) (hm : ((v < 0 ∨ nI (t_F n) ≤ v) ∧ t_mob cI g y n th un ju ch tm ba (nI 1) M1) ∨ ((∃ j : Nat, v = nI j ∧ j < t_F n) ∧ (z2 < nI 1 ∨ nI 64 < z2) ∧ t_mob cI g y n th un ju ch tm ba (nI 2) M1) ∨ (∃ j t0 : Nat, v = nI j ∧ j < t_F n ∧ z2 = nI t0 ∧ 1 ≤ t0 ∧ t0 ≤ 64 ∧ b = t_df y j t0 ∧ t_mob cI g y n th un ju ch tm ba (nI 0) M1)) : t_LJ cI h g r (o1 0) b W1 M1 := by
  have hF := t_F_le hn
  have hs := t_agr_same hag
  have key : ∀ j t0 : Nat, v = nI j → j < t_F n → z2 = nI t0 → 1 ≤ t0 → t0 ≤ 64 → (v < 0 ∨ nI (t_F n) ≤ v) ∨ (z2 < nI 1 ∨ nI 64 < z2) → False := by
    intro j t0 h1 h2 h3 h4 h5 hc
    rcases hc with hc | hc
    · exact t_noF h1 h2 (by omega) hc
    · have hi := t_ir_nat h3 h4 h5 (by decide)
      exact hc.elim hi.1 hi.2
  rcases hw with ⟨hr, a, ho, ⟨j, t0, hj1, hj2, hj3, hj4, hj5, hj6⟩, hO⟩ | ⟨hr, hc, hO⟩ | ⟨hr, ⟨⟨j, hj1, hj2⟩, hc⟩, hO⟩
  · rcases hm with ⟨hc, hM⟩ | ⟨hc1, hc, hM⟩ | ⟨i, t1, hi1, hi2, hi3, hi4, hi5, hi6, hM⟩
    · exact (key j t0 hj1 hj2 hj3 hj4 hj5 (Or.inl hc)).elim
    · exact (key j t0 hj1 hj2 hj3 hj4 hj5 (Or.inr hc)).elim
    · have e : i = j := t_nIj hi1 hj1 hi2 hj2 (by omega)
      have e2 : t1 = t0 := t_nIj (B := 65) hi3 hj3 (by omega) (by omega) (by omega)
      rw [e, e2] at hi6
      refine ⟨fun _ => ?_, x, y, n, th, un, ju, ch, tm, ba, hO, by rw [hr]; exact hM, hag⟩
      rw [ho, hj6, hi6]
      exact congrArg Int32.toInt64 (t_df_congr (hs j hj2) hj5)
  · rcases hm with ⟨hc1, hM⟩ | ⟨⟨i, hi1, hi2⟩, hc1, hM⟩ | ⟨i, t1, hi1, hi2, hi3, hi4, hi5, hi6, hM⟩
    · exact ⟨fun q => absurd (hr.symm.trans q) t_nI10, x, y, n, th, un, ju, ch, tm, ba, hO, by rw [hr]; exact hM, hag⟩
    · exact (t_noF hi1 hi2 (by omega) hc).elim
    · exact (key i t1 hi1 hi2 hi3 hi4 hi5 (Or.inl hc)).elim
  · rcases hm with ⟨hc1, hM⟩ | ⟨hc1, hc2, hM⟩ | ⟨i, t1, hi1, hi2, hi3, hi4, hi5, hi6, hM⟩
    · exact (t_noF hj1 hj2 (by omega) hc1).elim
    · exact ⟨fun q => absurd (hr.symm.trans q) t_nI20, x, y, n, th, un, ju, ch, tm, ba, hO, by rw [hr]; exact hM, hag⟩
    · exact (key i t1 hi1 hi2 hi3 hi4 hi5 (Or.inr hc)).elim
set_option maxHeartbeats 1000000 in
theorem t_pr_meanDifference {cI : ClassId} {h g : Nat} {x y : Nat → Int32} {n : Nat} {th un ju ch : Int32} {tm : Nat} {ba : Int32} {v z2 r b : Int32} {o1 : Nat → Int64} {W1 M1 : va_W} (hag : t_agr x y n) (hn : n ≤ 1024) (hw : (r = nI 0 ∧ ∃ a : Int32, o1 0 = a.toInt64 ∧ (∃ j t0 : Nat, v = nI j ∧ j < t_F n ∧ z2 = nI t0 ∧ 1 ≤ t0 ∧ t0 ≤ 64 ∧ a = t_mean (t_df x j) (t_sm x j) t0) ∧ t_obj cI h x n th un ju ch tm ba W1) ∨ (r = nI 1 ∧ ((v < 0 ∨ nI (t_F n) ≤ v)) ∧ t_obj cI h x n th un ju ch tm ba W1) ∨ (r = nI 2 ∧ ((∃ j : Nat, v = nI j ∧ j < t_F n) ∧ (z2 < nI 1 ∨ nI 64 < z2)) ∧ t_obj cI h x n th un ju ch tm ba W1)) (hm : ((v < 0 ∨ nI (t_F n) ≤ v) ∧ t_mob cI g y n th un ju ch tm ba (nI 1) M1) ∨ ((∃ j : Nat, v = nI j ∧ j < t_F n) ∧ (z2 < nI 1 ∨ nI 64 < z2) ∧ t_mob cI g y n th un ju ch tm ba (nI 2) M1) ∨ (∃ j t0 : Nat, v = nI j ∧ j < t_F n ∧ z2 = nI t0 ∧ 1 ≤ t0 ∧ t0 ≤ 64 ∧ b = t_mean (t_df y j) (t_sm y j) t0 ∧ t_mob cI g y n th un ju ch tm ba (nI 0) M1)) : t_LJ cI h g r (o1 0) b W1 M1 := by
  have hF := t_F_le hn
  have hs := t_agr_same hag
  have key : ∀ j t0 : Nat, v = nI j → j < t_F n → z2 = nI t0 → 1 ≤ t0 → t0 ≤ 64 → (v < 0 ∨ nI (t_F n) ≤ v) ∨ (z2 < nI 1 ∨ nI 64 < z2) → False := by
    intro j t0 h1 h2 h3 h4 h5 hc
    rcases hc with hc | hc
    · exact t_noF h1 h2 (by omega) hc
    · have hi := t_ir_nat h3 h4 h5 (by decide)
      exact hc.elim hi.1 hi.2
  rcases hw with ⟨hr, a, ho, ⟨j, t0, hj1, hj2, hj3, hj4, hj5, hj6⟩, hO⟩ | ⟨hr, hc, hO⟩ | ⟨hr, ⟨⟨j, hj1, hj2⟩, hc⟩, hO⟩
  · rcases hm with ⟨hc, hM⟩ | ⟨hc1, hc, hM⟩ | ⟨i, t1, hi1, hi2, hi3, hi4, hi5, hi6, hM⟩
    · exact (key j t0 hj1 hj2 hj3 hj4 hj5 (Or.inl hc)).elim
    · exact (key j t0 hj1 hj2 hj3 hj4 hj5 (Or.inr hc)).elim
    · have e : i = j := t_nIj hi1 hj1 hi2 hj2 (by omega)
      have e2 : t1 = t0 := t_nIj (B := 65) hi3 hj3 (by omega) (by omega) (by omega)
      rw [e, e2] at hi6
      refine ⟨fun _ => ?_, x, y, n, th, un, ju, ch, tm, ba, hO, by rw [hr]; exact hM, hag⟩
      rw [ho, hj6, hi6]
      exact congrArg Int32.toInt64 (t_mean_c hs hj2 hj5)
  · rcases hm with ⟨hc1, hM⟩ | ⟨⟨i, hi1, hi2⟩, hc1, hM⟩ | ⟨i, t1, hi1, hi2, hi3, hi4, hi5, hi6, hM⟩
    · exact ⟨fun q => absurd (hr.symm.trans q) t_nI10, x, y, n, th, un, ju, ch, tm, ba, hO, by rw [hr]; exact hM, hag⟩
    · exact (t_noF hi1 hi2 (by omega) hc).elim
    · exact (key i t1 hi1 hi2 hi3 hi4 hi5 (Or.inl hc)).elim
  · rcases hm with ⟨hc1, hM⟩ | ⟨hc1, hc2, hM⟩ | ⟨i, t1, hi1, hi2, hi3, hi4, hi5, hi6, hM⟩
    · exact (t_noF hj1 hj2 (by omega) hc1).elim
    · exact ⟨fun q => absurd (hr.symm.trans q) t_nI20, x, y, n, th, un, ju, ch, tm, ba, hO, by rw [hr]; exact hM, hag⟩
    · exact (key i t1 hi1 hi2 hi3 hi4 hi5 (Or.inr hc)).elim
set_option maxHeartbeats 1000000 in
theorem t_pr_setThreshold {cI : ClassId} {h g : Nat} {x y : Nat → Int32} {n : Nat} {th un ju ch : Int32} {tm : Nat} {ba : Int32} {v r b : Int32} {o1 : Nat → Int64} {W1 M1 : va_W} (hag : t_agr x y n) (hn : n ≤ 1024) (hw : (r = nI 0 ∧ ∃ a : Int32, o1 0 = a.toInt64 ∧ (t_ir v (nI 1) (nI 100) ∧ a = th) ∧ t_obj cI h x n v un ju ch tm ba W1) ∨ (r = nI 1 ∧ (¬ t_ir v (nI 1) (nI 100)) ∧ t_obj cI h x n th un ju ch tm ba W1)) (hm : (¬ t_ir v (nI 1) (nI 100) ∧ t_mob cI g y n th un ju ch tm ba (nI 1) M1) ∨ (t_ir v (nI 1) (nI 100) ∧ b = th ∧ t_mob cI g y n v un ju ch tm ba (nI 0) M1)) : t_LJ cI h g r (o1 0) b W1 M1 := by
  have hF := t_F_le hn
  have hs := t_agr_same hag
  rcases hw with ⟨hr, a, ho, ⟨hc, ha⟩, hO⟩ | ⟨hr, hc, hO⟩
  · rcases hm with ⟨hc2, hM⟩ | ⟨hc2, hb, hM⟩
    · exact absurd hc hc2
    · exact ⟨fun _ => by rw [ho, ha, hb], x, y, n, v, un, ju, ch, tm, ba, hO, by rw [hr]; exact hM, hag⟩
  · rcases hm with ⟨hc2, hM⟩ | ⟨hc2, hb, hM⟩
    · exact ⟨fun q => absurd (hr.symm.trans q) t_nI10, x, y, n, th, un, ju, ch, tm, ba, hO, by rw [hr]; exact hM, hag⟩
    · exact absurd hc2 hc
set_option maxHeartbeats 1000000 in
theorem t_pr_setCosts {cI : ClassId} {h g : Nat} {x y : Nat → Int32} {n : Nat} {th un ju ch : Int32} {tm : Nat} {ba : Int32} {v z2 z3 r : Int32} {W1 M1 : va_W} (hag : t_agr x y n) (hn : n ≤ 1024) (hw : (r = nI 0 ∧ (t_ir v (nI 0) (nI 1000) ∧ t_ir z2 (nI 0) (nI 100) ∧ t_ir z3 (nI 0) (nI 1000)) ∧ t_obj cI h x n th v z2 z3 tm ba W1) ∨ (r = nI 1 ∧ (¬ (t_ir v (nI 0) (nI 1000) ∧ t_ir z2 (nI 0) (nI 100) ∧ t_ir z3 (nI 0) (nI 1000))) ∧ t_obj cI h x n th un ju ch tm ba W1)) (hm : (¬ (t_ir v (nI 0) (nI 1000) ∧ t_ir z2 (nI 0) (nI 100) ∧ t_ir z3 (nI 0) (nI 1000)) ∧ t_mob cI g y n th un ju ch tm ba (nI 1) M1) ∨ ((t_ir v (nI 0) (nI 1000) ∧ t_ir z2 (nI 0) (nI 100) ∧ t_ir z3 (nI 0) (nI 1000)) ∧ t_mob cI g y n th v z2 z3 tm ba (nI 0) M1)) : t_LJ cI h g r (((0 : Int32).toInt64)) 0 W1 M1 := by
  have hF := t_F_le hn
  have hs := t_agr_same hag
  rcases hw with ⟨hr, hc, hO⟩ | ⟨hr, hc, hO⟩
  · rcases hm with ⟨hc2, hM⟩ | ⟨hc2, hM⟩
    · exact absurd hc hc2
    · exact ⟨fun _ => rfl, x, y, n, th, v, z2, z3, tm, ba, hO, by rw [hr]; exact hM, hag⟩
  · rcases hm with ⟨hc2, hM⟩ | ⟨hc2, hM⟩
    · exact ⟨fun q => absurd (hr.symm.trans q) t_nI10, x, y, n, th, un, ju, ch, tm, ba, hO, by rw [hr]; exact hM, hag⟩
    · exact absurd hc2 hc
set_option maxHeartbeats 1000000 in
theorem t_pr_setTemperament {cI : ClassId} {h g : Nat} {x y : Nat → Int32} {n : Nat} {th un ju ch : Int32} {tm : Nat} {ba : Int32} {v z2 r : Int32} {W1 M1 : va_W} (hag : t_agr x y n) (hn : n ≤ 1024) (hw : (r = nI 0 ∧ ∃ j : Nat, v = nI j ∧ j ≤ 2 ∧ t_ir z2 (nI 64) (nI 8192) ∧ t_obj cI h x n th un ju ch j z2 W1) ∨ (r = nI 1 ∧ (¬ (t_ir v (nI 0) (nI 2) ∧ t_ir z2 (nI 64) (nI 8192))) ∧ t_obj cI h x n th un ju ch tm ba W1)) (hm : (¬ (t_ir v (nI 0) (nI 2) ∧ t_ir z2 (nI 64) (nI 8192)) ∧ t_mob cI g y n th un ju ch tm ba (nI 1) M1) ∨ (∃ j : Nat, v = nI j ∧ j ≤ 2 ∧ t_ir z2 (nI 64) (nI 8192) ∧ t_mob cI g y n th un ju ch j z2 (nI 0) M1)) : t_LJ cI h g r (((0 : Int32).toInt64)) 0 W1 M1 := by
  have hF := t_F_le hn
  have hs := t_agr_same hag
  rcases hw with ⟨hr, j, hj1, hj2, hj3, hO⟩ | ⟨hr, hc, hO⟩
  · rcases hm with ⟨hc2, hM⟩ | ⟨i, hi1, hi2, hi3, hM⟩
    · exact absurd ⟨t_ir_nat hj1 (Nat.zero_le _) hj2 (by decide), hj3⟩ hc2
    · have e : i = j := t_nIj (B := 3) hi1 hj1 (by omega) (by omega) (by omega)
      rw [e] at hM
      exact ⟨fun _ => rfl, x, y, n, th, un, ju, ch, j, z2, hO, by rw [hr]; exact hM, hag⟩
  · rcases hm with ⟨hc2, hM⟩ | ⟨i, hi1, hi2, hi3, hM⟩
    · exact ⟨fun q => absurd (hr.symm.trans q) t_nI10, x, y, n, th, un, ju, ch, tm, ba, hO, by rw [hr]; exact hM, hag⟩
    · exact absurd ⟨t_ir_nat hi1 (Nat.zero_le _) hi2 (by decide), hi3⟩ hc
set_option maxHeartbeats 1000000 in
theorem t_pr_feed {cI : ClassId} {h g : Nat} {x y : Nat → Int32} {n : Nat} {th un ju ch : Int32} {tm : Nat} {ba : Int32} {v r b : Int32} {o1 : Nat → Int64} {W1 M1 : va_W} (hag : t_agr x y n) (hn : n ≤ 1024) (hw : (r = nI 0 ∧ ∃ a : Int32, o1 0 = a.toInt64 ∧ (t_ir v (-100) (nI 100) ∧ n < 1024 ∧ a = nI (n + 1)) ∧ t_obj cI h (upd x n v) (n + 1) th un ju ch tm ba W1) ∨ (r = nI 1 ∧ (¬ t_ir v (-100) (nI 100)) ∧ t_obj cI h x n th un ju ch tm ba W1) ∨ (r = nI 2 ∧ (t_ir v (-100) (nI 100) ∧ n = 1024) ∧ t_obj cI h x n th un ju ch tm ba W1)) (hm : (¬ t_ir v (-100) (nI 100) ∧ t_mob cI g y n th un ju ch tm ba (nI 1) M1) ∨ (t_ir v (-100) (nI 100) ∧ n = 1024 ∧ t_mob cI g y n th un ju ch tm ba (nI 2) M1) ∨ (t_ir v (-100) (nI 100) ∧ n < 1024 ∧ b = nI (n + 1) ∧ t_mob cI g (upd y n v) (n + 1) th un ju ch tm ba (nI 0) M1)) : t_LJ cI h g r (o1 0) b W1 M1 := by
  have hF := t_F_le hn
  have hs := t_agr_same hag
  rcases hw with ⟨hr, a, ho, ⟨hc, hl, ha⟩, hO⟩ | ⟨hr, hc, hO⟩ | ⟨hr, ⟨hc, hl⟩, hO⟩
  · rcases hm with ⟨hc2, hM⟩ | ⟨hc2, hl2, hM⟩ | ⟨hc2, hl2, hb, hM⟩
    · exact absurd hc hc2
    · omega
    · exact ⟨fun _ => by rw [ho, ha, hb], _, _, _, th, un, ju, ch, tm, ba, hO, by rw [hr]; exact hM, t_agr_upd hag⟩
  · rcases hm with ⟨hc2, hM⟩ | ⟨hc2, hl2, hM⟩ | ⟨hc2, hl2, hb, hM⟩
    · exact ⟨fun q => absurd (hr.symm.trans q) t_nI10, x, y, n, th, un, ju, ch, tm, ba, hO, by rw [hr]; exact hM, hag⟩
    · exact absurd hc2 hc
    · exact absurd hc2 hc
  · rcases hm with ⟨hc2, hM⟩ | ⟨hc2, hl2, hM⟩ | ⟨hc2, hl2, hb, hM⟩
    · exact absurd hc hc2
    · exact ⟨fun q => absurd (hr.symm.trans q) t_nI20, x, y, n, th, un, ju, ch, tm, ba, hO, by rw [hr]; exact hM, hag⟩
    · omega
set_option maxHeartbeats 1000000 in
theorem t_pr_feedWave {cI : ClassId} {h g : Nat} {x y : Nat → Int32} {n : Nat} {th un ju ch : Int32} {tm : Nat} {ba : Int32} {v z2 z3 z4 r b : Int32} {o1 : Nat → Int64} {W1 M1 : va_W} (hag : t_agr x y n) (hn : n ≤ 1024) (hw : (r = nI 0 ∧ ∃ a : Int32, o1 0 = a.toInt64 ∧ ∃ j1 j2 j3 j4 : Nat, v = nI j1 ∧ z2 = nI j2 ∧ z3 = nI j3 ∧ z4 = nI j4 ∧ (0 ≤ j1 ∧ j1 ≤ 2) ∧ (2 ≤ j2 ∧ j2 ≤ 64) ∧ (0 ≤ j3 ∧ j3 ≤ 100) ∧ (1 ≤ j4 ∧ j4 ≤ 400) ∧ n + j4 ≤ 1024 ∧ a = nI (n + j4) ∧ t_obj cI h (t_add x n (fun i => t_wave j1 (i % j2) j2 j3) j4) (n + j4) th un ju ch tm ba W1) ∨ (r = nI 1 ∧ (¬ (t_ir v (nI 0) (nI 2) ∧ t_ir z2 (nI 2) (nI 64) ∧ t_ir z3 (nI 0) (nI 100) ∧ t_ir z4 (nI 1) (nI 400))) ∧ t_obj cI h x n th un ju ch tm ba W1) ∨ (r = nI 2 ∧ ((t_ir v (nI 0) (nI 2) ∧ t_ir z2 (nI 2) (nI 64) ∧ t_ir z3 (nI 0) (nI 100) ∧ t_ir z4 (nI 1) (nI 400)) ∧ ∃ j : Nat, z4 = nI j ∧ j ≤ 400 ∧ 1024 < n + j) ∧ t_obj cI h x n th un ju ch tm ba W1)) (hm : (¬ (t_ir v (nI 0) (nI 2) ∧ t_ir z2 (nI 2) (nI 64) ∧ t_ir z3 (nI 0) (nI 100) ∧ t_ir z4 (nI 1) (nI 400)) ∧ t_mob cI g y n th un ju ch tm ba (nI 1) M1) ∨ ((t_ir v (nI 0) (nI 2) ∧ t_ir z2 (nI 2) (nI 64) ∧ t_ir z3 (nI 0) (nI 100) ∧ t_ir z4 (nI 1) (nI 400)) ∧ (∃ j : Nat, z4 = nI j ∧ j ≤ 400 ∧ 1024 < n + j) ∧ t_mob cI g y n th un ju ch tm ba (nI 2) M1) ∨ (∃ j1 j2 j3 j4 : Nat, v = nI j1 ∧ z2 = nI j2 ∧ z3 = nI j3 ∧ z4 = nI j4 ∧ (0 ≤ j1 ∧ j1 ≤ 2) ∧ (2 ≤ j2 ∧ j2 ≤ 64) ∧ (0 ≤ j3 ∧ j3 ≤ 100) ∧ (1 ≤ j4 ∧ j4 ≤ 400) ∧ n + j4 ≤ 1024 ∧ b = nI (n + j4) ∧ t_mob cI g (t_add y n (fun i => t_wave j1 (i % j2) j2 j3) j4) (n + j4) th un ju ch tm ba (nI 0) M1)) : t_LJ cI h g r (o1 0) b W1 M1 := by
  have hF := t_F_le hn
  have hs := t_agr_same hag
  rcases hw with ⟨hr, a, ho, j1, j2, j3, j4, ja0, ja1, ja2, ja3, jb0, jb1, jb2, jb3, hl, ha, hO⟩ | ⟨hr, hc, hO⟩ | ⟨hr, ⟨hc, j, hj1, hj3, hj2⟩, hO⟩
  · rcases hm with ⟨hc2, hM⟩ | ⟨hc2, ⟨i, hi1, hi3, hi2⟩, hM⟩ | ⟨i1, i2, i3, i4, ia0, ia1, ia2, ia3, ib0, ib1, ib2, ib3, hl2, hb, hM⟩
    · exact absurd ⟨t_ir_nat ja0 jb0.1 jb0.2 (by decide), t_ir_nat ja1 jb1.1 jb1.2 (by decide), t_ir_nat ja2 jb2.1 jb2.2 (by decide), t_ir_nat ja3 jb3.1 jb3.2 (by decide)⟩ hc2
    · have e : i = j4 := t_nIj (B := 1000) hi1 ja3 (by omega) (by omega) (by omega)
      omega
    · have e0 : i1 = j1 := t_nIj (B := 1000) ia0 ja0 (by omega) (by omega) (by omega)
      have e1 : i2 = j2 := t_nIj (B := 1000) ia1 ja1 (by omega) (by omega) (by omega)
      have e2 : i3 = j3 := t_nIj (B := 1000) ia2 ja2 (by omega) (by omega) (by omega)
      have e3 : i4 = j4 := t_nIj (B := 1000) ia3 ja3 (by omega) (by omega) (by omega)
      subst e0 e1 e2 e3
      exact ⟨fun _ => by rw [ho, ha, hb], _, _, _, th, un, ju, ch, tm, ba, hO, by rw [hr]; exact hM, t_agr_add hag _⟩
  · rcases hm with ⟨hc2, hM⟩ | ⟨hc2, ⟨i, hi1, hi3, hi2⟩, hM⟩ | ⟨i1, i2, i3, i4, ia0, ia1, ia2, ia3, ib0, ib1, ib2, ib3, hl2, hb, hM⟩
    · exact ⟨fun q => absurd (hr.symm.trans q) t_nI10, x, y, n, th, un, ju, ch, tm, ba, hO, by rw [hr]; exact hM, hag⟩
    · exact absurd hc2 hc
    · exact absurd ⟨t_ir_nat ia0 ib0.1 ib0.2 (by decide), t_ir_nat ia1 ib1.1 ib1.2 (by decide), t_ir_nat ia2 ib2.1 ib2.2 (by decide), t_ir_nat ia3 ib3.1 ib3.2 (by decide)⟩ hc
  · rcases hm with ⟨hc2, hM⟩ | ⟨hc2, ⟨i, hi1, hi3, hi2⟩, hM⟩ | ⟨i1, i2, i3, i4, ia0, ia1, ia2, ia3, ib0, ib1, ib2, ib3, hl2, hb, hM⟩
    · exact absurd hc hc2
    · exact ⟨fun q => absurd (hr.symm.trans q) t_nI20, x, y, n, th, un, ju, ch, tm, ba, hO, by rw [hr]; exact hM, hag⟩
    · have e : i4 = j := t_nIj (B := 1000) ia3 hj1 (by omega) (by omega) (by omega)
      omega
set_option maxHeartbeats 1000000 in
theorem t_pr_feedNoise {cI : ClassId} {h g : Nat} {x y : Nat → Int32} {n : Nat} {th un ju ch : Int32} {tm : Nat} {ba : Int32} {v z2 z3 r b : Int32} {o1 : Nat → Int64} {W1 M1 : va_W} (hag : t_agr x y n) (hn : n ≤ 1024) (hw : (r = nI 0 ∧ ∃ a : Int32, o1 0 = a.toInt64 ∧ ∃ j1 j2 : Nat, z2 = nI j1 ∧ z3 = nI j2 ∧ (0 ≤ j1 ∧ j1 ≤ 100) ∧ (1 ≤ j2 ∧ j2 ≤ 400) ∧ n + j2 ≤ 1024 ∧ a = nI (n + j2) ∧ t_obj cI h (t_add x n (fun i => t_noise (t_z v (i + 1)) j1) j2) (n + j2) th un ju ch tm ba W1) ∨ (r = nI 1 ∧ (¬ (t_ir z2 (nI 0) (nI 100) ∧ t_ir z3 (nI 1) (nI 400))) ∧ t_obj cI h x n th un ju ch tm ba W1) ∨ (r = nI 2 ∧ ((t_ir z2 (nI 0) (nI 100) ∧ t_ir z3 (nI 1) (nI 400)) ∧ ∃ j : Nat, z3 = nI j ∧ j ≤ 400 ∧ 1024 < n + j) ∧ t_obj cI h x n th un ju ch tm ba W1)) (hm : (¬ (t_ir z2 (nI 0) (nI 100) ∧ t_ir z3 (nI 1) (nI 400)) ∧ t_mob cI g y n th un ju ch tm ba (nI 1) M1) ∨ ((t_ir z2 (nI 0) (nI 100) ∧ t_ir z3 (nI 1) (nI 400)) ∧ (∃ j : Nat, z3 = nI j ∧ j ≤ 400 ∧ 1024 < n + j) ∧ t_mob cI g y n th un ju ch tm ba (nI 2) M1) ∨ (∃ j1 j2 : Nat, z2 = nI j1 ∧ z3 = nI j2 ∧ (0 ≤ j1 ∧ j1 ≤ 100) ∧ (1 ≤ j2 ∧ j2 ≤ 400) ∧ n + j2 ≤ 1024 ∧ b = nI (n + j2) ∧ t_mob cI g (t_add y n (fun i => t_noise (t_z v (i + 1)) j1) j2) (n + j2) th un ju ch tm ba (nI 0) M1)) : t_LJ cI h g r (o1 0) b W1 M1 := by
  have hF := t_F_le hn
  have hs := t_agr_same hag
  rcases hw with ⟨hr, a, ho, j1, j2, ja0, ja1, jb0, jb1, hl, ha, hO⟩ | ⟨hr, hc, hO⟩ | ⟨hr, ⟨hc, j, hj1, hj3, hj2⟩, hO⟩
  · rcases hm with ⟨hc2, hM⟩ | ⟨hc2, ⟨i, hi1, hi3, hi2⟩, hM⟩ | ⟨i1, i2, ia0, ia1, ib0, ib1, hl2, hb, hM⟩
    · exact absurd ⟨t_ir_nat ja0 jb0.1 jb0.2 (by decide), t_ir_nat ja1 jb1.1 jb1.2 (by decide)⟩ hc2
    · have e : i = j2 := t_nIj (B := 1000) hi1 ja1 (by omega) (by omega) (by omega)
      omega
    · have e0 : i1 = j1 := t_nIj (B := 1000) ia0 ja0 (by omega) (by omega) (by omega)
      have e1 : i2 = j2 := t_nIj (B := 1000) ia1 ja1 (by omega) (by omega) (by omega)
      subst e0 e1
      exact ⟨fun _ => by rw [ho, ha, hb], _, _, _, th, un, ju, ch, tm, ba, hO, by rw [hr]; exact hM, t_agr_add hag _⟩
  · rcases hm with ⟨hc2, hM⟩ | ⟨hc2, ⟨i, hi1, hi3, hi2⟩, hM⟩ | ⟨i1, i2, ia0, ia1, ib0, ib1, hl2, hb, hM⟩
    · exact ⟨fun q => absurd (hr.symm.trans q) t_nI10, x, y, n, th, un, ju, ch, tm, ba, hO, by rw [hr]; exact hM, hag⟩
    · exact absurd hc2 hc
    · exact absurd ⟨t_ir_nat ia0 ib0.1 ib0.2 (by decide), t_ir_nat ia1 ib1.1 ib1.2 (by decide)⟩ hc
  · rcases hm with ⟨hc2, hM⟩ | ⟨hc2, ⟨i, hi1, hi3, hi2⟩, hM⟩ | ⟨i1, i2, ia0, ia1, ib0, ib1, hl2, hb, hM⟩
    · exact absurd hc hc2
    · exact ⟨fun q => absurd (hr.symm.trans q) t_nI20, x, y, n, th, un, ju, ch, tm, ba, hO, by rw [hr]; exact hM, hag⟩
    · have e : i2 = j := t_nIj (B := 1000) ia1 hj1 (by omega) (by omega) (by omega)
      omega
set_option maxHeartbeats 1000000 in
theorem t_pr_clear {cI : ClassId} {h g : Nat} {x y : Nat → Int32} {n : Nat} {th un ju ch : Int32} {tm : Nat} {ba : Int32} {r b : Int32} {W1 M1 : va_W} (hag : t_agr x y n) (hn : n ≤ 1024) (hw : r = nI n ∧ t_obj cI h x 0 th un ju ch tm ba W1) (hm : b = nI n ∧ t_mob cI g y 0 th un ju ch tm ba (nI 0) M1) : r = b ∧ t_LI cI h g W1 M1 := by
  have hF := t_F_le hn
  have hs := t_agr_same hag
  obtain ⟨h1, hO⟩ := hw
  obtain ⟨h2, hM⟩ := hm
  exact ⟨h1.trans h2.symm, x, y, 0, th, un, ju, ch, tm, ba, _, hO, hM, fun i hi => absurd hi (Nat.not_lt_zero _)⟩
set_option maxHeartbeats 1000000 in
theorem t_pr_samples {cI : ClassId} {h g : Nat} {x y : Nat → Int32} {n : Nat} {th un ju ch : Int32} {tm : Nat} {ba : Int32} {r b : Int32} {W1 M1 : va_W} (hag : t_agr x y n) (hn : n ≤ 1024) (hw : r = nI n ∧ t_obj cI h x n th un ju ch tm ba W1) (hm : b = nI n ∧ t_mob cI g y n th un ju ch tm ba (nI 0) M1) : r = b ∧ t_LI cI h g W1 M1 := by
  have hF := t_F_le hn
  have hs := t_agr_same hag
  obtain ⟨h1, hO⟩ := hw
  obtain ⟨h2, hM⟩ := hm
  exact ⟨h1.trans h2.symm, x, y, n, th, un, ju, ch, tm, ba, _, hO, hM, hag⟩
set_option maxHeartbeats 1000000 in
theorem t_pr_frames {cI : ClassId} {h g : Nat} {x y : Nat → Int32} {n : Nat} {th un ju ch : Int32} {tm : Nat} {ba : Int32} {r b : Int32} {W1 M1 : va_W} (hag : t_agr x y n) (hn : n ≤ 1024) (hw : r = nI (t_F n) ∧ t_obj cI h x n th un ju ch tm ba W1) (hm : b = nI (t_F n) ∧ t_mob cI g y n th un ju ch tm ba (nI 0) M1) : r = b ∧ t_LI cI h g W1 M1 := by
  have hF := t_F_le hn
  have hs := t_agr_same hag
  obtain ⟨h1, hO⟩ := hw
  obtain ⟨h2, hM⟩ := hm
  exact ⟨h1.trans h2.symm, x, y, n, th, un, ju, ch, tm, ba, _, hO, hM, hag⟩
set_option maxHeartbeats 1000000 in
theorem t_pr_trackCost {cI : ClassId} {h g : Nat} {x y : Nat → Int32} {n : Nat} {th un ju ch : Int32} {tm : Nat} {ba : Int32} {r b : Int32} {W1 M1 : va_W} (hag : t_agr x y n) (hn : n ≤ 1024) (hw : r = t_CX x th un ju ch (t_F n) ∧ t_obj cI h x n th un ju ch tm ba W1) (hm : b = t_CX y th un ju ch (t_F n) ∧ t_mob cI g y n th un ju ch tm ba (nI 0) M1) : r = b ∧ t_LI cI h g W1 M1 := by
  have hF := t_F_le hn
  have hs := t_agr_same hag
  obtain ⟨h1, hO⟩ := hw
  obtain ⟨h2, hM⟩ := hm
  exact ⟨h1.trans ((t_CX_congr hs).trans h2.symm), x, y, n, th, un, ju, ch, tm, ba, _, hO, hM, hag⟩
set_option maxHeartbeats 1000000 in
theorem t_pr_notes {cI : ClassId} {h g : Nat} {x y : Nat → Int32} {n : Nat} {th un ju ch : Int32} {tm : Nat} {ba : Int32} {r b : Int32} {W1 M1 : va_W} (hag : t_agr x y n) (hn : n ≤ 1024) (hw : r = nI (t_nn (t_PT x th un ju ch tm ba (t_F n)) (t_on x) (t_F n)) ∧ t_obj cI h x n th un ju ch tm ba W1) (hm : b = nI (t_nn (t_PT y th un ju ch tm ba (t_F n)) (t_on y) (t_F n)) ∧ t_mob cI g y n th un ju ch tm ba (nI 0) M1) : r = b ∧ t_LI cI h g W1 M1 := by
  have hF := t_F_le hn
  have hs := t_agr_same hag
  obtain ⟨h1, hO⟩ := hw
  obtain ⟨h2, hM⟩ := hm
  exact ⟨h1.trans ((congrArg nI (t_nnN_c hs)).trans h2.symm), x, y, n, th, un, ju, ch, tm, ba, _, hO, hM, hag⟩
theorem t_LJ_LI {cI : ClassId} {h g : Nat} {W1 M1 : va_W} {x y : Nat → Int32} {n : Nat} {th un ju ch : Int32} {tm : Nat} {ba k : Int32} (hO : t_obj cI h x n th un ju ch tm ba W1) (hM : t_mob cI g y n th un ju ch tm ba k M1) (hag : t_agr x y n) : t_LI cI h g W1 M1 := ⟨x, y, n, th, un, ju, ch, tm, ba, k, hO, hM, hag⟩