/-! the model's periods and names -/
theorem t_qq {X C : Int32} (h : 0 < C) : X / C = (t_quo X.toInt64 C.toInt64).toInt32 := by
  have h0 : (0 : Int64) < C.toInt64 := by
    rw [Int64.lt_iff_toInt_lt, Int32.toInt_toInt64, Int64.toInt_zero]
    rw [Int32.lt_iff_toInt_lt, Int32.toInt_zero] at h
    exact h
  have e : t_quo X.toInt64 C.toInt64 = X.toInt64 / C.toInt64 := if_pos h0
  rw [e]
  apply Int32.toInt_inj.mp
  have b1 : (X.toInt.tdiv C.toInt).natAbs ≤ X.toInt.natAbs := Int.natAbs_tdiv_le_natAbs _ _
  have b2 := Int32.le_toInt X
  have b3 := Int32.toInt_lt X
  rw [Int64.toInt_toInt32, Int64.toInt_div, Int32.toInt_div, Int32.toInt_toInt64, Int32.toInt_toInt64]
  have b4 : (X.toInt.tdiv C.toInt).bmod (2 ^ 64) = X.toInt.tdiv C.toInt := Int.bmod_eq_of_le (by omega) (by omega)
  rw [b4]
theorem t_qz {X C : Int32} (h : ¬ 0 < C) : nI 0 = (t_quo X.toInt64 C.toInt64).toInt32 := by
  have h0 : ¬ (0 : Int64) < C.toInt64 := by
    rw [Int64.lt_iff_toInt_lt, Int32.toInt_toInt64, Int64.toInt_zero]
    rw [Int32.lt_iff_toInt_lt, Int32.toInt_zero] at h
    exact h
  unfold t_quo
  rw [if_neg h0]; rfl
theorem t_clip_a {x : Int32} (h : ¬ (-32) ≤ x) : (-32) = t_clip x := by
  have a : (-32 : Int32).toInt = -32 := by decide
  have b : (nI 32).toInt = 32 := nI_toInt (by decide)
  rw [Int32.le_iff_toInt_le, a] at h
  have h1 : x < nI 32 := by rw [Int32.lt_iff_toInt_lt, b]; omega
  have h2 : ¬ (-32) < x := by rw [Int32.lt_iff_toInt_lt, a]; omega
  unfold t_clip
  rw [if_pos h1, if_neg h2]
theorem t_clip_b {x : Int32} (h : ¬ x ≤ nI 32) : nI 32 = t_clip x := by
  have b : (nI 32).toInt = 32 := nI_toInt (by decide)
  rw [Int32.le_iff_toInt_le, b] at h
  have h1 : ¬ x < nI 32 := by rw [Int32.lt_iff_toInt_lt, b]; omega
  unfold t_clip
  rw [if_neg h1, if_pos (by decide)]
theorem t_clip_c {x : Int32} (h : (-32) ≤ x) (h2 : x ≤ nI 32) : x = t_clip x := by
  have a : (-32 : Int32).toInt = -32 := by decide
  have b : (nI 32).toInt = 32 := nI_toInt (by decide)
  rw [Int32.le_iff_toInt_le, a] at h
  rw [Int32.le_iff_toInt_le, b] at h2
  unfold t_clip
  by_cases h1 : x < nI 32
  · rw [if_pos h1]
    by_cases h3 : (-32) < x
    · rw [if_pos h3]
    · rw [if_neg h3]
      rw [Int32.lt_iff_toInt_lt, a] at h3
      exact Int32.toInt_inj.mp (by rw [a]; omega)
  · rw [if_neg h1, if_pos (by decide)]
    rw [Int32.lt_iff_toInt_lt, b] at h1
    exact Int32.toInt_inj.mp (by rw [b]; omega)
theorem t_clip_bd (x : Int32) : -32 ≤ (t_clip x).toInt ∧ (t_clip x).toInt ≤ 32 := by
  have a : (-32 : Int32).toInt = -32 := by decide
  have b : (nI 32).toInt = 32 := nI_toInt (by decide)
  by_cases h : (-32) ≤ x
  · by_cases h2 : x ≤ nI 32
    · rw [← t_clip_c h h2]
      rw [Int32.le_iff_toInt_le, a] at h
      rw [Int32.le_iff_toInt_le, b] at h2
      omega
    · rw [← t_clip_b h2, b]; omega
  · rw [← t_clip_a h, a]; omega
theorem t_pe_nat (d : Nat → Int32) {j : Nat} (h : 2 ≤ j) (hj : j ≤ 63) : ∃ p : Nat, t_pe d j = nI p ∧ p ≤ 4096 := by
  unfold t_pe
  rw [if_neg (by omega)]
  unfold t_per
  have hc := t_clip_bd (t_quo (nI 32 * (d (j - 1) - d (j + 1))).toInt64 (d (j - 1) - nI 2 * d j + d (j + 1)).toInt64).toInt32
  generalize t_clip (t_quo (nI 32 * (d (j - 1) - d (j + 1))).toInt64 (d (j - 1) - nI 2 * d j + d (j + 1)).toInt64).toInt32 = z at hc ⊢
  have e : (nI (64 * j)).toInt = ((64 * j : Nat) : Int) := nI_toInt (by omega)
  have h2 : (nI (64 * j) + z).toInt = (nI (64 * j)).toInt + z.toInt := t_ixadd (by omega) (by omega)
  exact t_nat (B := 4096) (by omega) (by omega) (by decide)
theorem t_mlshl (w : Int64) {s m : Int64} {k : Nat} (hs : (s.toBitVec.smod 64).toNat = k) (hm : m.toBitVec.toNat = 2 ^ k) : w <<< s = w * m := by
  apply Int64.toBitVec_inj.mp
  apply BitVec.eq_of_toNat_eq
  show (w.toBitVec <<< (s.toBitVec.smod 64).toNat).toNat = (w.toBitVec * m.toBitVec).toNat
  rw [hs, BitVec.toNat_shiftLeft, Nat.shiftLeft_eq, BitVec.toNat_mul, hm]
theorem t_shlo (w : Int64) {o : Nat} (ho : o < 7) : w <<< ((nI (6 - o)).toInt64 &&& 63) = w * ((nI 64) >>> ((nI o) &&& 31)).toInt64 := by
  rcases (show o = 0 ∨ o = 1 ∨ o = 2 ∨ o = 3 ∨ o = 4 ∨ o = 5 ∨ o = 6 by omega) with rfl | rfl | rfl | rfl | rfl | rfl | rfl
  · exact t_mlshl w (k := 6) (by decide +kernel) (by decide +kernel)
  · exact t_mlshl w (k := 5) (by decide +kernel) (by decide +kernel)
  · exact t_mlshl w (k := 4) (by decide +kernel) (by decide +kernel)
  · exact t_mlshl w (k := 3) (by decide +kernel) (by decide +kernel)
  · exact t_mlshl w (k := 2) (by decide +kernel) (by decide +kernel)
  · exact t_mlshl w (k := 1) (by decide +kernel) (by decide +kernel)
  · exact t_mlshl w (k := 0) (by decide +kernel) (by decide +kernel)
theorem t_sh64 {o : Nat} (ho : o < 7) : ∃ z : Nat, ((nI 64) >>> ((nI o) &&& 31)).toInt64 = lN z ∧ z ≤ 64 := by
  rcases (show o = 0 ∨ o = 1 ∨ o = 2 ∨ o = 3 ∨ o = 4 ∨ o = 5 ∨ o = 6 by omega) with rfl | rfl | rfl | rfl | rfl | rfl | rfl
  · exact ⟨64, by decide +kernel, by decide⟩
  · exact ⟨32, by decide +kernel, by decide⟩
  · exact ⟨16, by decide +kernel, by decide⟩
  · exact ⟨8, by decide +kernel, by decide⟩
  · exact ⟨4, by decide +kernel, by decide⟩
  · exact ⟨2, by decide +kernel, by decide⟩
  · exact ⟨1, by decide +kernel, by decide⟩
theorem t_gdm : ∀ (L : List Nat) (k : Nat), (L.map nI).getD k (nI 0) = nI (L.getD k 0)
  | [], _ => rfl
  | _ :: _, 0 => rfl
  | _ :: L, k + 1 => t_gdm L k
theorem t_parts_nat {k : Nat} (h : k < 36) : ∃ z : Nat, t_parts k = nI z ∧ z ≤ 10000 := by
  have h2 : ∀ k : Nat, k < 36 → ([10000, 9439, 8909, 8409, 7937, 7492, 7071, 6674, 6300, 5946, 5612, 5297, 10000, 9375, 8889, 8333, 8000, 7500, 7111, 6667, 6250, 6000, 5625, 5333, 10000, 9492, 8889, 8438, 7901, 7500, 7023, 6667, 6328, 5926, 5625, 5267] : List Nat).getD k 0 ≤ 10000 := by decide
  refine ⟨_, ?_, h2 k h⟩
  exact t_gdm _ k
/-- the model's distance of a note is the class's -/
theorem t_far_e {ba p : Int32} {tm o q B P : Nat} (hb : ba = nI B) (hB : B ≤ 8192) (hp : p = nI P) (hP : P ≤ 4096) (ho : o < 7) (hq : q < 12) (ht : tm ≤ 2) : ∃ u w : Nat, 640000 * p.toInt64 = lN u ∧ ba.toInt64 * (t_parts (12 * tm + q)).toInt64 * ((nI 64) >>> ((nI o) &&& 31)).toInt64 = lN w ∧ u < 4611686018427387904 ∧ w < 4611686018427387904 ∧ t_far ba tm p (o * 12 + q) = (if 0 < lN w - lN u then lN w - lN u else -(lN w - lN u)) := by
  obtain ⟨K, hK, hK2⟩ := t_parts_nat (k := 12 * tm + q) (by omega)
  obtain ⟨z, hz, hz2⟩ := t_sh64 ho
  have e1 : (640000 : Int64) * p.toInt64 = lN (640000 * P) := by rw [hp, nI_l (by omega)]; exact lN_mul 640000 P
  have e2 : ba.toInt64 * (t_parts (12 * tm + q)).toInt64 * ((nI 64) >>> ((nI o) &&& 31)).toInt64 = lN (B * K * z) := by
    rw [hK, hb, nI_l (by omega), nI_l (by omega), hz, lN_mul, lN_mul]
  have b1 : B * K ≤ 8192 * 10000 := Nat.mul_le_mul hB hK2
  have b2 : B * K * z ≤ 8192 * 10000 * 64 := Nat.mul_le_mul b1 hz2
  refine ⟨640000 * P, B * K * z, e1, e2, by omega, by omega, ?_⟩
  have e3 : (p.toInt64 * 10000) <<< ((nI 6).toInt64 &&& 63) = lN (640000 * P) := by
    rw [t_mlshl (p.toInt64 * 10000) (k := 6) (m := lN 64) (by decide +kernel) (by decide +kernel), hp, nI_l (by omega), show (10000 : Int64) = lN 10000 from rfl, lN_mul, lN_mul]
    exact congrArg lN (by omega)
  have e4 : (ba.toInt64 * (t_parts (tm * 12 + (o * 12 + q) % 12)).toInt64) <<< ((nI (6 - (o * 12 + q) / 12)).toInt64 &&& 63) = lN (B * K * z) := by
    rw [show (o * 12 + q) / 12 = o by omega, show tm * 12 + (o * 12 + q) % 12 = 12 * tm + q by omega, t_shlo _ ho, e2]
  unfold t_far
  rw [e3, e4]
theorem t_far_1 {u w : Nat} (hu : u < 4611686018427387904) (hw : w < 4611686018427387904) (h : ¬ lN u ≤ lN w) : lN u - lN w = (if 0 < lN w - lN u then lN w - lN u else -(lN w - lN u)) := by
  rw [pk_lLE (by omega) (by omega)] at h
  have e : lN u - lN w = -(lN w - lN u) := (Int64.neg_sub).symm
  have h2 : ¬ 0 < lN w - lN u := by
    have e2 : lN w - lN u = -(lN (u - w)) := by rw [← lN_sub (by omega), Int64.neg_sub]
    rw [e2, Int64.lt_iff_toInt_lt, Int64.toInt_neg, pk_lT (by omega), Int64.toInt_zero, Int.bmod_eq_of_le (by omega) (by omega)]
    omega
  rw [if_neg h2, e]
theorem t_far_2 {u w : Nat} (hu : u < 4611686018427387904) (hw : w < 4611686018427387904) (h : lN u ≤ lN w) : lN w - lN u = (if 0 < lN w - lN u then lN w - lN u else -(lN w - lN u)) := by
  rw [pk_lLE (by omega) (by omega)] at h
  by_cases c : u = w
  · subst c
    rw [lN_sub (Nat.le_refl _), Nat.sub_self]; decide
  · have h2 : 0 < lN w - lN u := by
      rw [lN_sub h, Int64.lt_iff_toInt_lt, pk_lT (by omega), Int64.toInt_zero]; omega
    rw [if_pos h2]
/-- the number of the nearest so far, -1 of none; its name, its octave -/
def t_nmq (v : Nat → Int64) (i : Nat) : Int32 := if i = 0 then -1 else nI ((t_mqL v i).2 % 12)
def t_ocq (v : Nat → Int64) (i : Nat) : Int32 := if i = 0 then -1 else nI ((t_mqL v i).2 / 12)
theorem t_nmq_0 {v : Nat → Int64} {i : Nat} (h : i = 0 ∨ t_nmq v i < 0) : i = 0 := by
  rcases h with h | h
  · exact h
  · by_cases c : i = 0
    · exact c
    · unfold t_nmq at h
      rw [if_neg c] at h
      exact absurd h (nI_pos (by omega))
theorem t_nmq_y {v : Nat → Int64} {o q : Nat} (hq : q < 12) (h : t_nmq v (o * 12 + q) < 0 ∨ v (o * 12 + q) < (t_mqL v (o * 12 + q)).1) : nI q = t_nmq v (o * 12 + q + 1) ∧ nI o = t_ocq v (o * 12 + q + 1) ∧ v (o * 12 + q) = (t_mqL v (o * 12 + q + 1)).1 := by
  have e : t_mqL v (o * 12 + q + 1) = (v (o * 12 + q), o * 12 + q) := by
    by_cases c : o * 12 + q = 0
    · exact t_mqL_0 c
    · rcases h with h | h
      · exact absurd (t_nmq_0 (Or.inr h)) c
      · exact t_mqL_y c h
  unfold t_nmq t_ocq
  rw [if_neg (by omega), if_neg (by omega), e]
  refine ⟨congrArg nI ?_, congrArg nI ?_, rfl⟩
  · show q = (o * 12 + q) % 12; omega
  · show o = (o * 12 + q) / 12; omega
theorem t_nmq_n {v : Nat → Int64} {i : Nat} (h0 : ¬ t_nmq v i < 0) (h : ¬ v i < (t_mqL v i).1) : t_nmq v i = t_nmq v (i + 1) ∧ t_ocq v i = t_ocq v (i + 1) ∧ (t_mqL v i).1 = (t_mqL v (i + 1)).1 := by
  have c : ¬ i = 0 := fun c => h0 (by unfold t_nmq; rw [if_pos c]; decide)
  have e : t_mqL v (i + 1) = t_mqL v i := t_mqL_n c h
  unfold t_nmq t_ocq
  rw [if_neg c, if_neg (by omega), if_neg c, if_neg (by omega), e]
  exact ⟨rfl, rfl, rfl⟩
/-- name and octave of a pattern -/
theorem t_nm_q {ba : Int32} {tm : Nat} {d : Nat → Int32} {j : Nat} (h : ¬ j = 0) : t_nmq (t_far ba tm (t_pe d j)) 84 = t_nm (t_pa ba tm d j) ∧ t_ocq (t_far ba tm (t_pe d j)) 84 = t_oc (t_pa ba tm d j) := by
  have hn := t_near_lt ba tm (t_pe d j)
  have a1 : t_nmq (t_far ba tm (t_pe d j)) 84 = nI (t_near ba tm (t_pe d j) % 12) := if_neg (by decide)
  have a2 : t_ocq (t_far ba tm (t_pe d j)) 84 = nI (t_near ba tm (t_pe d j) / 12) := if_neg (by decide)
  have a3 : t_pa ba tm d j = nI (t_near ba tm (t_pe d j)) := if_neg h
  have a4 := nI_pos (n := t_near ba tm (t_pe d j)) (by omega)
  rw [a1, a2, a3]
  unfold t_nm t_oc
  rw [if_neg a4, if_neg a4, pk_rem (by omega) (by decide) (by decide), pk_div (by omega) (by decide) (by decide)]
  exact ⟨rfl, rfl⟩
theorem t_nm_0 {ba : Int32} {tm : Nat} {d : Nat → Int32} {j : Nat} (h : j = 0) : (-1 : Int32) = t_nm (t_pa ba tm d j) ∧ (-1 : Int32) = t_oc (t_pa ba tm d j) := by
  unfold t_nm t_oc t_pa
  rw [if_pos h, if_pos (by decide), if_pos (by decide)]
  exact ⟨rfl, rfl⟩
theorem t_nz {C : Int32} (h : ¬ C ≤ 0) : ¬ C = 0 := fun q => h (by rw [q]; decide)
theorem t_far_a {ba p : Int32} {tm o q B P : Nat} (hb : ba = nI B) (hB : B ≤ 8192) (hp : p = nI P) (hP : P ≤ 4096) (ho : o < 7) (hq : q < 12) (ht : tm ≤ 2) (h : ¬ 640000 * p.toInt64 ≤ ba.toInt64 * (t_parts (12 * tm + q)).toInt64 * ((nI 64) >>> ((nI o) &&& 31)).toInt64) : 640000 * p.toInt64 - ba.toInt64 * (t_parts (12 * tm + q)).toInt64 * ((nI 64) >>> ((nI o) &&& 31)).toInt64 = t_far ba tm p (o * 12 + q) := by
  obtain ⟨u, w, e1, e2, h1, h2, e3⟩ := t_far_e hb hB hp hP ho hq ht
  rw [e1, e2] at h ⊢
  rw [e3]
  exact t_far_1 h1 h2 h
theorem t_far_b {ba p : Int32} {tm o q B P : Nat} (hb : ba = nI B) (hB : B ≤ 8192) (hp : p = nI P) (hP : P ≤ 4096) (ho : o < 7) (hq : q < 12) (ht : tm ≤ 2) (h : 640000 * p.toInt64 ≤ ba.toInt64 * (t_parts (12 * tm + q)).toInt64 * ((nI 64) >>> ((nI o) &&& 31)).toInt64) : ba.toInt64 * (t_parts (12 * tm + q)).toInt64 * ((nI 64) >>> ((nI o) &&& 31)).toInt64 - 640000 * p.toInt64 = t_far ba tm p (o * 12 + q) := by
  obtain ⟨u, w, e1, e2, h1, h2, e3⟩ := t_far_e hb hB hp hP ho hq ht
  rw [e1, e2] at h ⊢
  rw [e3]
  exact t_far_2 h1 h2 h
