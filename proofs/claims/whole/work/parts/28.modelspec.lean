/-! what the model's numbers are, in the words of the class's -/
def t_inb (v a b : Int32) : Bool := decide (¬ v < a ∧ ¬ b < v)
theorem t_inb_lo {v a b : Int32} (h : v < a) : t_inb v a b = false := decide_eq_false fun q => q.1 h
theorem t_inb_hi {v a b : Int32} (h : b < v) : t_inb v a b = false := decide_eq_false fun q => q.2 h
theorem t_inb_y {v a b : Int32} (h : ¬ v < a) (h2 : ¬ b < v) : t_inb v a b = true := decide_eq_true ⟨h, h2⟩
theorem t_inb_t {v a b : Int32} (h : t_inb v a b = true) : t_ir v a b := of_decide_eq_true (p := ¬ v < a ∧ ¬ b < v) h
theorem t_inb_f {v a b : Int32} (h : t_inb v a b = false) : ¬ t_ir v a b := of_decide_eq_false (p := ¬ v < a ∧ ¬ b < v) h
/-- one of F things has the number v -/
def t_isF (F : Nat) (v : Int32) : Bool := decide (¬ v < 0 ∧ ¬ nI F ≤ v)
theorem t_isF_f {F : Nat} {v : Int32} (h : t_isF F v = false) : v < 0 ∨ nI F ≤ v := by
  have := of_decide_eq_false h
  by_cases h1 : v < 0
  · exact Or.inl h1
  · by_cases h2 : nI F ≤ v
    · exact Or.inr h2
    · exact absurd ⟨h1, h2⟩ this
theorem t_isF_t {F : Nat} {v : Int32} (h : t_isF F v = true) (hF : F < 2147483648) : ∃ j : Nat, v = nI j ∧ j < F := by
  have := of_decide_eq_true h
  exact t_idx this.1 this.2 hF
theorem t_inb_F {F : Nat} {v : Int32} (hF : F < 1073741824) : t_inb v (nI 0) (nI F - nI 1) = t_isF F v := by
  refine decide_eq_decide.mpr ?_
  have e0 : (nI 0).toInt = 0 := nI_toInt (by decide)
  have e2 := pk_sub_toInt (a := F) (b := 1) hF (by decide)
  simp only [Int32.lt_iff_toInt_lt, Int32.le_iff_toInt_le, e0, e2, Int32.toInt_zero, nI_toInt (show F < 2 ^ 31 by omega)]
  omega
/-! sums that do not go round -/
theorem t_ixadd {a b : Int32} (h1 : -2147483648 ≤ a.toInt + b.toInt) (h2 : a.toInt + b.toInt < 2147483648) : (a + b).toInt = a.toInt + b.toInt := by
  rw [Int32.toInt_add]; exact Int.bmod_eq_of_le (by omega) (by omega)
theorem t_ixsub {a b : Int32} (h1 : -2147483648 ≤ a.toInt - b.toInt) (h2 : a.toInt - b.toInt < 2147483648) : (a - b).toInt = a.toInt - b.toInt := by
  rw [Int32.toInt_sub]; exact Int.bmod_eq_of_le (by omega) (by omega)
theorem t_ixmul {a b : Int32} (h1 : -2147483648 ≤ a.toInt * b.toInt) (h2 : a.toInt * b.toInt < 2147483648) : (a * b).toInt = a.toInt * b.toInt := by
  rw [Int32.toInt_mul]; exact Int.bmod_eq_of_le (by omega) (by omega)
theorem t_sq {u : Int} (h1 : -200 ≤ u) (h2 : u ≤ 200) : 0 ≤ u * u ∧ u * u ≤ 40000 := by
  have h3 : u.natAbs ≤ 200 := by omega
  have h4 : u.natAbs * u.natAbs ≤ 200 * 200 := Nat.mul_le_mul h3 h3
  have h5 : ((u.natAbs * u.natAbs : Nat) : Int) = u * u := Int.natAbs_mul_self
  rw [← h5]
  generalize u.natAbs * u.natAbs = z at h4 ⊢
  omega
theorem t_sum_bd {f : Nat → Int32} {B : Nat} : ∀ {n : Nat}, n * B < 2147483648 → (∀ j, j < n → 0 ≤ (f j).toInt ∧ (f j).toInt ≤ (B : Int)) → 0 ≤ (t_sum f n).toInt ∧ (t_sum f n).toInt ≤ ((n * B : Nat) : Int)
  | 0, _, _ => by
    show 0 ≤ (nI 0).toInt ∧ (nI 0).toInt ≤ _
    rw [nI_toInt (by decide)]; omega
  | n + 1, hB, h => by
    have e : (n + 1) * B = n * B + B := Nat.succ_mul n B
    rw [e] at hB ⊢
    have h1 := t_sum_bd (f := f) (B := B) (n := n) (by omega) (fun j hj => h j (by omega))
    have h2 := h n (by omega)
    generalize n * B = z at hB h1 ⊢
    show 0 ≤ (t_sum f n + f n).toInt ∧ (t_sum f n + f n).toInt ≤ _
    rw [t_ixadd (by omega) (by omega)]
    omega
/-- the first n samples lie in -100 .. 100 -/
def t_bdx (x : Nat → Int32) (n : Nat) : Prop := ∀ i, i < n → -100 ≤ (x i).toInt ∧ (x i).toInt ≤ 100
theorem t_df_bd {x : Nat → Int32} {n k j : Nat} (h : t_bdx x n) (hk : k * 32 + 128 ≤ n) (hj : j ≤ 64) : 0 ≤ (t_df x k j).toInt ∧ (t_df x k j).toInt ≤ 2560000 := by
  refine t_sum_bd (B := 40000) (n := 64) (by decide) (fun i hi => ?_)
  have h1 := h (k * 32 + i) (by omega)
  have h2 := h (k * 32 + i + j) (by omega)
  have e : (x (k * 32 + i) - x (k * 32 + i + j)).toInt = (x (k * 32 + i)).toInt - (x (k * 32 + i + j)).toInt := t_ixsub (by omega) (by omega)
  have h3 := t_sq (u := (x (k * 32 + i) - x (k * 32 + i + j)).toInt) (by omega) (by omega)
  rw [t_ixmul (by omega) (by omega)]
  exact h3
theorem t_sm_bd {x : Nat → Int32} {n k j : Nat} (h : t_bdx x n) (hk : k * 32 + 128 ≤ n) (hj : j ≤ 64) : 0 ≤ (t_sm x k j).toInt ∧ (t_sm x k j).toInt ≤ ((j * 2560000 : Nat) : Int) :=
  t_sum_bd (B := 2560000) (n := j) (by omega) (fun i hi => t_df_bd h hk (by omega))
theorem t_pos {S : Int32} (h : ¬ S = 0) (h2 : ¬ S < 0) : 0 < S := by
  have h3 : S.toInt ≠ 0 := fun q => h (Int32.toInt_inj.mp (q.trans Int32.toInt_zero.symm))
  rw [Int32.lt_iff_toInt_lt, Int32.toInt_zero] at h2 ⊢
  omega
theorem t_top_z {z S : Int32} {j : Nat} (h : S = 0) : (1 : Int64) = t_top z j S := (if_neg (by rw [h]; decide)).symm
theorem t_top_p {z S : Int32} {j : Nat} (h : ¬ S = 0) (h2 : ¬ S < 0) : (nI j).toInt64 * z.toInt64 = t_top z j S := (if_pos (t_pos h h2)).symm
theorem t_bot_z {S : Int32} (h : S = 0) : (1 : Int64) = t_bot S := (if_neg (by rw [h]; decide)).symm
theorem t_bot_p {S : Int32} (h : ¬ S = 0) (h2 : ¬ S < 0) : S.toInt64 = t_bot S := (if_pos (t_pos h h2)).symm
theorem t_bot_pos (S : Int32) : 0 < t_bot S := by
  unfold t_bot
  by_cases h : 0 < S
  · rw [if_pos h, Int64.lt_iff_toInt_lt, Int32.toInt_toInt64, Int64.toInt_zero]
    rw [Int32.lt_iff_toInt_lt, Int32.toInt_zero] at h
    exact h
  · rw [if_neg h]; decide
theorem t_bot_ne (S : Int32) : ¬ t_bot S = 0 := fun q => by
  have := t_bot_pos S
  rw [q] at this
  exact absurd this (by decide)
theorem t_mean_e {d s : Nat → Int32} {j : Nat} : (1000 * t_top (d j) j (s j) / t_bot (s j)).toInt32 = t_mean d s j :=
  congrArg Int64.toInt32 (if_pos (t_bot_pos (s j))).symm
/-- differences and their sums, laid up to lag i -/
def t_mlay (x : Nat → Int32) (k i : Nat) (dd ss : Nat → Int32) : Prop := ss 0 = nI 0 ∧ ∀ q, 1 ≤ q → q ≤ i → dd q = t_df x k q ∧ ss q = t_sm x k q
theorem t_mlay_0 {x : Nat → Int32} {k : Nat} {dd ss : Nat → Int32} : t_mlay x k 0 dd (upd ss 0 (nI 0)) := ⟨pk_us, fun q h1 h2 => by omega⟩
theorem t_mlay_s {x : Nat → Int32} {k i : Nat} {dd ss : Nat → Int32} (h : t_mlay x k i dd ss) : t_mlay x k (i + 1) (upd dd (i + 1) (t_df x k (i + 1))) (upd ss (i + 1) (ss (i + 1 - 1) + upd dd (i + 1) (t_df x k (i + 1)) (i + 1))) := by
  have e : ss (i + 1 - 1) = t_sm x k i := by
    rw [Nat.add_sub_cancel]
    by_cases q : i = 0
    · subst q; exact h.1
    · exact (h.2 i (by omega) (Nat.le_refl _)).2
  refine ⟨(pk_un (by omega)).trans h.1, fun q h1 h2 => ?_⟩
  by_cases c : q = i + 1
  · subst c
    rw [pk_us, pk_us, e]
    exact ⟨rfl, rfl⟩
  · rw [pk_un c, pk_un c]
    exact h.2 q h1 (by omega)
theorem t_mlay_nn {x : Nat → Int32} {n k : Nat} {dd ss : Nat → Int32} (h : t_mlay x k 64 dd ss) (hb : t_bdx x n) (hk : k * 32 + 128 ≤ n) : ∀ q, q ≤ 64 → ¬ ss q < 0 := fun q hq => by
  rw [Int32.lt_iff_toInt_lt, Int32.toInt_zero]
  by_cases c : q = 0
  · rw [c, h.1, nI_toInt (by decide)]; omega
  · rw [(h.2 q (by omega) hq).2]
    have := (t_sm_bd (j := q) hb hk hq).1
    omega
theorem t_mlay_cand {x : Nat → Int32} {k j : Nat} {th : Int32} {dd ss : Nat → Int32} (h : t_mlay x k 64 dd ss) (h1 : 2 ≤ j) (h2 : j ≤ 63) : t_cand dd ss th j = t_cand (t_df x k) (t_sm x k) th j := by
  obtain ⟨a1, a2⟩ := h.2 j (by omega) (by omega)
  obtain ⟨b1, b2⟩ := h.2 (j - 1) (by omega) (by omega)
  obtain ⟨c1, c2⟩ := h.2 (j + 1) (by omega) (by omega)
  unfold t_cand t_blw t_less t_tp t_bt
  rw [a1, a2, b1, b2, c1, c2]
theorem t_mlay_mean {x : Nat → Int32} {k j : Nat} {dd ss : Nat → Int32} (h : t_mlay x k 64 dd ss) (h1 : 1 ≤ j) (h2 : j ≤ 64) : t_mean dd ss j = t_mean (t_df x k) (t_sm x k) j :=
  t_mean_congr (h.2 j h1 h2).1 (h.2 j h1 h2).2
/-- the rows of choices with those of frame j laid: L, the lags of its candidates -/
def t_lcq (x : Nat → Int32) (un : Int32) (j : Nat) (L : List Nat) (cn la co cn1 la1 co1 : Nat → Int32) : Prop := (∀ q, ¬ q = j → cn1 q = cn q) ∧ (∀ q, ¬ (j * 9 ≤ q ∧ q ≤ j * 9 + 8) → la1 q = la q ∧ co1 q = co q) ∧ cn1 j = nI (L.length + 1) ∧ la1 (j * 9 + 0) = nI 0 ∧ co1 (j * 9 + 0) = un ∧ ∀ c, c < L.length → la1 (j * 9 + (c + 1)) = nI (L.getD c 0) ∧ co1 (j * 9 + (c + 1)) = t_mean (t_df x j) (t_sm x j) (L.getD c 0)
theorem t_lcq_0 {x : Nat → Int32} {un : Int32} {j : Nat} {cn la co : Nat → Int32} : t_lcq x un j [] cn la co (upd cn j (nI 1)) (upd la (9 * j) (nI 0)) (upd co (9 * j) un) := by
  have e : 9 * j = j * 9 + 0 := by omega
  rw [e]
  exact ⟨fun q h => pk_un h, fun q h => ⟨pk_un (by omega), pk_un (by omega)⟩, pk_us, pk_us, pk_us, fun c h => by cases h⟩
theorem t_lcq_s {x : Nat → Int32} {un : Int32} {j t : Nat} {L : List Nat} {cn la co cn1 la1 co1 : Nat → Int32} (h : t_lcq x un j L cn la co cn1 la1 co1) (hl : L.length < 8) : t_lcq x un j (L ++ [t]) cn la co (upd cn1 j (nI (L.length + 1 + 1))) (upd la1 (9 * j + (L.length + 1)) (nI t)) (upd co1 (9 * j + (L.length + 1)) (t_mean (t_df x j) (t_sm x j) t)) := by
  have e : 9 * j + (L.length + 1) = j * 9 + (L.length + 1) := by omega
  rw [e]
  obtain ⟨h1, h2, h3, h4, h5, h6⟩ := h
  refine ⟨fun q hq => (pk_un hq).trans (h1 q hq), fun q hq => ?_, ?_, (pk_un (by omega)).trans h4, (pk_un (by omega)).trans h5, fun c hc => ?_⟩
  · rw [pk_un (by omega), pk_un (by omega)]; exact h2 q hq
  · rw [pk_us, List.length_append]; rfl
  · rw [List.length_append] at hc
    by_cases c0 : c = L.length
    · subst c0
      rw [pk_us, pk_us]
      have : (L ++ [t]).getD L.length 0 = t := by simp [List.getD]
      rw [this]; exact ⟨rfl, rfl⟩
    · have h7 : c < L.length := by simp at hc; omega
      rw [pk_un (by omega), pk_un (by omega)]
      have : (L ++ [t]).getD c 0 = L.getD c 0 := by simp [List.getD, List.getElem?_append_left h7]
      rw [this]; exact h6 c h7
theorem t_mstp_hi {ju ch : Int32} {a b : Nat} (h1 : 0 < a) (h2 : 0 < b) (h : b < a) : ju * nI (a - b) = t_stp ju ch a b := by
  rw [← t_stp_2 h1 h2, if_pos h, Int32.mul_comm]
theorem t_mstp_lo {ju ch : Int32} {a b : Nat} (h1 : 0 < a) (h2 : 0 < b) (h : a ≤ b) : ju * nI (b - a) = t_stp ju ch a b := by
  rw [← t_stp_2 h1 h2, if_neg (by omega), Int32.mul_comm]
theorem t_cs_full {d s : Nat → Int32} {th : Int32} {i : Nat} (h : 8 ≤ (t_cl (t_cand d s th) i).length) (hi : i ≤ 62) : t_cs d s th = t_cl (t_cand d s th) i := by
  have h2 := t_cl_full h (62 - i)
  rw [show i + (62 - i) = 62 by omega] at h2
  exact h2
