/-! the cheapest path, by dynamic programming. CT: how many choices a frame has; LG: a choice's lag; OW: its own cost -/
def t_stp (ju ch : Int32) (a b : Nat) : Int32 := if 0 < a ∧ 0 < b then nI (if b < a then a - b else b - a) * ju else if 0 < a ∨ 0 < b then ch else nI 0
/-- the least of v 0 .. v n, and the first place that has it -/
def t_mn (v : Nat → Int32) : Nat → Int32 × Nat
  | 0 => (v 0, 0)
  | n + 1 => if v (n + 1) < (t_mn v n).1 then (v (n + 1), n + 1) else t_mn v n
theorem t_mn_y {v : Nat → Int32} {n : Nat} (h : v (n + 1) < (t_mn v n).1) : t_mn v (n + 1) = (v (n + 1), n + 1) := if_pos h
theorem t_mn_n {v : Nat → Int32} {n : Nat} (h : ¬ v (n + 1) < (t_mn v n).1) : t_mn v (n + 1) = t_mn v n := if_neg h
theorem t_mn_le (v : Nat → Int32) : ∀ n, (t_mn v n).2 ≤ n
  | 0 => Nat.le_refl _
  | n + 1 => by
    have := t_mn_le v n
    unfold t_mn; split
    · exact Nat.le_refl _
    · omega
theorem t_mn_v (v : Nat → Int32) : ∀ n, v (t_mn v n).2 = (t_mn v n).1
  | 0 => rfl
  | n + 1 => by
    unfold t_mn; split
    · rfl
    · exact t_mn_v v n
theorem t_mn_congr {v w : Nat → Int32} : ∀ {n : Nat}, (∀ i, i ≤ n → v i = w i) → t_mn v n = t_mn w n
  | 0, h => by unfold t_mn; rw [h 0 (Nat.le_refl _)]
  | n + 1, h => by
    unfold t_mn; rw [t_mn_congr (n := n) (fun i hi => h i (by omega)), h (n + 1) (Nat.le_refl _)]
/-- the same, of none: 0, 0 -/
def t_mq (v : Nat → Int32) : Nat → Int32 × Nat
  | 0 => (nI 0, 0)
  | n + 1 => t_mn v n
theorem t_mq_0 {v : Nat → Int32} {i : Nat} (h : i = 0) : t_mq v (i + 1) = (v i, i) := by subst h; rfl
theorem t_mq_y {v : Nat → Int32} {i : Nat} (h0 : ¬ i = 0) (h : v i < (t_mq v i).1) : t_mq v (i + 1) = (v i, i) := by
  obtain ⟨j, rfl⟩ : ∃ j, i = j + 1 := ⟨i - 1, by omega⟩
  exact t_mn_y h
theorem t_mq_n {v : Nat → Int32} {i : Nat} (h0 : ¬ i = 0) (h : ¬ v i < (t_mq v i).1) : t_mq v (i + 1) = t_mq v i := by
  obtain ⟨j, rfl⟩ : ∃ j, i = j + 1 := ⟨i - 1, by omega⟩
  exact t_mn_n h
theorem t_mq_le (v : Nat → Int32) (n : Nat) : (t_mq v n).2 ≤ n := by
  cases n with
  | zero => exact Nat.le_refl _
  | succ n => exact Nat.le_succ_of_le (t_mn_le v n)
/-- the least cost of a path that ends in frame k with choice c -/
def t_tot (CT : Nat → Nat) (LG : Nat → Nat → Nat) (OW : Nat → Nat → Int32) (ju ch : Int32) : Nat → Nat → Int32
  | 0, c => nI 0 + OW 0 c
  | k + 1, c => (t_mn (fun i => t_tot CT LG OW ju ch k i + t_stp ju ch (LG k i) (LG (k + 1) c)) (CT k - 1)).1 + OW (k + 1) c
def t_frm (CT : Nat → Nat) (LG : Nat → Nat → Nat) (OW : Nat → Nat → Int32) (ju ch : Int32) : Nat → Nat → Nat
  | 0, _ => 0
  | k + 1, c => (t_mn (fun i => t_tot CT LG OW ju ch k i + t_stp ju ch (LG k i) (LG (k + 1) c)) (CT k - 1)).2
/-- the costs of the steps into choice c of frame k -/
def t_vv (CT : Nat → Nat) (LG : Nat → Nat → Nat) (OW : Nat → Nat → Int32) (ju ch : Int32) (k c : Nat) : Nat → Int32 := fun i => t_tot CT LG OW ju ch (k - 1) i + t_stp ju ch (LG (k - 1) i) (LG k c)
section TT
variable {CT : Nat → Nat} {LG : Nat → Nat → Nat} {OW : Nat → Nat → Int32} {ju ch : Int32}
theorem t_tot_0 {k c : Nat} (h : k = 0) : t_tot CT LG OW ju ch k c = nI 0 + OW k c := by subst h; rfl
theorem t_frm_0 {k c : Nat} (h : k = 0) : t_frm CT LG OW ju ch k c = 0 := by subst h; rfl
theorem t_tot_s {k c i : Nat} (h : 0 < k) (hi : i = CT (k - 1)) (h1 : 1 ≤ CT (k - 1)) : t_tot CT LG OW ju ch k c = (t_mq (t_vv CT LG OW ju ch k c) i).1 + OW k c := by
  obtain ⟨j, rfl⟩ : ∃ j, k = j + 1 := ⟨k - 1, by omega⟩
  subst hi
  simp only [Nat.add_sub_cancel] at h1 ⊢
  obtain ⟨q, hq⟩ : ∃ q, CT j = q + 1 := ⟨CT j - 1, by omega⟩
  rw [hq]; unfold t_tot; rw [hq]; rfl
theorem t_frm_e {k c : Nat} : t_frm CT LG OW ju ch (k + 1) c = (t_mn (fun i => t_tot CT LG OW ju ch k i + t_stp ju ch (LG k i) (LG (k + 1) c)) (CT k - 1)).2 := rfl
theorem t_frm_s {k c i : Nat} (h : 0 < k) (hi : i = CT (k - 1)) (h1 : 1 ≤ CT (k - 1)) : t_frm CT LG OW ju ch k c = (t_mq (t_vv CT LG OW ju ch k c) i).2 := by
  obtain ⟨j, rfl⟩ : ∃ j, k = j + 1 := ⟨k - 1, by omega⟩
  subst hi
  simp only [Nat.add_sub_cancel] at h1 ⊢
  obtain ⟨q, hq⟩ : ∃ q, CT j = q + 1 := ⟨CT j - 1, by omega⟩
  rw [hq, t_frm_e, hq]; rfl
theorem t_frm_lt {k c : Nat} (h : 0 < k) (h1 : 1 ≤ CT (k - 1)) : t_frm CT LG OW ju ch k c < CT (k - 1) := by
  obtain ⟨j, rfl⟩ : ∃ j, k = j + 1 := ⟨k - 1, by omega⟩
  simp only [Nat.add_sub_cancel] at h1 ⊢
  have := t_mn_le (fun i => t_tot CT LG OW ju ch j i + t_stp ju ch (LG j i) (LG (j + 1) c)) (CT j - 1)
  rw [t_frm_e]; omega
end TT
/-- what the choices' rows hold for the frames below n -/
def t_can (CT : Nat → Nat) (LG : Nat → Nat → Nat) (OW : Nat → Nat → Int32) (n : Nat) (cn la co : Nat → Int32) : Prop := ∀ k, k < n → cn k + nI 1 = nI (CT k) ∧ 1 ≤ CT k ∧ CT k ≤ 9 ∧ ∀ c, c < CT k → la (k * 9 + c) = nI (LG k c) ∧ LG k c ≤ 63 ∧ (¬ c = 0 → co (k * 9 + c) = OW k c)
/-- the totals and the choices ahead, of the frames below n, and of frame n up to choice m -/
def t_dp (CT : Nat → Nat) (LG : Nat → Nat → Nat) (OW : Nat → Nat → Int32) (ju ch : Int32) (n m : Nat) (to ea : Nat → Int32) : Prop := ∀ k c, (k < n ∧ c < CT k) ∨ (k = n ∧ c < m) → to (k * 9 + c) = t_tot CT LG OW ju ch k c ∧ ea (k * 9 + c) = nI (t_frm CT LG OW ju ch k c)
theorem t_dp_s {CT : Nat → Nat} {LG : Nat → Nat → Nat} {OW : Nat → Nat → Int32} {ju ch : Int32} {n m : Nat} {to ea : Nat → Int32} (hc : ∀ k, k ≤ n → CT k ≤ 9) (hm : m < CT n) (h : t_dp CT LG OW ju ch n m to ea) : t_dp CT LG OW ju ch n (m + 1) (upd to (n * 9 + m) (t_tot CT LG OW ju ch n m)) (upd ea (n * 9 + m) (nI (t_frm CT LG OW ju ch n m))) := by
  intro k c hkc
  have hn := hc n (Nat.le_refl _)
  by_cases e : k = n ∧ c = m
  · obtain ⟨rfl, rfl⟩ := e; rw [pk_us, pk_us]; exact ⟨rfl, rfl⟩
  · have hc9 : c < 9 := by
      rcases hkc with ⟨h1, h2⟩ | ⟨h1, h2⟩
      · have := hc k (by omega); omega
      · omega
    have hne : k * 9 + c ≠ n * 9 + m := by
      intro q
      rcases hkc with ⟨h1, h2⟩ | ⟨h1, h2⟩
      · omega
      · subst h1; exact e ⟨rfl, by omega⟩
    rw [pk_un hne, pk_un hne]
    refine h k c ?_
    rcases hkc with ⟨h1, h2⟩ | ⟨h1, h2⟩
    · exact Or.inl ⟨h1, h2⟩
    · refine Or.inr ⟨h1, ?_⟩
      have : ¬ c = m := fun q => e ⟨h1, q⟩
      omega
theorem t_dp_n {CT : Nat → Nat} {LG : Nat → Nat → Nat} {OW : Nat → Nat → Int32} {ju ch : Int32} {n m : Nat} {to ea : Nat → Int32} (hm : CT n ≤ m) (h : t_dp CT LG OW ju ch n m to ea) : t_dp CT LG OW ju ch (n + 1) 0 to ea := by
  intro k c hkc
  refine h k c ?_
  rcases hkc with ⟨h1, h2⟩ | ⟨h1, h2⟩
  · by_cases e : k = n
    · subst e; exact Or.inr ⟨rfl, by omega⟩
    · exact Or.inl ⟨by omega, h2⟩
  · omega
/-- the best last choice of n frames -/
def t_bst (CT : Nat → Nat) (LG : Nat → Nat → Nat) (OW : Nat → Nat → Int32) (ju ch : Int32) (n : Nat) : Nat := (t_mn (fun c => t_tot CT LG OW ju ch (n - 1) c) (CT (n - 1) - 1)).2
def t_cst (CT : Nat → Nat) (LG : Nat → Nat → Nat) (OW : Nat → Nat → Int32) (ju ch : Int32) (n : Nat) : Int32 := if n = 0 then nI 0 else t_tot CT LG OW ju ch (n - 1) (t_bst CT LG OW ju ch n)
/-- the choice on the track, j frames ahead of the last of n -/
def t_pt (CT : Nat → Nat) (LG : Nat → Nat → Nat) (OW : Nat → Nat → Int32) (ju ch : Int32) (n : Nat) : Nat → Nat
  | 0 => t_bst CT LG OW ju ch n
  | j + 1 => t_frm CT LG OW ju ch (n - 1 - j) (t_pt CT LG OW ju ch n j)
/-- the track's lag of frame f -/
def t_lg (CT : Nat → Nat) (LG : Nat → Nat → Nat) (OW : Nat → Nat → Int32) (ju ch : Int32) (n f : Nat) : Nat := LG f (t_pt CT LG OW ju ch n (n - 1 - f))
theorem t_bst_lt {CT : Nat → Nat} {LG : Nat → Nat → Nat} {OW : Nat → Nat → Int32} {ju ch : Int32} {n : Nat} (h : 1 ≤ CT (n - 1)) : t_bst CT LG OW ju ch n < CT (n - 1) := by
  have := t_mn_le (fun c => t_tot CT LG OW ju ch (n - 1) c) (CT (n - 1) - 1)
  unfold t_bst; omega
theorem t_pt_lt {CT : Nat → Nat} {LG : Nat → Nat → Nat} {OW : Nat → Nat → Int32} {ju ch : Int32} {n : Nat} (h : ∀ k, k < n → 1 ≤ CT k) : ∀ j, j < n → t_pt CT LG OW ju ch n j < CT (n - 1 - j)
  | 0, hj => t_bst_lt (h _ (by omega))
  | j + 1, hj => by
    have := t_frm_lt (CT := CT) (LG := LG) (OW := OW) (ju := ju) (ch := ch) (k := n - 1 - j) (c := t_pt CT LG OW ju ch n j) (by omega) (h _ (by omega))
    rw [show n - 1 - (j + 1) = n - 1 - j - 1 by omega]; exact this
/-- the track's rows hold the lags of the frames from g on -/
def t_trk (CT : Nat → Nat) (LG : Nat → Nat → Nat) (OW : Nat → Nat → Int32) (ju ch : Int32) (n g : Nat) (tr : Nat → Int32) : Prop := ∀ f, g ≤ f → f < n → tr f = nI (t_lg CT LG OW ju ch n f)
theorem t_trk_s {CT : Nat → Nat} {LG : Nat → Nat → Nat} {OW : Nat → Nat → Int32} {ju ch : Int32} {n g : Nat} {tr : Nat → Int32} {x : Int32} (h : t_trk CT LG OW ju ch n (g + 1) tr) (hx : x = nI (t_lg CT LG OW ju ch n g)) : t_trk CT LG OW ju ch n g (upd tr g x) := by
  intro f h1 h2
  by_cases e : f = g
  · subst e; rw [pk_us]; exact hx
  · rw [pk_un e]; exact h f (by omega) h2
theorem t_absd {a b : Nat} (ha : a < 1073741824) (hb : b < 1073741824) : (if 0 ≤ nI a - nI b then nI a - nI b else 0 - (nI a - nI b)) = nI (if b < a then a - b else b - a) := by
  have e := pk_sub_toInt ha hb
  have h0 : (0 : Int32) ≤ nI a - nI b ↔ b ≤ a := by rw [Int32.le_iff_toInt_le, e, Int32.toInt_zero]; omega
  by_cases h : b < a
  · rw [if_pos (h0.mpr (by omega)), if_pos h, pk_sub (by omega)]
  · rw [if_neg h]
    by_cases q : a = b
    · subst q; rw [if_pos (h0.mpr (Nat.le_refl _)), pk_sub (Nat.le_refl _)]
    · rw [if_neg (fun z => by have := h0.mp z; omega), ← pk_sub (by omega : a ≤ b)]
      have : ∀ x y : Int32, 0 - (x - y) = y - x := by intro x y; rw [Int32.zero_sub, Int32.neg_sub]
      exact this _ _
theorem t_stp_2 {ju ch : Int32} {a b : Nat} (h1 : 0 < a) (h2 : 0 < b) : nI (if b < a then a - b else b - a) * ju = t_stp ju ch a b := by unfold t_stp; exact (if_pos (And.intro h1 h2)).symm
theorem t_stp_1 {ju ch : Int32} {a b : Nat} (h1 : ¬ (0 < a ∧ 0 < b)) (h2 : 0 < a ∨ 0 < b) : ch = t_stp ju ch a b := by unfold t_stp; rw [if_neg h1, if_pos h2]
theorem t_stp_0 {ju ch : Int32} {a b : Nat} (h1 : a = 0) (h2 : b = 0) : nI 0 = t_stp ju ch a b := by subst h1; subst h2; rfl
theorem t_mn_y2 {v : Nat → Int32} {n : Nat} (h : ¬ v (t_mn v n).2 ≤ v (n + 1)) : t_mn v (n + 1) = (v (n + 1), n + 1) := t_mn_y (by rw [t_mn_v v n] at h; exact t_nle32 h)
theorem t_mn_n2 {v : Nat → Int32} {n : Nat} (h : v (t_mn v n).2 ≤ v (n + 1)) : t_mn v (n + 1) = t_mn v n := t_mn_n (by rw [t_mn_v v n] at h; exact t_nlt32 h)
theorem t_subm (n : Nat) : nI n - nI 1 = nI n + (-1) := by rw [Int32.sub_eq_add_neg]; rfl
theorem t_m1 {g : Nat} (h : 0 < g) : nI g + (-1) = nI (g - 1) := by
  obtain ⟨j, rfl⟩ : ∃ j, g = j + 1 := ⟨g - 1, by omega⟩
  exact pk_m1 j
theorem t_m1_0 {g : Nat} (hg : g < 2147483648) (h : nI g + (-1) < 0) : g = 0 := by
  rcases Nat.eq_zero_or_pos g with q | q
  · exact q
  · rw [t_m1 q] at h; exact absurd h (nI_pos (by omega))
theorem t_m1_p {g : Nat} (h : ¬ nI g + (-1) < 0) : 0 < g := by
  rcases Nat.eq_zero_or_pos g with q | q
  · subst q; exact absurd (by decide) h
  · exact q
theorem t_bst_e {CT : Nat → Nat} {LG : Nat → Nat → Nat} {OW : Nat → Nat → Int32} {ju ch : Int32} {n : Nat} {to ea : Nat → Int32} (hn : 0 < n) (h1 : 1 ≤ CT (n - 1)) (h : t_dp CT LG OW ju ch n 0 to ea) : (t_mn (fun c => to ((n - 1) * 9 + c)) (CT (n - 1) - 1)).2 = t_bst CT LG OW ju ch n := by
  unfold t_bst
  rw [t_mn_congr (fun i hi => (h (n - 1) i (Or.inl ⟨by omega, by omega⟩)).1)]
theorem t_cst_e {CT : Nat → Nat} {LG : Nat → Nat → Nat} {OW : Nat → Nat → Int32} {ju ch : Int32} {n : Nat} (hn : 0 < n) : t_tot CT LG OW ju ch (n - 1) (t_bst CT LG OW ju ch n) = t_cst CT LG OW ju ch n := (if_neg (by omega)).symm
theorem t_pt_e {CT : Nat → Nat} {LG : Nat → Nat → Nat} {OW : Nat → Nat → Int32} {ju ch : Int32} {n g : Nat} (hg : 0 < g) (hn : g ≤ n) : t_pt CT LG OW ju ch n (n - (g - 1)) = t_frm CT LG OW ju ch (g - 1) (t_pt CT LG OW ju ch n (n - g)) := by
  rw [show n - (g - 1) = (n - g) + 1 by omega]
  show t_frm CT LG OW ju ch (n - 1 - (n - g)) _ = _
  rw [show n - 1 - (n - g) = g - 1 by omega]
theorem t_trk_p {CT : Nat → Nat} {LG : Nat → Nat → Nat} {OW : Nat → Nat → Int32} {ju ch : Int32} {n g : Nat} {tr : Nat → Int32} (hg : 0 < g) (hn : g ≤ n) (h : t_trk CT LG OW ju ch n g tr) : t_trk CT LG OW ju ch n (g - 1) (upd tr (g - 1) (nI (LG (g - 1) (t_pt CT LG OW ju ch n (n - g))))) := by
  refine t_trk_s (by rw [show g - 1 + 1 = g by omega]; exact h) ?_
  unfold t_lg; rw [show n - 1 - (g - 1) = n - g by omega]
theorem t_trk_n {CT : Nat → Nat} {LG : Nat → Nat → Nat} {OW : Nat → Nat → Int32} {ju ch : Int32} {n : Nat} {tr : Nat → Int32} : t_trk CT LG OW ju ch n n tr := fun f h1 h2 => by omega
theorem t_pt_lt2 {CT : Nat → Nat} {LG : Nat → Nat → Nat} {OW : Nat → Nat → Int32} {ju ch : Int32} {n g : Nat} {cn la co : Nat → Int32} (hc : t_can CT LG OW n cn la co) (hg : 0 < g) (hn : g ≤ n) : t_pt CT LG OW ju ch n (n - g) < CT (g - 1) := by
  have := t_pt_lt (CT := CT) (LG := LG) (OW := OW) (ju := ju) (ch := ch) (n := n) (fun k hk => (hc k hk).2.1) (n - g) (by omega)
  rw [show n - 1 - (n - g) = g - 1 by omega] at this; exact this
theorem t_dp_0 {CT : Nat → Nat} {LG : Nat → Nat → Nat} {OW : Nat → Nat → Int32} {ju ch : Int32} {to ea : Nat → Int32} : t_dp CT LG OW ju ch 0 0 to ea := fun k c h => by omega
