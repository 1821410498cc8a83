/-! the model's track: its numbers are small -/
theorem t_mean_bd {d s : Nat → Int32} {p : Int32} {j A B P : Nat} (hd : d j = nI A) (hs : s j = nI B) (hp : p = nI P) (hA : A ≤ 2560000) (hB : B ≤ 163840000) (hP : P ≤ 100) (hj : j ≤ 64) (h : t_blw d s p j = true) : 0 ≤ (t_mean d s j).toInt ∧ (t_mean d s j).toInt ≤ 1000 := by
  have h1 : 100 * t_tp d s j < p.toInt64 * t_bt s j := of_decide_eq_true h
  have hz : j * A ≤ 64 * 2560000 := Nat.mul_le_mul hj hA
  have hw : P * B ≤ 100 * B := Nat.mul_le_mul_right B hP
  by_cases h0 : B = 0
  · subst h0
    have e1 : t_tp d s j = 1 := by
      show t_top (d j) j (s j) = 1
      rw [hs]; exact if_neg (by decide)
    have e2 : t_bt s j = 1 := by
      show t_bot (s j) = 1
      rw [hs]; exact if_neg (by decide)
    rw [e1, e2, hp, nI_l (by omega)] at h1
    have h2 : lN (100 * 1) < lN (P * 1) := by rw [← lN_mul, ← lN_mul]; exact h1
    rw [pk_lLT (by omega) (by omega)] at h2
    omega
  · have hpos : (0 : Int32) < nI B := by
      rw [Int32.lt_iff_toInt_lt, nI_toInt (by omega), Int32.toInt_zero]; omega
    have e1 : t_tp d s j = lN (j * A) := by
      show t_top (d j) j (s j) = _
      rw [hs, hd, ← lN_mul, ← nI_l (n := j) (by omega), ← nI_l (n := A) (by omega)]
      exact if_pos hpos
    have e2 : t_bt s j = lN B := by
      show t_bot (s j) = _
      rw [hs, ← nI_l (n := B) (by omega)]
      exact if_pos hpos
    have e3 : t_mean d s j = (t_quo (1000 * t_tp d s j) (t_bt s j)).toInt32 := rfl
    rw [e1, e2, hp, nI_l (by omega)] at h1
    have h2 : lN (100 * (j * A)) < lN (P * B) := by rw [← lN_mul 100 (j * A), ← lN_mul P B]; exact h1
    rw [e3, e1, e2]
    generalize j * A = z at hz h2 ⊢
    generalize P * B = w at hw h2
    rw [pk_lLT (by omega) (by omega)] at h2
    have h3 : (1000 : Int64) * lN z = lN (1000 * z) := lN_mul 1000 z
    have h4 : t_quo (lN (1000 * z)) (lN B) = lN (1000 * z / B) := by
      unfold t_quo
      rw [if_pos (by rw [Int64.lt_iff_toInt_lt, lN_toInt (by omega), Int64.toInt_zero]; omega), pk_lDiv (by omega) (by omega) (by omega)]
    have h5 : 1000 * z / B < 1000 := Nat.div_lt_of_lt_mul (by omega)
    rw [h3, h4, lN_i]
    generalize 1000 * z / B = y at h5 ⊢
    rw [nI_toInt (by omega)]
    omega
/-- the settings lie in their ranges -/
def t_mset (th un ju ch : Int32) : Prop := t_ir th (nI 1) (nI 100) ∧ t_ir un (nI 0) (nI 1000) ∧ t_ir ju (nI 0) (nI 100) ∧ t_ir ch (nI 0) (nI 1000)
theorem t_nat {v : Int32} {B : Nat} (h1 : 0 ≤ v.toInt) (h2 : v.toInt ≤ (B : Int)) (hB : B < 2147483648) : ∃ j : Nat, v = nI j ∧ j ≤ B := by
  refine ⟨v.toInt.toNat, ?_, by omega⟩
  apply Int32.toInt_inj.mp
  rw [nI_toInt (by omega)]; omega
theorem t_OW_bd {x : Nat → Int32} {th un ju ch : Int32} {n k c : Nat} (hs : t_mset th un ju ch) (hb : t_bdx x n) (hk : k < t_F n) (hc : c < t_CT x th k) : 0 ≤ (t_OW x th un k c).toInt ∧ (t_OW x th un k c).toInt ≤ 1000 := by
  have hn := t_F_in hk
  obtain ⟨⟨s1, s2⟩, ⟨s3, s4⟩, -⟩ := hs
  unfold t_OW
  by_cases e : c = 0
  · rw [if_pos e]
    obtain ⟨u, rfl, -, hu⟩ := t_rng s3 s4 (by decide) (by decide)
    rw [nI_toInt (by omega)]; omega
  · rw [if_neg e]
    obtain ⟨P, hP, -, hP2⟩ := t_rng s1 s2 (by decide) (by decide)
    have hL := t_cs_in (d := t_df x k) (s := t_sm x k) (th := th) (c := c - 1) (by unfold t_CT at hc; omega)
    have eL : t_LG x th k c = (t_cs (t_df x k) (t_sm x k) th).getD (c - 1) 0 := if_neg e
    rw [← eL] at hL
    obtain ⟨l1, l2, l3⟩ := hL
    have a1 := t_df_bd (j := t_LG x th k c) hb hn (by omega)
    have a2 := t_sm_bd (j := t_LG x th k c) hb hn (by omega)
    obtain ⟨A, hA, hA2⟩ := t_nat (B := 2560000) a1.1 a1.2 (by decide)
    obtain ⟨B, hB, hB2⟩ := t_nat (B := 163840000) a2.1 (by omega) (by decide)
    refine t_mean_bd hA hB hP hA2 hB2 hP2 (by omega) ?_
    have := l3
    unfold t_cand at this
    exact (Bool.and_eq_true _ _ ▸ this).1
theorem t_stp_bd {th un ju ch : Int32} {a b : Nat} (hs : t_mset th un ju ch) (ha : a ≤ 63) (hb : b ≤ 63) : 0 ≤ (t_stp ju ch a b).toInt ∧ (t_stp ju ch a b).toInt ≤ 6300 := by
  obtain ⟨-, -, ⟨s1, s2⟩, ⟨s3, s4⟩⟩ := hs
  obtain ⟨J, rfl, -, hJ⟩ := t_rng s1 s2 (by decide) (by decide)
  obtain ⟨C, rfl, -, hC⟩ := t_rng s3 s4 (by decide) (by decide)
  unfold t_stp
  by_cases h1 : 0 < a ∧ 0 < b
  · rw [if_pos h1, pk_mul]
    have h2 : (if b < a then a - b else b - a) * J ≤ 63 * 100 := Nat.mul_le_mul (by split <;> omega) hJ
    generalize (if b < a then a - b else b - a) * J = z at h2 ⊢
    rw [nI_toInt (by omega)]; omega
  · rw [if_neg h1]
    by_cases h2 : 0 < a ∨ 0 < b
    · rw [if_pos h2, nI_toInt (by omega)]; omega
    · rw [if_neg h2, nI_toInt (by decide)]; omega
theorem t_LG_63 {x : Nat → Int32} {th : Int32} {k c : Nat} (h : c < t_CT x th k) : t_LG x th k c ≤ 63 := by
  have := t_LG_in x th k c h; omega
theorem t_tot_bd {x : Nat → Int32} {th un ju ch : Int32} {n : Nat} (hs : t_mset th un ju ch) (hb : t_bdx x n) (hn : n ≤ 1024) : ∀ {k c : Nat}, k < t_F n → c < t_CT x th k → 0 ≤ (t_tot (t_CT x th) (t_LG x th) (t_OW x th un) ju ch k c).toInt ∧ (t_tot (t_CT x th) (t_LG x th) (t_OW x th un) ju ch k c).toInt ≤ (((k + 1) * 10000 : Nat) : Int)
  | 0, c, hk, hc => by
    have h := t_OW_bd hs hb hk hc
    have e : t_tot (t_CT x th) (t_LG x th) (t_OW x th un) ju ch 0 c = t_OW x th un 0 c := Int32.zero_add _
    rw [e]; omega
  | k + 1, c, hk, hc => by
    have h := t_OW_bd hs hb hk hc
    have hF := t_F_le hn
    have hC := t_CT_in x th k
    have hi := t_mn_le (fun i => t_tot (t_CT x th) (t_LG x th) (t_OW x th un) ju ch k i + t_stp ju ch (t_LG x th k i) (t_LG x th (k + 1) c)) (t_CT x th k - 1)
    have hv := t_mn_v (fun i => t_tot (t_CT x th) (t_LG x th) (t_OW x th un) ju ch k i + t_stp ju ch (t_LG x th k i) (t_LG x th (k + 1) c)) (t_CT x th k - 1)
    show 0 ≤ ((t_mn (fun i => t_tot (t_CT x th) (t_LG x th) (t_OW x th un) ju ch k i + t_stp ju ch (t_LG x th k i) (t_LG x th (k + 1) c)) (t_CT x th k - 1)).1 + t_OW x th un (k + 1) c).toInt ∧ ((t_mn (fun i => t_tot (t_CT x th) (t_LG x th) (t_OW x th un) ju ch k i + t_stp ju ch (t_LG x th k i) (t_LG x th (k + 1) c)) (t_CT x th k - 1)).1 + t_OW x th un (k + 1) c).toInt ≤ _
    rw [← hv]
    generalize (t_mn (fun i => t_tot (t_CT x th) (t_LG x th) (t_OW x th un) ju ch k i + t_stp ju ch (t_LG x th k i) (t_LG x th (k + 1) c)) (t_CT x th k - 1)).2 = i at hi ⊢
    have h1 := t_tot_bd hs hb hn (k := k) (c := i) (by omega) (by omega)
    have h2 := t_stp_bd (a := t_LG x th k i) (b := t_LG x th (k + 1) c) hs (t_LG_63 (by omega)) (t_LG_63 hc)
    show 0 ≤ ((t_tot (t_CT x th) (t_LG x th) (t_OW x th un) ju ch k i + t_stp ju ch (t_LG x th k i) (t_LG x th (k + 1) c)) + t_OW x th un (k + 1) c).toInt ∧ _
    have h3 : (t_tot (t_CT x th) (t_LG x th) (t_OW x th un) ju ch k i + t_stp ju ch (t_LG x th k i) (t_LG x th (k + 1) c)).toInt = _ := t_ixadd (by omega) (by omega)
    rw [t_ixadd (by omega) (by omega), h3]
    omega
/-- a step into choice c of frame k costs little -/
theorem t_vv_bd {x : Nat → Int32} {th un ju ch : Int32} {n k c i : Nat} (hs : t_mset th un ju ch) (hb : t_bdx x n) (hn : n ≤ 1024) (hk0 : 0 < k) (hk : k < t_F n) (hc : c < t_CT x th k) (hi : i < t_CT x th (k - 1)) : (t_vv (t_CT x th) (t_LG x th) (t_OW x th un) ju ch k c i).toInt < 1073741824 := by
  have hF := t_F_le hn
  have h1 := t_tot_bd hs hb hn (k := k - 1) (c := i) (by omega) hi
  have h2 := t_stp_bd (a := t_LG x th (k - 1) i) (b := t_LG x th k c) hs (t_LG_63 hi) (t_LG_63 hc)
  have h3 : (t_vv (t_CT x th) (t_LG x th) (t_OW x th un) ju ch k c i).toInt = _ := t_ixadd (a := t_tot (t_CT x th) (t_LG x th) (t_OW x th un) ju ch (k - 1) i) (b := t_stp ju ch (t_LG x th (k - 1) i) (t_LG x th k c)) (by omega) (by omega)
  rw [h3]; omega
/-- the model's choices of the frames below n -/
def t_mch (x : Nat → Int32) (th : Int32) (n : Nat) (cn la : Nat → Int32) : Prop := ∀ k, k < n → cn k = nI (t_CT x th k) ∧ ∀ c, c < t_CT x th k → la (k * 9 + c) = nI (t_LG x th k c)
theorem t_mch_0 {x : Nat → Int32} {th : Int32} {cn la : Nat → Int32} : t_mch x th 0 cn la := fun k h => absurd h (Nat.not_lt_zero _)
theorem t_mch_s {x : Nat → Int32} {th un : Int32} {i : Nat} {cn la co cn2 la2 co2 : Nat → Int32} (h : t_mch x th i cn la) (h2 : t_lcq x un i (t_cs (t_df x i) (t_sm x i) th) cn la co cn2 la2 co2) : t_mch x th (i + 1) cn2 la2 ∧ ∀ c, c < t_CT x th i → co2 (i * 9 + c) = t_OW x th un i c := by
  obtain ⟨h1, h3, h4, h5, h6, h7⟩ := h2
  have eL : ∀ c, c < t_CT x th i → la2 (i * 9 + c) = nI (t_LG x th i c) ∧ co2 (i * 9 + c) = t_OW x th un i c := fun c hc => by
    unfold t_OW t_LG
    by_cases e : c = 0
    · rw [if_pos e, if_pos e, e]; exact ⟨h5, h6⟩
    · rw [if_neg e, if_neg e]
      have := h7 (c - 1) (by unfold t_CT at hc; omega)
      rw [show c - 1 + 1 = c by omega] at this
      exact this
  refine ⟨fun k hk => ?_, fun c hc => (eL c hc).2⟩
  by_cases e : k = i
  · subst e; exact ⟨h4, fun c hc => (eL c hc).1⟩
  · obtain ⟨g1, g2⟩ := h k (by omega)
    refine ⟨(h1 k e).trans g1, fun c hc => ?_⟩
    have := (t_CT_in x th k).2
    rw [(h3 (k * 9 + c) (by omega)).1]; exact g2 c hc
/-- the model's totals and the choices ahead -/
def t_mtt (x : Nat → Int32) (th un ju ch : Int32) (n m : Nat) (le fr : Nat → Int32) : Prop := ∀ k c, (k < n ∧ c < t_CT x th k) ∨ (k = n ∧ c < m) → le (k * 9 + c) = t_tot (t_CT x th) (t_LG x th) (t_OW x th un) ju ch k c ∧ (0 < k → fr (k * 9 + c) = nI ((k - 1) * 9 + t_frm (t_CT x th) (t_LG x th) (t_OW x th un) ju ch k c))
theorem t_mtt_0 {x : Nat → Int32} {th un ju ch : Int32} {le fr : Nat → Int32} : t_mtt x th un ju ch 0 0 le fr := fun k c h => by omega
theorem t_mtt_n {x : Nat → Int32} {th un ju ch : Int32} {n m : Nat} {le fr : Nat → Int32} (hm : t_CT x th n ≤ m) (h : t_mtt x th un ju ch n m le fr) : t_mtt x th un ju ch (n + 1) 0 le fr := by
  intro k c hkc
  refine h k c ?_
  rcases hkc with ⟨h1, h2⟩ | ⟨h1, h2⟩
  · by_cases e : k = n
    · subst e; exact Or.inr ⟨rfl, by omega⟩
    · exact Or.inl ⟨by omega, h2⟩
  · omega
theorem t_mtt_s {x : Nat → Int32} {th un ju ch : Int32} {n m : Nat} {le fr le2 fr2 : Nat → Int32} (hm : m < t_CT x th n) (h : t_mtt x th un ju ch n m le fr) (h2 : ∀ q, ¬ q = n * 9 + m → le2 q = le q ∧ fr2 q = fr q) (h3 : le2 (n * 9 + m) = t_tot (t_CT x th) (t_LG x th) (t_OW x th un) ju ch n m) (h4 : 0 < n → fr2 (n * 9 + m) = nI ((n - 1) * 9 + t_frm (t_CT x th) (t_LG x th) (t_OW x th un) ju ch n m)) : t_mtt x th un ju ch n (m + 1) le2 fr2 := by
  intro k c hkc
  have hn := (t_CT_in x th n).2
  by_cases e : k = n ∧ c = m
  · obtain ⟨rfl, rfl⟩ := e; exact ⟨h3, h4⟩
  · have hc9 : c < 9 := by
      rcases hkc with ⟨h1, h2⟩ | ⟨h1, h2⟩
      · have := (t_CT_in x th k).2; omega
      · omega
    have hne : ¬ k * 9 + c = n * 9 + m := by
      intro q
      rcases hkc with ⟨h1, h2⟩ | ⟨h1, h2⟩
      · omega
      · subst h1; exact e ⟨rfl, by omega⟩
    rw [(h2 _ hne).1, (h2 _ hne).2]
    refine h k c ?_
    rcases hkc with ⟨h1, h2⟩ | ⟨h1, h2⟩
    · exact Or.inl ⟨h1, h2⟩
    · refine Or.inr ⟨h1, ?_⟩
      have : ¬ c = m := fun q => e ⟨h1, q⟩
      omega
/-- the least so far of the first p of the steps v, at place a, over the rows e0, f0 -/
def t_min (v : Nat → Int32) (i a p : Nat) (e f e0 f0 : Nat → Int32) : Prop := (∀ q, ¬ q = a → e q = e0 q ∧ f q = f0 q) ∧ e a = (if p = 0 then nI 1073741824 else (t_mq v p).1) ∧ (0 < p → f a = nI ((i - 1) * 9 + (t_mq v p).2))
theorem t_min_0 {v : Nat → Int32} {i a : Nat} {e f : Nat → Int32} : t_min v i a 0 (upd e a (nI 1073741824)) f e f := ⟨fun q h => ⟨pk_un h, rfl⟩, pk_us, fun h => absurd h (Nat.lt_irrefl _)⟩
theorem t_min_y {v : Nat → Int32} {i a p : Nat} {e f e0 f0 : Nat → Int32} (h : t_min v i a p e f e0 f0) (hlt : v p < e a) : t_min v i a (p + 1) (upd e a (v p)) (upd f a (nI ((i - 1) * 9 + p))) e0 f0 := by
  obtain ⟨h1, h2, h3⟩ := h
  have hq : t_mq v (p + 1) = (v p, p) := by
    by_cases c : p = 0
    · exact t_mq_0 c
    · rw [h2, if_neg c] at hlt; exact t_mq_y c hlt
  refine ⟨fun q hq => by rw [pk_un hq, pk_un hq]; exact h1 q hq, ?_, fun _ => ?_⟩
  · rw [pk_us, if_neg (by omega), hq]
  · rw [pk_us, hq]
theorem t_min_n {v : Nat → Int32} {i a p : Nat} {e f e0 f0 : Nat → Int32} (h : t_min v i a p e f e0 f0) (hb : (v p).toInt < 1073741824) (hge : ¬ v p < e a) : t_min v i a (p + 1) e f e0 f0 := by
  obtain ⟨h1, h2, h3⟩ := h
  have c : ¬ p = 0 := fun c => by
    rw [h2, if_pos c] at hge
    apply hge
    rw [Int32.lt_iff_toInt_lt, nI_toInt (by decide)]; exact hb
  rw [if_neg c] at h2
  have hq : t_mq v (p + 1) = t_mq v p := t_mq_n c (by rw [← h2]; exact hge)
  refine ⟨h1, ?_, fun _ => ?_⟩
  · rw [if_neg (by omega), hq]; exact h2
  · rw [hq]; exact h3 (by omega)
/-- all steps were seen: the total of choice m of frame n stands there -/
theorem t_min_e {x : Nat → Int32} {th un ju ch : Int32} {n m p : Nat} {e f e0 f0 : Nat → Int32} {w : Int32} (hn : 0 < n) (hp : p = t_CT x th (n - 1)) (hw : w = t_OW x th un n m) (hm : m < t_CT x th n) (h0 : t_mtt x th un ju ch n m e0 f0) (h : t_min (t_vv (t_CT x th) (t_LG x th) (t_OW x th un) ju ch n m) n (n * 9 + m) p e f e0 f0) : t_mtt x th un ju ch n (m + 1) (upd e (n * 9 + m) (e (n * 9 + m) + w)) f := by
  obtain ⟨h1, h2, h3⟩ := h
  have hC := (t_CT_in x th (n - 1)).1
  refine t_mtt_s hm h0 (fun q hq => by rw [pk_un hq]; exact h1 q hq) ?_ (fun _ => ?_)
  · rw [pk_us, h2, if_neg (by omega), hw]
    exact (t_tot_s hn hp hC).symm
  · rw [h3 (by omega)]
    exact congrArg (fun z => nI ((n - 1) * 9 + z)) (t_frm_s hn hp hC).symm
theorem t_min_z {x : Nat → Int32} {th un ju ch : Int32} {n m : Nat} {e f : Nat → Int32} {w : Int32} (hn : n = 0) (hw : w = t_OW x th un n m) (hm : m < t_CT x th n) (h0 : t_mtt x th un ju ch n m e f) : t_mtt x th un ju ch n (m + 1) (upd (upd e (n * 9 + m) (nI 0)) (n * 9 + m) (upd e (n * 9 + m) (nI 0) (n * 9 + m) + w)) f := by
  refine t_mtt_s hm h0 (fun q hq => by rw [pk_un hq, pk_un hq]; exact ⟨rfl, rfl⟩) ?_ (fun h => by omega)
  rw [pk_us, pk_us, hw]
  exact (t_tot_0 hn).symm
/-- the way back along the track -/
theorem t_mbv0 {x : Nat → Int32} {th un ju ch : Int32} {F : Nat} : nI ((F - 1) * 9 + (t_mn (fun c => t_tot (t_CT x th) (t_LG x th) (t_OW x th un) ju ch (F - 1) c) (t_CT x th (F - 1) - 1)).2) = nI ((F - 1) * 9 + t_pt (t_CT x th) (t_LG x th) (t_OW x th un) ju ch F (F - F)) := by
  rw [Nat.sub_self]; rfl
theorem t_mbv {x : Nat → Int32} {th un ju ch : Int32} {F g : Nat} {w : Int32} (hg : 0 < g) (hgF : g ≤ F) (h0 : 0 < g - 1) (h : w = nI ((g - 1 - 1) * 9 + t_frm (t_CT x th) (t_LG x th) (t_OW x th un) ju ch (g - 1) (t_pt (t_CT x th) (t_LG x th) (t_OW x th un) ju ch F (F - g)))) : w = nI ((g - 1 - 1) * 9 + t_pt (t_CT x th) (t_LG x th) (t_OW x th un) ju ch F (F - (g - 1))) := by
  rw [h]
  rw [show F - (g - 1) = F - g + 1 by omega]
  show _ = nI ((g - 1 - 1) * 9 + t_frm (t_CT x th) (t_LG x th) (t_OW x th un) ju ch (F - 1 - (F - g)) (t_pt (t_CT x th) (t_LG x th) (t_OW x th un) ju ch F (F - g)))
  rw [show F - 1 - (F - g) = g - 1 by omega]
