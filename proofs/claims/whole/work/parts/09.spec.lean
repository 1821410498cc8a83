/-! what the sounds' sums are -/
def t_ps (g : Nat → Int32) (k a : Nat) : Int32 := t_sum (fun j => g (k + j) * g (k + j + a)) 64
def t_gs (g : Nat → Int32) (k a : Nat) : Int32 := t_sum (fun j => (g (k + j) - g (k + j + a)) * (g (k + j) - g (k + j + a))) 64
/-- how many frames n samples make -/
def t_F (n : Nat) : Nat := if n < 128 then 0 else (n - 128) / 32 + 1
theorem t_F_lo {n : Nat} (h : n < 128) : t_F n = 0 := if_pos h
theorem t_F_hi {n : Nat} (h : 128 ≤ n) : t_F n = (n - 128) / 32 + 1 := if_neg (by omega)
theorem t_F_in {n f : Nat} (h : f < t_F n) : f * 32 + 128 ≤ n := by
  unfold t_F at h; split at h <;> omega
theorem t_F_le {n : Nat} (h : n ≤ 1024) : t_F n ≤ 29 := by
  unfold t_F; split <;> omega
theorem t_F_mono {n k : Nat} (h : n ≤ k) : t_F n ≤ t_F k := by
  unfold t_F; split <;> split <;> omega
/-- an onset by its energy -/
def t_on (g : Nat → Int32) (f : Nat) : Bool := decide (¬ t_ps g (f * 32 + 0) 0 < nI 640) && (decide (f = 0) || decide (nI 2 * t_ps g ((f - 1) * 32 + 0) 0 < t_ps g (f * 32 + 0) 0))
theorem t_on_lo {g : Nat → Int32} {f : Nat} (h : t_ps g (f * 32 + 0) 0 < nI 640) : t_on g f = false := by
  unfold t_on; rw [decide_eq_false (fun q => q h)]; rfl
theorem t_on_0 {g : Nat → Int32} {f : Nat} (h : ¬ t_ps g (f * 32 + 0) 0 < nI 640) (h0 : f = 0) : t_on g f = true := by
  unfold t_on; rw [decide_eq_true h, decide_eq_true h0]; rfl
theorem t_on_le {g : Nat → Int32} {f : Nat} (h0 : ¬ f = 0) (h1 : t_ps g (f * 32 + 0) 0 ≤ nI 2 * t_ps g ((f - 1) * 32 + 0) 0) : t_on g f = false := by
  unfold t_on; rw [decide_eq_false h0, decide_eq_false (p := nI 2 * _ < _) (by rw [Int32.le_iff_toInt_le] at h1; rw [Int32.lt_iff_toInt_lt]; omega)]; exact Bool.and_false _
theorem t_on_gt {g : Nat → Int32} {f : Nat} (h : ¬ t_ps g (f * 32 + 0) 0 < nI 640) (h1 : ¬ t_ps g (f * 32 + 0) 0 ≤ nI 2 * t_ps g ((f - 1) * 32 + 0) 0) : t_on g f = true := by
  unfold t_on; rw [decide_eq_true h, decide_eq_true (p := nI 2 * _ < _) (by rw [Int32.le_iff_toInt_le] at h1; rw [Int32.lt_iff_toInt_lt]; omega), Bool.or_true]; rfl
/-! mean differences, as fractions; d: the differences of a frame by lag, s: their sums -/
def t_quo (a b : Int64) : Int64 := if 0 < b then a / b else 0
def t_top (z : Int32) (j : Nat) (S : Int32) : Int64 := if 0 < S then (nI j).toInt64 * z.toInt64 else 1
def t_bot (S : Int32) : Int64 := if 0 < S then S.toInt64 else 1
def t_r65 (F : Nat → Int32) (k : Nat) : Nat → Int32 := fun j => F (k * 65 + j)
def t_tp (d s : Nat → Int32) (j : Nat) : Int64 := t_top (d j) j (s j)
def t_bt (s : Nat → Int32) (j : Nat) : Int64 := t_bot (s j)
def t_less (d s : Nat → Int32) (j i : Nat) : Bool := decide (t_tp d s j * t_bt s i < t_tp d s i * t_bt s j)
def t_blw (d s : Nat → Int32) (p : Int32) (j : Nat) : Bool := decide (100 * t_tp d s j < p.toInt64 * t_bt s j)
def t_mean (d s : Nat → Int32) (j : Nat) : Int32 := (t_quo (1000 * t_tp d s j) (t_bt s j)).toInt32
def t_cand (d s : Nat → Int32) (p : Int32) (j : Nat) : Bool := t_blw d s p j && (t_less d s j (j - 1) && !t_less d s (j + 1) j)
theorem t_cand_1 {d s : Nat → Int32} {p : Int32} {j : Nat} (h : t_blw d s p j = false) : t_cand d s p j = false := by unfold t_cand; rw [h]; rfl
theorem t_cand_2 {d s : Nat → Int32} {p : Int32} {j : Nat} (h : t_less d s j (j - 1) = false) : t_cand d s p j = false := by unfold t_cand; rw [h]; exact Bool.and_false _
theorem t_cand_3 {d s : Nat → Int32} {p : Int32} {j : Nat} (h : t_less d s (j + 1) j = true) : t_cand d s p j = false := by unfold t_cand; rw [h, Bool.not_true, Bool.and_false, Bool.and_false]
theorem t_cand_4 {d s : Nat → Int32} {p : Int32} {j : Nat} (h1 : t_blw d s p j = true) (h2 : t_less d s j (j - 1) = true) (h3 : t_less d s (j + 1) j = false) : t_cand d s p j = true := by unfold t_cand; rw [h1, h2, h3]; rfl
/-- the difference of a frame at a lag, and the sum of those at 1 .. j -/
def t_df (x : Nat → Int32) (k j : Nat) : Int32 := t_gs x (k * 32) j
def t_sm (x : Nat → Int32) (k j : Nat) : Int32 := t_sum (fun i => t_df x k (i + 1)) j
/-- the rows f, g are f0, g0, but that those of frame k are measured up to lag i -/
def t_msd (x : Nat → Int32) (k i : Nat) (f0 g0 f g : Nat → Int32) : Prop := (∀ q, ¬ (k * 65 + 1 ≤ q ∧ q ≤ k * 65 + i) → f q = f0 q ∧ g q = g0 q) ∧ ∀ j, 1 ≤ j → j ≤ i → f (k * 65 + j) = t_df x k j ∧ g (k * 65 + j) = t_sm x k j
theorem t_msd_0 {x : Nat → Int32} {k : Nat} {f g : Nat → Int32} : t_msd x k 0 f g f g := ⟨fun _ _ => ⟨rfl, rfl⟩, fun j h1 h2 => by omega⟩
theorem t_msd_s {x : Nat → Int32} {k i : Nat} {f0 g0 f g : Nat → Int32} (h : t_msd x k i f0 g0 f g) : t_msd x k (i + 1) f0 g0 (upd f (k * 65 + (i + 1)) (t_df x k (i + 1))) (upd g (k * 65 + (i + 1)) (t_sm x k (i + 1))) := by
  refine ⟨fun q hq => ?_, fun j h1 h2 => ?_⟩
  · have hn : q ≠ k * 65 + (i + 1) := by omega
    rw [pk_un hn, pk_un hn]
    exact h.1 q (by omega)
  · by_cases e : j = i + 1
    · subst e; rw [pk_us, pk_us]; exact ⟨rfl, rfl⟩
    · have hn : k * 65 + j ≠ k * 65 + (i + 1) := by omega
      rw [pk_un hn, pk_un hn]
      exact h.2 j h1 (by omega)
/-- the rows hold the differences and sums of the frames below n -/
def t_okd (x : Nat → Int32) (n : Nat) (f g : Nat → Int32) : Prop := ∀ k, k < n → ∀ j, 1 ≤ j → j ≤ 64 → f (k * 65 + j) = t_df x k j ∧ g (k * 65 + j) = t_sm x k j
theorem t_okd_s {x : Nat → Int32} {n : Nat} {f g f2 g2 : Nat → Int32} (h : t_okd x n f g) (h2 : t_msd x n 64 f g f2 g2) : t_okd x (n + 1) f2 g2 := by
  intro k hk j h1 h3
  by_cases e : k = n
  · subst e; exact h2.2 j h1 h3
  · obtain ⟨e1, e2⟩ := h2.1 (k * 65 + j) (by omega)
    rw [e1, e2]; exact h k (by omega) j h1 h3
/-- at most eight of the lags from 2 on with P, the lowest -/
def t_cl (P : Nat → Bool) : Nat → List Nat
  | 0 => []
  | n + 1 => if (t_cl P n).length < 8 ∧ P (n + 2) = true then t_cl P n ++ [n + 2] else t_cl P n
theorem t_cl_y {P : Nat → Bool} {n : Nat} (h : (t_cl P n).length < 8) (h2 : P (n + 2) = true) : t_cl P (n + 1) = t_cl P n ++ [n + 2] := if_pos ⟨h, h2⟩
theorem t_cl_n {P : Nat → Bool} {n : Nat} (h2 : P (n + 2) = false) : t_cl P (n + 1) = t_cl P n := if_neg (fun q => by rw [h2] at q; cases q.2)
theorem t_cl_le (P : Nat → Bool) : ∀ n, (t_cl P n).length ≤ 8
  | 0 => Nat.zero_le _
  | n + 1 => by
    have := t_cl_le P n
    unfold t_cl; split
    · rw [List.length_append]; simp; omega
    · exact this
theorem t_cl_full {P : Nat → Bool} {i : Nat} (h : 8 ≤ (t_cl P i).length) : ∀ n, t_cl P (i + n) = t_cl P i
  | 0 => rfl
  | n + 1 => by
    have e := t_cl_full h n
    show (if (t_cl P (i + n)).length < 8 ∧ P (i + n + 2) = true then t_cl P (i + n) ++ [i + n + 2] else t_cl P (i + n)) = _
    rw [if_neg (by rw [e]; omega), e]
theorem t_cl_congr {P R : Nat → Bool} : ∀ {n : Nat}, (∀ j, 2 ≤ j → j < n + 2 → P j = R j) → t_cl P n = t_cl R n
  | 0, _ => rfl
  | n + 1, h => by
    have e := t_cl_congr (n := n) (fun j h1 h2 => h j h1 (by omega))
    unfold t_cl; rw [e, h (n + 2) (by omega) (by omega)]
/-- the lags of a frame's candidates -/
def t_cs (d s : Nat → Int32) (th : Int32) : List Nat := t_cl (t_cand d s th) 62
theorem t_cs_congr {d s d2 s2 : Nat → Int32} {th : Int32} (h : ∀ j, 1 ≤ j → j ≤ 64 → d j = d2 j ∧ s j = s2 j) : t_cs d s th = t_cs d2 s2 th := by
  refine t_cl_congr (fun j h1 h2 => ?_)
  have e1 := h j (by omega) (by omega)
  have e2 := h (j - 1) (by omega) (by omega)
  have e3 := h (j + 1) (by omega) (by omega)
  unfold t_cand t_blw t_less t_tp t_bt
  rw [e1.1, e1.2, e2.1, e2.2, e3.1, e3.2]
/-- each of them lies in 2 .. 63 and fulfils P -/
theorem t_cl_in {P : Nat → Bool} : ∀ {n : Nat} {t : Nat}, t ∈ t_cl P n → 2 ≤ t ∧ t < n + 2 ∧ P t = true
  | 0, t, h => by cases h
  | n + 1, t, h => by
    unfold t_cl at h; split at h
    · rename_i hc
      rcases List.mem_append.mp h with q | q
      · have := t_cl_in q; exact ⟨this.1, by omega, this.2.2⟩
      · rw [List.mem_singleton] at q; subst q; exact ⟨by omega, by omega, hc.2⟩
    · have := t_cl_in h; exact ⟨this.1, by omega, this.2.2⟩
/-- the rows of lags and costs hold the list L for frame k -/
def t_lst (mn : Nat → Int32) (k : Nat) (L : List Nat) (la co : Nat → Int32) : Prop := ∀ c, c < L.length → la (k * 9 + (c + 1)) = nI (L.getD c 0) ∧ co (k * 9 + (c + 1)) = mn (L.getD c 0)
def t_chd (mn : Nat → Int32) (k : Nat) (L : List Nat) (la0 co0 la co : Nat → Int32) : Prop := (∀ q, ¬ (k * 9 + 1 ≤ q ∧ q ≤ k * 9 + 8) → la q = la0 q ∧ co q = co0 q) ∧ t_lst mn k L la co
theorem t_chd_0 {mn : Nat → Int32} {k : Nat} {la co : Nat → Int32} : t_chd mn k [] la co la co := ⟨fun _ _ => ⟨rfl, rfl⟩, fun c h => by cases h⟩
theorem t_chd_s {mn : Nat → Int32} {k t : Nat} {L : List Nat} {la0 co0 la co : Nat → Int32} (h : t_chd mn k L la0 co0 la co) (hl : L.length < 8) : t_chd mn k (L ++ [t]) la0 co0 (upd la (k * 9 + (L.length + 1)) (nI t)) (upd co (k * 9 + (L.length + 1)) (mn t)) := by
  refine ⟨fun q hq => ?_, fun c hc => ?_⟩
  · have hn : q ≠ k * 9 + (L.length + 1) := by omega
    rw [pk_un hn, pk_un hn]; exact h.1 q hq
  · rw [List.length_append] at hc
    by_cases e : c = L.length
    · subst e
      rw [pk_us, pk_us]
      have : (L ++ [t]).getD L.length 0 = t := by simp [List.getD]
      rw [this]; exact ⟨rfl, rfl⟩
    · have h3 : c < L.length := by simp at hc; omega
      have hn : k * 9 + (c + 1) ≠ k * 9 + (L.length + 1) := by omega
      rw [pk_un hn, pk_un hn]
      have : (L ++ [t]).getD c 0 = L.getD c 0 := by simp [List.getD, List.getElem?_append_left h3]
      rw [this]; exact h.2 c h3
/-- the choices' rows hold the candidates of the frames below n (x: the sound) -/
def t_okc (x : Nat → Int32) (th : Int32) (n : Nat) (cn la co : Nat → Int32) : Prop := ∀ k, k < n → cn k = nI (t_cs (t_df x k) (t_sm x k) th).length ∧ t_lst (t_mean (t_df x k) (t_sm x k)) k (t_cs (t_df x k) (t_sm x k) th) la co
/-- the choice 0 of a frame has the lag 0 -/
def t_z0 (la : Nat → Int32) : Prop := ∀ k, k < 29 → la (k * 9 + 0) = nI 0
theorem t_z0_s {la la2 co co2 : Nat → Int32} {k : Nat} (h : t_z0 la) (h2 : ∀ q, ¬ (k * 9 + 1 ≤ q ∧ q ≤ k * 9 + 8) → la2 q = la q ∧ co2 q = co q) : t_z0 la2 := fun i hi => by rw [(h2 (i * 9 + 0) (by omega)).1]; exact h i hi
theorem t_mean_congr {d s d2 s2 : Nat → Int32} {j : Nat} (h1 : d j = d2 j) (h2 : s j = s2 j) : t_mean d s j = t_mean d2 s2 j := by
  unfold t_mean t_tp t_bt; rw [h1, h2]
theorem t_cs_len (d s : Nat → Int32) (th : Int32) : (t_cs d s th).length ≤ 8 := t_cl_le _ _
theorem t_cs_in {d s : Nat → Int32} {th : Int32} {c : Nat} (h : c < (t_cs d s th).length) : 2 ≤ (t_cs d s th).getD c 0 ∧ (t_cs d s th).getD c 0 ≤ 63 ∧ t_cand d s th ((t_cs d s th).getD c 0) = true := by
  have e : (t_cs d s th).getD c 0 = (t_cs d s th)[c] := by simp [List.getD, h]
  rw [e]
  have := t_cl_in (P := t_cand d s th) (n := 62) (List.getElem_mem h)
  exact ⟨this.1, by omega, this.2.2⟩
theorem t_okc_s {x : Nat → Int32} {th : Int32} {n k : Nat} {f g cn la co cn2 la2 co2 : Nat → Int32} (hd : t_okd x n f g) (hk : k < n) (h : t_okc x th k cn la co) (h1 : cn2 = upd cn k (nI (t_cs (t_r65 f k) (t_r65 g k) th).length)) (h2 : t_chd (t_mean (t_r65 f k) (t_r65 g k)) k (t_cs (t_r65 f k) (t_r65 g k) th) la co la2 co2) : t_okc x th (k + 1) cn2 la2 co2 := by
  intro i hi
  subst h1
  by_cases e : i = k
  · subst e
    have ec : t_cs (t_r65 f i) (t_r65 g i) th = t_cs (t_df x i) (t_sm x i) th := t_cs_congr (fun j a b => hd i hk j a b)
    rw [ec] at h2
    refine ⟨by rw [pk_us, ec], fun c hc => ?_⟩
    obtain ⟨q1, q2⟩ := h2.2 c hc
    refine ⟨q1, q2.trans ?_⟩
    obtain ⟨b1, b2, -⟩ := t_cs_in hc
    generalize (t_cs (t_df x i) (t_sm x i) th).getD c 0 = j at b1 b2 ⊢
    obtain ⟨z1, z2⟩ := hd i hk j (by omega) (by omega)
    exact t_mean_congr (d := t_r65 f i) (s := t_r65 g i) (j := j) z1 z2
  · obtain ⟨q1, q2⟩ := h i (by omega)
    refine ⟨by rw [pk_un e]; exact q1, fun c hc => ?_⟩
    have := t_cs_len (t_df x i) (t_sm x i) th
    obtain ⟨e1, e2⟩ := h2.1 (i * 9 + (c + 1)) (by omega)
    rw [e1, e2]
    exact q2 c hc
