/-! periods, and the nearest pattern -/
def t_clip (x : Int32) : Int32 := if (-32) < (if x < nI 32 then x else nI 32) then (if x < nI 32 then x else nI 32) else -32
/-- the period of lag j, of the differences a, b, c at j - 1, j, j + 1 -/
def t_per (a b c : Int32) (j : Nat) : Int32 := nI (64 * j) + t_clip (t_quo (nI 32 * (a - c)).toInt64 (a - nI 2 * b + c).toInt64).toInt32
def t_mnL (v : Nat → Int64) : Nat → Int64 × Nat
  | 0 => (v 0, 0)
  | n + 1 => if v (n + 1) < (t_mnL v n).1 then (v (n + 1), n + 1) else t_mnL v n
def t_mqL (v : Nat → Int64) : Nat → Int64 × Nat
  | 0 => (0, 0)
  | n + 1 => t_mnL v n
theorem t_mqL_0 {v : Nat → Int64} {i : Nat} (h : i = 0) : t_mqL v (i + 1) = (v i, i) := by subst h; rfl
theorem t_mqL_y {v : Nat → Int64} {i : Nat} (h0 : ¬ i = 0) (h : v i < (t_mqL v i).1) : t_mqL v (i + 1) = (v i, i) := by
  obtain ⟨j, rfl⟩ : ∃ j, i = j + 1 := ⟨i - 1, by omega⟩
  exact if_pos h
theorem t_mqL_n {v : Nat → Int64} {i : Nat} (h0 : ¬ i = 0) (h : ¬ v i < (t_mqL v i).1) : t_mqL v (i + 1) = t_mqL v i := by
  obtain ⟨j, rfl⟩ : ∃ j, i = j + 1 := ⟨i - 1, by omega⟩
  exact if_neg h
theorem t_mnL_le (v : Nat → Int64) : ∀ n, (t_mnL v n).2 ≤ n
  | 0 => Nat.le_refl _
  | n + 1 => by
    have := t_mnL_le v n
    unfold t_mnL; split
    · exact Nat.le_refl _
    · omega
/-- how far pattern q of the temperament tm and the base ba is from the period p, times 10000 and 64 -/
def t_far (ba : Int32) (tm : Nat) (p : Int32) (q : Nat) : Int64 := if 0 < ((ba.toInt64 * (t_parts (tm * 12 + q % 12)).toInt64) <<< ((nI (6 - q / 12)).toInt64 &&& 63)) - ((p.toInt64 * 10000) <<< ((nI 6).toInt64 &&& 63)) then ((ba.toInt64 * (t_parts (tm * 12 + q % 12)).toInt64) <<< ((nI (6 - q / 12)).toInt64 &&& 63)) - ((p.toInt64 * 10000) <<< ((nI 6).toInt64 &&& 63)) else -(((ba.toInt64 * (t_parts (tm * 12 + q % 12)).toInt64) <<< ((nI (6 - q / 12)).toInt64 &&& 63)) - ((p.toInt64 * 10000) <<< ((nI 6).toInt64 &&& 63)))
def t_near (ba : Int32) (tm : Nat) (p : Int32) : Nat := (t_mqL (t_far ba tm p) 84).2
theorem t_near_lt (ba : Int32) (tm : Nat) (p : Int32) : t_near ba tm p < 84 := by
  have := t_mnL_le (t_far ba tm p) 83
  unfold t_near; show (t_mnL (t_far ba tm p) 83).2 < 84; omega
/-- the period and the pattern of a frame of lag j, d: its differences -/
def t_pe (d : Nat → Int32) (j : Nat) : Int32 := if j = 0 then nI 0 else t_per (d (j - 1)) (d j) (d (j + 1)) j
def t_pa (ba : Int32) (tm : Nat) (d : Nat → Int32) (j : Nat) : Int32 := if j = 0 then -1 else nI (t_near ba tm (t_pe d j))
def t_nm (q : Int32) : Int32 := if q < 0 then -1 else q - q / nI 12 * nI 12
def t_oc (q : Int32) : Int32 := if q < 0 then -1 else q / nI 12
/-- the rows hold periods and patterns of the frames below n, lg: the track -/
def t_pit (x : Nat → Int32) (ba : Int32) (tm : Nat) (lg : Nat → Nat) (n : Nat) (pe pa : Nat → Int32) : Prop := ∀ k, k < n → pe k = t_pe (t_df x k) (lg k) ∧ pa k = t_pa ba tm (t_df x k) (lg k)
theorem t_pit_s {x : Nat → Int32} {ba : Int32} {tm : Nat} {lg : Nat → Nat} {n : Nat} {pe pa : Nat → Int32} {a b : Int32} (h : t_pit x ba tm lg n pe pa) (ha : a = t_pe (t_df x n) (lg n)) (hb : b = t_pa ba tm (t_df x n) (lg n)) : t_pit x ba tm lg (n + 1) (upd pe n a) (upd pa n b) := by
  intro k hk
  by_cases e : k = n
  · subst e; rw [pk_us, pk_us]; exact ⟨ha, hb⟩
  · rw [pk_un e, pk_un e]; exact h k (by omega)
