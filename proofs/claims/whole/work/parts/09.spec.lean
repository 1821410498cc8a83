/-! what the sounds' sums are -/
def t_ps (g : Nat → Int32) (k a : Nat) : Int32 := t_sum (fun j => g (k + j) * g (k + j + a)) 64
def t_gs (g : Nat → Int32) (k a : Nat) : Int32 := t_sum (fun j => (g (k + j) - g (k + j + a)) * (g (k + j) - g (k + j + a))) 64
/-- how many frames n samples make -/
def t_F (n : Nat) : Nat := if n < 128 then 0 else (n - 128) / 32 + 1
theorem t_F_lo {n : Nat} (h : n < 128) : t_F n = 0 := if_pos h
theorem t_F_hi {n : Nat} (h : 128 ≤ n) : t_F n = (n - 128) / 32 + 1 := if_neg (by omega)
theorem t_F_in {n f : Nat} (h : f < t_F n) : f * 32 + 128 ≤ n := by
  unfold t_F at h; split at h <;> omega
theorem t_F_le {n : Nat} (h : n ≤ 1024) : t_F n ≤ 29 := by
  unfold t_F; split <;> omega
theorem t_F_mono {n k : Nat} (h : n ≤ k) : t_F n ≤ t_F k := by
  unfold t_F; split <;> split <;> omega
/-- an onset by its energy -/
def t_on (g : Nat → Int32) (f : Nat) : Bool := decide (¬ t_ps g (f * 32 + 0) 0 < nI 640) && (decide (f = 0) || decide (nI 2 * t_ps g ((f - 1) * 32 + 0) 0 < t_ps g (f * 32 + 0) 0))
