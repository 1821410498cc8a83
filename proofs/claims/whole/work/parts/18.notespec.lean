/-! notes: pa, the frames' patterns (below 0: unvoiced); on, their onsets -/
def t_beg (pa : Nat → Int32) (on : Nat → Bool) (k : Nat) : Bool := if k = 0 then true else if pa (k - 1) = pa k then on k && !on (k - 1) else true
/-- how many notes the first n frames make; where note j starts, how long it is; the note of a frame -/
def t_nn (pa : Nat → Int32) (on : Nat → Bool) : Nat → Nat
  | 0 => 0
  | n + 1 => if pa n < 0 then t_nn pa on n else if t_beg pa on n = true then t_nn pa on n + 1 else t_nn pa on n
def t_sts (pa : Nat → Int32) (on : Nat → Bool) : Nat → Nat → Nat
  | 0, _ => 0
  | n + 1, j => if ¬ pa n < 0 ∧ t_beg pa on n = true ∧ j = t_nn pa on n then n else t_sts pa on n j
def t_lns (pa : Nat → Int32) (on : Nat → Bool) : Nat → Nat → Nat
  | 0, _ => 0
  | n + 1, j => if ¬ pa n < 0 ∧ j = t_nn pa on (n + 1) - 1 then n + 1 - t_sts pa on (n + 1) j else t_lns pa on n j
def t_of (pa : Nat → Int32) (on : Nat → Bool) (k : Nat) : Int32 := if pa k < 0 then -1 else nI (t_nn pa on (k + 1) - 1)
section TNN
variable {pa : Nat → Int32} {on : Nat → Bool}
theorem t_nn_u {n : Nat} (h : pa n < 0) : t_nn pa on (n + 1) = t_nn pa on n := if_pos h
theorem t_nn_b {n : Nat} (h : ¬ pa n < 0) (h2 : t_beg pa on n = true) : t_nn pa on (n + 1) = t_nn pa on n + 1 := by
  show (if pa n < 0 then _ else _) = _; rw [if_neg h, if_pos h2]
theorem t_nn_c {n : Nat} (h : ¬ pa n < 0) (h2 : t_beg pa on n = false) : t_nn pa on (n + 1) = t_nn pa on n := by
  show (if pa n < 0 then _ else _) = _; rw [if_neg h, if_neg (by rw [h2]; exact Bool.false_ne_true)]
theorem t_nn_le : ∀ n, t_nn pa on n ≤ n
  | 0 => Nat.le_refl _
  | n + 1 => by
    have := t_nn_le n
    unfold t_nn; split
    · omega
    · split <;> omega
theorem t_beg_n {n : Nat} (h : t_beg pa on n = false) : 0 < n ∧ pa (n - 1) = pa n := by
  unfold t_beg at h
  by_cases e : n = 0
  · rw [if_pos e] at h; cases h
  · rw [if_neg e] at h
    by_cases q : pa (n - 1) = pa n
    · exact ⟨by omega, q⟩
    · rw [if_neg q] at h; cases h
theorem t_nn_pos : ∀ {n : Nat}, ¬ pa n < 0 → 1 ≤ t_nn pa on (n + 1)
  | n, h => by
    by_cases hb : t_beg pa on n = true
    · rw [t_nn_b h hb]; omega
    · have hb : t_beg pa on n = false := by cases hh : t_beg pa on n; rfl; exact absurd hh hb
      obtain ⟨h0, h1⟩ := t_beg_n hb
      obtain ⟨k, rfl⟩ : ∃ k, n = k + 1 := ⟨n - 1, by omega⟩
      rw [t_nn_c h hb]
      exact t_nn_pos (n := k) (by rw [← h1] at h; exact h)
theorem t_sts_b {n : Nat} (h : ¬ pa n < 0) (h2 : t_beg pa on n = true) : t_sts pa on (n + 1) (t_nn pa on n) = n := if_pos ⟨h, h2, rfl⟩
theorem t_sts_n {n j : Nat} (h : ¬ (¬ pa n < 0 ∧ t_beg pa on n = true ∧ j = t_nn pa on n)) : t_sts pa on (n + 1) j = t_sts pa on n j := if_neg h
theorem t_sts_le : ∀ n j, t_sts pa on n j ≤ n - 1
  | 0, _ => Nat.le_refl _
  | n + 1, j => by
    have := t_sts_le n j
    unfold t_sts; split <;> omega
/-- the rows hold starts and lengths of the notes, and the notes of the frames, of n frames -/
def t_nts (pa : Nat → Int32) (on : Nat → Bool) (n : Nat) (st ln of : Nat → Int32) : Prop := (∀ j, j < t_nn pa on n → st j = nI (t_sts pa on n j) ∧ ln j = nI (t_lns pa on n j)) ∧ ∀ k, k < n → of k = t_of pa on k
theorem t_nts_0 {st ln of : Nat → Int32} : t_nts pa on 0 st ln of := ⟨fun j h => absurd h (Nat.not_lt_zero _), fun k h => absurd h (Nat.not_lt_zero _)⟩
theorem t_nts_u {n : Nat} {st ln of : Nat → Int32} (hp : pa n < 0) (h : t_nts pa on n st ln of) : t_nts pa on (n + 1) st ln (upd of n (-1)) := by
  refine ⟨fun j hj => ?_, fun k hk => ?_⟩
  · rw [t_nn_u hp] at hj
    rw [t_sts_n (fun q => q.1 hp), show t_lns pa on (n + 1) j = t_lns pa on n j from if_neg (fun q => q.1 hp)]
    exact h.1 j hj
  · by_cases e : k = n
    · subst e; rw [pk_us]; exact (if_pos hp).symm
    · rw [pk_un e]; exact h.2 k (by omega)
/-- the current note's start, at a voiced frame -/
theorem t_nts_sb {n : Nat} {st ln of : Nat → Int32} (hp : ¬ pa n < 0) (hb : t_beg pa on n = true) : upd st (t_nn pa on n) (nI n) (t_nn pa on (n + 1) - 1) = nI (t_sts pa on (n + 1) (t_nn pa on (n + 1) - 1)) := by
  rw [t_nn_b hp hb, Nat.add_sub_cancel, pk_us, t_sts_b hp hb]
theorem t_nts_sc {n : Nat} {st ln of : Nat → Int32} (hp : ¬ pa n < 0) (hb : t_beg pa on n = false) (h : t_nts pa on n st ln of) : st (t_nn pa on (n + 1) - 1) = nI (t_sts pa on (n + 1) (t_nn pa on (n + 1) - 1)) := by
  have h1 := t_nn_pos (on := on) hp
  have h2 := t_nn_c hp hb
  rw [t_sts_n (fun q => by rw [hb] at q; cases q.2.1)]
  exact (h.1 _ (by omega)).1
theorem t_nts_v {n : Nat} {st st2 ln of : Nat → Int32} (hp : ¬ pa n < 0) (h : t_nts pa on n st ln of) (hs : st2 (t_nn pa on (n + 1) - 1) = nI (t_sts pa on (n + 1) (t_nn pa on (n + 1) - 1))) (hk : ∀ j, j < t_nn pa on n → st2 j = st j) : t_nts pa on (n + 1) st2 (upd ln (t_nn pa on (n + 1) - 1) (nI (n + 1 - t_sts pa on (n + 1) (t_nn pa on (n + 1) - 1)))) (upd of n (nI (t_nn pa on (n + 1) - 1))) := by
  refine ⟨fun j hj => ?_, fun k hk2 => ?_⟩
  · by_cases e : j = t_nn pa on (n + 1) - 1
    · subst e
      refine ⟨hs, ?_⟩
      rw [pk_us, show t_lns pa on (n + 1) (t_nn pa on (n + 1) - 1) = _ from if_pos ⟨hp, rfl⟩]
    · have h9 : t_nn pa on (n + 1) = t_nn pa on n ∨ t_nn pa on (n + 1) = t_nn pa on n + 1 := by
        cases hb : t_beg pa on n
        · exact Or.inl (t_nn_c hp hb)
        · exact Or.inr (t_nn_b hp hb)
      have hj2 : j < t_nn pa on n := by omega
      rw [pk_un e, hk j hj2, t_sts_n (fun q => by omega), show t_lns pa on (n + 1) j = t_lns pa on n j from if_neg (fun q => e q.2)]
      exact h.1 j hj2
  · by_cases e : k = n
    · subst e; rw [pk_us]; exact (if_neg hp).symm
    · rw [pk_un e]; exact h.2 k (by omega)
theorem t_nts_vb {n : Nat} {st ln of : Nat → Int32} (hp : ¬ pa n < 0) (hb : t_beg pa on n = true) (h : t_nts pa on n st ln of) : t_nts pa on (n + 1) (upd st (t_nn pa on n) (nI n)) (upd ln (t_nn pa on (n + 1) - 1) (nI (n + 1 - t_sts pa on (n + 1) (t_nn pa on (n + 1) - 1)))) (upd of n (nI (t_nn pa on (n + 1) - 1))) :=
  t_nts_v hp h (t_nts_sb (ln := ln) (of := of) hp hb) (fun j hj => pk_un (by omega))
theorem t_nts_vc {n : Nat} {st ln of : Nat → Int32} (hp : ¬ pa n < 0) (hb : t_beg pa on n = false) (h : t_nts pa on n st ln of) : t_nts pa on (n + 1) st (upd ln (t_nn pa on (n + 1) - 1) (nI (n + 1 - t_sts pa on (n + 1) (t_nn pa on (n + 1) - 1)))) (upd of n (nI (t_nn pa on (n + 1) - 1))) :=
  t_nts_v hp h (t_nts_sc hp hb h) (fun j hj => rfl)
theorem t_beg_0 {n : Nat} (h : n = 0) : t_beg pa on n = true := if_pos h
theorem t_beg_1 {n : Nat} (h0 : ¬ n = 0) (h : ¬ pa (n - 1) = pa n) : t_beg pa on n = true := by unfold t_beg; rw [if_neg h0, if_neg h]
theorem t_beg_2 {n : Nat} (h0 : ¬ n = 0) (h : pa (n - 1) = pa n) : t_beg pa on n = (on n && !on (n - 1)) := by unfold t_beg; rw [if_neg h0, if_pos h]
theorem t_nge {x : Int32} (h : 0 ≤ x) : ¬ x < 0 := t_nlt32 h
end TNN
theorem t_neg {x : Int32} (h : ¬ 0 ≤ x) : x < 0 := t_nle32 h
