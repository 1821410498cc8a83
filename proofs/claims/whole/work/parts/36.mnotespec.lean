/-! the model's notes: the frames of a note lie in a row -/
def t_isn (pa : Nat → Int32) (on : Nat → Bool) (j k : Nat) : Prop := ¬ pa k < 0 ∧ t_nn pa on (k + 1) = j + 1
section TMN
variable {pa : Nat → Int32} {on : Nat → Bool}
theorem t_nn_s (n : Nat) : t_nn pa on n ≤ t_nn pa on (n + 1) := by
  show _ ≤ (if pa n < 0 then t_nn pa on n else if t_beg pa on n = true then t_nn pa on n + 1 else t_nn pa on n)
  split
  · exact Nat.le_refl _
  · split <;> omega
theorem t_nn_mono : ∀ {n k : Nat}, k ≤ n → t_nn pa on k ≤ t_nn pa on n
  | 0, k, h => by have : k = 0 := (by omega); subst this; exact Nat.le_refl _
  | n + 1, k, h => by
    by_cases e : k = n + 1
    · subst e; exact Nat.le_refl _
    · exact Nat.le_trans (t_nn_mono (n := n) (by omega)) (t_nn_s n)
theorem t_run : ∀ n, (∀ j, j < t_nn pa on n → t_sts pa on n j < n ∧ 0 < t_lns pa on n j ∧ t_sts pa on n j + t_lns pa on n j ≤ n ∧ ∀ k, k < n → (t_isn pa on j k ↔ (t_sts pa on n j ≤ k ∧ k < t_sts pa on n j + t_lns pa on n j))) ∧ (0 < n → ¬ pa (n - 1) < 0 → t_sts pa on n (t_nn pa on n - 1) + t_lns pa on n (t_nn pa on n - 1) = n)
  | 0 => ⟨fun j h => absurd h (Nat.not_lt_zero _), fun h => absurd h (Nat.lt_irrefl _)⟩
  | n + 1 => by
    obtain ⟨h1, h2⟩ := t_run n
    by_cases hu : pa n < 0
    · have e0 : t_nn pa on (n + 1) = t_nn pa on n := t_nn_u hu
      have es : ∀ j, t_sts pa on (n + 1) j = t_sts pa on n j := fun j => t_sts_n (fun q => q.1 hu)
      have el : ∀ j, t_lns pa on (n + 1) j = t_lns pa on n j := fun j => if_neg (fun q => q.1 hu)
      refine ⟨fun j hj => ?_, fun _ q => absurd hu q⟩
      rw [e0] at hj
      obtain ⟨a1, a2, a3, a4⟩ := h1 j hj
      rw [es, el]
      refine ⟨by omega, a2, by omega, fun k hk => ?_⟩
      by_cases c : k = n
      · subst c; exact ⟨fun q => absurd hu q.1, fun q => by omega⟩
      · exact a4 k (by omega)
    · by_cases hb : t_beg pa on n = true
      · have e0 : t_nn pa on (n + 1) = t_nn pa on n + 1 := t_nn_b hu hb
        have es : t_sts pa on (n + 1) (t_nn pa on n) = n := t_sts_b hu hb
        have el : t_lns pa on (n + 1) (t_nn pa on n) = 1 := by
          show (if ¬ pa n < 0 ∧ t_nn pa on n = t_nn pa on (n + 1) - 1 then n + 1 - t_sts pa on (n + 1) (t_nn pa on n) else t_lns pa on n (t_nn pa on n)) = 1
          rw [if_pos ⟨hu, by omega⟩, es]; omega
        refine ⟨fun j hj => ?_, fun _ _ => by rw [e0, Nat.add_sub_cancel, es, el]⟩
        by_cases cj : j = t_nn pa on n
        · subst cj
          rw [es, el]
          refine ⟨by omega, by omega, by omega, fun k hk => ?_⟩
          by_cases c : k = n
          · subst c; exact ⟨fun _ => ⟨by omega, by omega⟩, fun _ => ⟨hu, e0⟩⟩
          · have := t_nn_mono (pa := pa) (on := on) (n := n) (k := k + 1) (by omega)
            exact ⟨fun q => by have := q.2; omega, fun q => by omega⟩
        · have es2 : t_sts pa on (n + 1) j = t_sts pa on n j := t_sts_n (fun q => cj q.2.2)
          have el2 : t_lns pa on (n + 1) j = t_lns pa on n j := if_neg (fun q => by have := q.2; omega)
          obtain ⟨a1, a2, a3, a4⟩ := h1 j (by omega)
          rw [es2, el2]
          refine ⟨by omega, a2, by omega, fun k hk => ?_⟩
          by_cases c : k = n
          · subst c; exact ⟨fun q => by have := q.2; omega, fun q => by omega⟩
          · exact a4 k (by omega)
      · have hb : t_beg pa on n = false := by cases hh : t_beg pa on n; rfl; exact absurd hh hb
        obtain ⟨h0, h3⟩ := t_beg_n hb
        have e0 : t_nn pa on (n + 1) = t_nn pa on n := t_nn_c hu hb
        have hp := t_nn_pos (on := on) hu
        have h4 := h2 h0 (by rw [h3]; exact hu)
        have es : ∀ j, t_sts pa on (n + 1) j = t_sts pa on n j := fun j => t_sts_n (fun q => by rw [hb] at q; exact Bool.noConfusion q.2.1)
        have el : t_lns pa on (n + 1) (t_nn pa on n - 1) = n + 1 - t_sts pa on n (t_nn pa on n - 1) := by
          show (if ¬ pa n < 0 ∧ t_nn pa on n - 1 = t_nn pa on (n + 1) - 1 then n + 1 - t_sts pa on (n + 1) (t_nn pa on n - 1) else t_lns pa on n (t_nn pa on n - 1)) = _
          rw [if_pos ⟨hu, by omega⟩, es]
        obtain ⟨b1, b2, b3, b4⟩ := h1 (t_nn pa on n - 1) (by omega)
        refine ⟨fun j hj => ?_, fun _ _ => by rw [e0, es, el]; omega⟩
        by_cases cj : j = t_nn pa on n - 1
        · subst cj
          rw [es, el]
          refine ⟨by omega, by omega, by omega, fun k hk => ?_⟩
          by_cases c : k = n
          · subst c; exact ⟨fun _ => ⟨by omega, by omega⟩, fun _ => ⟨hu, by omega⟩⟩
          · have := b4 k (by omega)
            exact this.trans ⟨fun q => ⟨q.1, by omega⟩, fun q => ⟨q.1, by omega⟩⟩
        · have el2 : t_lns pa on (n + 1) j = t_lns pa on n j := if_neg (fun q => by have := q.2; omega)
          obtain ⟨a1, a2, a3, a4⟩ := h1 j (by omega)
          rw [es, el2]
          refine ⟨by omega, a2, by omega, fun k hk => ?_⟩
          by_cases c : k = n
          · subst c; exact ⟨fun q => by have := q.2; omega, fun q => by omega⟩
          · exact a4 k (by omega)
end TMN
