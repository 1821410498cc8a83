/-! the tracker's answers, of its sound x and its settings -/
def t_CT (x : Nat → Int32) (th : Int32) (k : Nat) : Nat := (t_cs (t_df x k) (t_sm x k) th).length + 1
def t_LG (x : Nat → Int32) (th : Int32) (k c : Nat) : Nat := if c = 0 then 0 else (t_cs (t_df x k) (t_sm x k) th).getD (c - 1) 0
def t_OW (x : Nat → Int32) (th un : Int32) (k c : Nat) : Int32 := if c = 0 then un else t_mean (t_df x k) (t_sm x k) (t_LG x th k c)
def t_LX (x : Nat → Int32) (th un ju ch : Int32) (n k : Nat) : Nat := t_lg (t_CT x th) (t_LG x th) (t_OW x th un) ju ch n k
def t_CX (x : Nat → Int32) (th un ju ch : Int32) (n : Nat) : Int32 := t_cst (t_CT x th) (t_LG x th) (t_OW x th un) ju ch n
def t_PE (x : Nat → Int32) (th un ju ch : Int32) (n k : Nat) : Int32 := t_pe (t_df x k) (t_LX x th un ju ch n k)
def t_PT (x : Nat → Int32) (th un ju ch : Int32) (tm : Nat) (ba : Int32) (n k : Nat) : Int32 := t_pa ba tm (t_df x k) (t_LX x th un ju ch n k)
theorem t_LG_in (x : Nat → Int32) (th : Int32) (k c : Nat) (h : c < t_CT x th k) : t_LG x th k c = 0 ∨ (2 ≤ t_LG x th k c ∧ t_LG x th k c ≤ 63) := by
  unfold t_LG
  by_cases e : c = 0
  · rw [if_pos e]; exact Or.inl rfl
  · rw [if_neg e]
    unfold t_CT at h
    have := t_cs_in (d := t_df x k) (s := t_sm x k) (th := th) (c := c - 1) (by omega)
    exact Or.inr ⟨this.1, this.2.1⟩
theorem t_CT_in (x : Nat → Int32) (th : Int32) (k : Nat) : 1 ≤ t_CT x th k ∧ t_CT x th k ≤ 9 := by
  have := t_cs_len (t_df x k) (t_sm x k) th
  unfold t_CT; omega
theorem t_can_of {x : Nat → Int32} {th un : Int32} {n : Nat} {cn la co : Nat → Int32} (hn : n ≤ 29) (hz : t_z0 la) (h : t_okc x th n cn la co) : t_can (t_CT x th) (t_LG x th) (t_OW x th un) n cn la co := by
  intro k hk
  obtain ⟨h1, h2⟩ := h k hk
  obtain ⟨h3, h4⟩ := t_CT_in x th k
  refine ⟨by rw [h1]; exact nI_add _ _, h3, h4, fun c hc => ?_⟩
  by_cases e : c = 0
  · subst e
    exact ⟨hz k (by omega), by show (if (0 : Nat) = 0 then 0 else _) ≤ 63; rw [if_pos rfl]; omega, fun q => absurd rfl q⟩
  · have hl := t_LG_in x th k c hc
    obtain ⟨j, rfl⟩ : ∃ j, c = j + 1 := ⟨c - 1, by omega⟩
    obtain ⟨g1, g2⟩ := h2 j (by unfold t_CT at hc; omega)
    have eL : t_LG x th k (j + 1) = (t_cs (t_df x k) (t_sm x k) th).getD j 0 := by unfold t_LG; rw [if_neg e, Nat.add_sub_cancel]
    refine ⟨by rw [eL]; exact g1, by omega, fun _ => ?_⟩
    rw [show t_OW x th un k (j + 1) = t_mean (t_df x k) (t_sm x k) (t_LG x th k (j + 1)) from if_neg e, eL]
    exact g2
theorem t_OW_0 (x : Nat → Int32) (th un : Int32) : ∀ i, t_OW x th un i 0 = un := fun _ => if_pos rfl
theorem t_trk_in {x : Nat → Int32} {th un ju ch : Int32} {n : Nat} {tr : Nat → Int32} (h : t_trk (t_CT x th) (t_LG x th) (t_OW x th un) ju ch n 0 tr) : ∀ k, k < n → tr k = nI (t_LX x th un ju ch n k) ∧ (t_LX x th un ju ch n k = 0 ∨ (2 ≤ t_LX x th un ju ch n k ∧ t_LX x th un ju ch n k ≤ 63)) := by
  intro k hk
  refine ⟨h k (Nat.zero_le _) hk, ?_⟩
  have := t_pt_lt (CT := t_CT x th) (LG := t_LG x th) (OW := t_OW x th un) (ju := ju) (ch := ch) (n := n) (fun k _ => (t_CT_in x th k).1) (n - 1 - k) (by omega)
  rw [show n - 1 - (n - 1 - k) = k by omega] at this
  exact t_LG_in x th k _ this
/-- the track, the pitches and the notes of n frames are laid -/
def t_setd (x : Nat → Int32) (th un ju ch : Int32) (tm : Nat) (ba : Int32) (n : Nat) (tc : Int32) (ct : Nat) (tr pe pa st ln of : Nat → Int32) : Prop :=
  tc = t_CX x th un ju ch n ∧ t_trk (t_CT x th) (t_LG x th) (t_OW x th un) ju ch n 0 tr ∧ t_pit x ba tm (t_LX x th un ju ch n) n pe pa ∧ ct = t_nn pa (t_on x) n ∧ t_nts pa (t_on x) n st ln of
/-- what always holds of a tracker with n samples -/
def t_inv (x : Nat → Int32) (n : Nat) (th un ju ch : Int32) (tm : Nat) (ba : Int32) (sf : Int32) (mf cf : Nat) (tc : Int32) (ct : Nat) (f g cn la co tr pe pa st ln of : Nat → Int32) : Prop :=
  n ≤ 1024 ∧ tm ≤ 2 ∧ mf ≤ t_F n ∧ cf ≤ t_F n ∧ t_okd x mf f g ∧ t_z0 la ∧ t_okc x th cf cn la co ∧ (sf = -1 ∨ ∃ k : Nat, k ≤ cf ∧ sf = nI k ∧ t_setd x th un ju ch tm ba k tc ct tr pe pa st ln of)
/-- .. and with all of its frames laid -/
def t_stl (x : Nat → Int32) (n : Nat) (th un ju ch : Int32) (tm : Nat) (ba : Int32) (mf cf : Nat) (tc : Int32) (ct : Nat) (f g cn la co tr pe pa st ln of : Nat → Int32) : Prop :=
  n ≤ 1024 ∧ tm ≤ 2 ∧ mf ≤ t_F n ∧ cf = t_F n ∧ t_okd x mf f g ∧ t_z0 la ∧ t_okc x th cf cn la co ∧ t_setd x th un ju ch tm ba (t_F n) tc ct tr pe pa st ln of
theorem t_stl_inv {x : Nat → Int32} {n : Nat} {th un ju ch : Int32} {tm : Nat} {ba : Int32} {mf cf : Nat} {tc : Int32} {ct : Nat} {f g cn la co tr pe pa st ln of : Nat → Int32} (h : t_stl x n th un ju ch tm ba mf cf tc ct f g cn la co tr pe pa st ln of) : t_inv x n th un ju ch tm ba (nI (t_F n)) mf cf tc ct f g cn la co tr pe pa st ln of := by
  obtain ⟨h1, h2, h3, h4, h5, h6, h7, h8⟩ := h
  exact ⟨h1, h2, h3, by omega, h5, h6, h7, Or.inr ⟨t_F n, by omega, rfl, h8⟩⟩
/-- nothing is to do: the frames are as many as were laid -/
theorem t_inv_stl {x : Nat → Int32} {n : Nat} {th un ju ch : Int32} {tm : Nat} {ba : Int32} {sf : Int32} {mf cf : Nat} {tc : Int32} {ct : Nat} {f g cn la co tr pe pa st ln of : Nat → Int32} (h : t_inv x n th un ju ch tm ba sf mf cf tc ct f g cn la co tr pe pa st ln of) (hs : sf = nI (t_F n)) : t_stl x n th un ju ch tm ba mf cf tc ct f g cn la co tr pe pa st ln of := by
  obtain ⟨h1, h2, h3, h4, h5, h6, h7, h8⟩ := h
  have hF := t_F_le h1
  rcases h8 with h8 | ⟨k, k1, k2, k3⟩
  · exfalso
    rw [h8] at hs
    have a : (-1 : Int32).toInt = -1 := by decide
    rw [hs, nI_toInt (by omega)] at a
    omega
  · have e : k = t_F n := (nI_eq (by omega) (by omega)).mp (k2.symm.trans hs)
    subst e
    exact ⟨h1, h2, h3, by omega, h5, h6, h7, k3⟩
