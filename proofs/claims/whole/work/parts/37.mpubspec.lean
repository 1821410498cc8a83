/-! the model's public side -/
section TMP
variable {pa : Nat → Int32} {on : Nat → Bool}
def t_prv (pa : Nat → Int32) (i : Nat) (pv : Int32) : Prop := (i = 0 → pv = -1) ∧ (0 < i → pv = pa (i - 1))
theorem t_prv_0 : t_prv pa 0 (-1) := ⟨fun _ => rfl, fun h => absurd h (Nat.lt_irrefl _)⟩
theorem t_prv_s {i : Nat} : t_prv pa (i + 1) (pa i) := ⟨fun h => absurd h (Nat.succ_ne_zero _), fun _ => rfl⟩
theorem t_bg_ne {i : Nat} {pv : Int32} (hp : t_prv pa i pv) (h : ¬ pa i = pv) : t_beg pa on i = true := by
  by_cases e : i = 0
  · exact t_beg_0 e
  · exact t_beg_1 e (fun q => h (q.symm.trans (hp.2 (by omega)).symm))
theorem t_bg_eq {i : Nat} {pv : Int32} (hp : t_prv pa i pv) (h : pa i = pv) (h0 : ¬ pa i < 0) : ¬ i = 0 ∧ pa (i - 1) = pa i := by
  have e : ¬ i = 0 := fun e => h0 (by rw [h, hp.1 e]; decide)
  exact ⟨e, (h.trans (hp.2 (by omega))).symm⟩
theorem t_bg_n {i : Nat} {pv : Int32} (hp : t_prv pa i pv) (h : pa i = pv) (h0 : ¬ pa i < 0) (ho : on i = false) : t_beg pa on i = false := by
  obtain ⟨e, e2⟩ := t_bg_eq hp h h0
  rw [t_beg_2 e e2, ho]; rfl
theorem t_bg_b {i : Nat} {pv : Int32} (hp : t_prv pa i pv) (h : pa i = pv) (h0 : ¬ pa i < 0) (ho : on (i - 1) = true) : t_beg pa on i = false := by
  obtain ⟨e, e2⟩ := t_bg_eq hp h h0
  rw [t_beg_2 e e2, ho]; exact Bool.and_false _
theorem t_bg_y {i : Nat} {pv : Int32} (hp : t_prv pa i pv) (h : pa i = pv) (h0 : ¬ pa i < 0) (ho : on i = true) (ho2 : on (i - 1) = false) : t_beg pa on i = true := by
  obtain ⟨e, e2⟩ := t_bg_eq hp h h0
  rw [t_beg_2 e e2, ho, ho2]; rfl
theorem t_of_s {i : Nat} {no : Nat → Int32} (hv : ∀ k, k < i → no k = t_of pa on k) : ∀ k, k < i + 1 → upd no i (t_of pa on i) k = t_of pa on k := fun k hk => by
  by_cases e : k = i
  · subst e; exact pk_us
  · rw [pk_un e]; exact hv k (by omega)
def t_cnt (pa : Nat → Int32) (on : Nat → Bool) (j : Nat) : Nat → Nat
  | 0 => 0
  | i + 1 => t_cnt pa on j i + (if t_of pa on i = nI j then 1 else 0)
theorem t_cnt_y {i j : Nat} (h : t_of pa on i = nI j) : t_cnt pa on j i + 1 = t_cnt pa on j (i + 1) := by
  show _ = t_cnt pa on j i + (if t_of pa on i = nI j then 1 else 0)
  rw [if_pos h]
theorem t_cnt_n {i j : Nat} (h : ¬ t_of pa on i = nI j) : t_cnt pa on j i + 0 = t_cnt pa on j (i + 1) := by
  show _ = t_cnt pa on j i + (if t_of pa on i = nI j then 1 else 0)
  rw [if_neg h]
theorem t_of_isn {j k : Nat} (hj : j < 1073741824) (hk : k < 1073741824) : t_of pa on k = nI j ↔ t_isn pa on j k := by
  unfold t_of t_isn
  by_cases h : pa k < 0
  · rw [if_pos h]
    refine ⟨fun q => ?_, fun q => absurd h q.1⟩
    have h2 := nI_pos (n := j) (by omega)
    rw [← q] at h2
    exact absurd (by decide) h2
  · rw [if_neg h]
    have hp := t_nn_pos (on := on) h
    have hl := t_nn_le (pa := pa) (on := on) (k + 1)
    rw [nI_eq (by omega) (by omega)]
    exact ⟨fun q => ⟨h, by omega⟩, fun q => by have := q.2; omega⟩
theorem t_cnt_m {n j : Nat} (hn : n ≤ 29) (hj : j < t_nn pa on n) : ∀ i, i ≤ n → t_cnt pa on j i = min (i - t_sts pa on n j) (t_lns pa on n j)
  | 0, _ => by
    show 0 = _
    omega
  | i + 1, hi => by
    obtain ⟨h1, h2, h3, h4⟩ := (t_run (pa := pa) (on := on) n).1 j hj
    have hl := t_nn_le (pa := pa) (on := on) n
    have ih := t_cnt_m hn hj i (by omega)
    have ho := t_of_isn (pa := pa) (on := on) (j := j) (k := i) (by omega) (by omega)
    have h5 := h4 i (by omega)
    show t_cnt pa on j i + (if t_of pa on i = nI j then 1 else 0) = _
    rw [ih]
    by_cases q : t_sts pa on n j ≤ i ∧ i < t_sts pa on n j + t_lns pa on n j
    · rw [if_pos (ho.mpr (h5.mpr q))]; omega
    · rw [if_neg (fun z => q (h5.mp (ho.mp z)))]; omega
theorem t_cnt_e {n j : Nat} (hn : n ≤ 29) (hj : j < t_nn pa on n) : t_cnt pa on j n = t_lns pa on n j := by
  obtain ⟨h1, h2, h3, h4⟩ := (t_run (pa := pa) (on := on) n).1 j hj
  have := t_cnt_m hn hj n (Nat.le_refl _)
  omega
theorem t_st_go {n j f : Nat} (hn : n ≤ 29) (hj : j < t_nn pa on n) (hf : f ≤ t_sts pa on n j) (h : ¬ t_of pa on f = nI j) : f + 1 ≤ t_sts pa on n j := by
  obtain ⟨h1, h2, h3, h4⟩ := (t_run (pa := pa) (on := on) n).1 j hj
  have hl := t_nn_le (pa := pa) (on := on) n
  by_cases e : f = t_sts pa on n j
  · exact absurd ((t_of_isn (by omega) (by omega)).mpr ((h4 f (by omega)).mpr ⟨by omega, by omega⟩)) h
  · omega
theorem t_st_at {n j f : Nat} (hn : n ≤ 29) (hj : j < t_nn pa on n) (hf : f ≤ t_sts pa on n j) (h : t_of pa on f = nI j) : nI f = nI (t_sts pa on n j) := by
  obtain ⟨h1, h2, h3, h4⟩ := (t_run (pa := pa) (on := on) n).1 j hj
  have hl := t_nn_le (pa := pa) (on := on) n
  have h5 := (h4 f (by omega)).mp ((t_of_isn (by omega) (by omega)).mp h)
  exact congrArg nI (by omega)
end TMP
theorem t_nmoc {p : Int32} (h : p = -1 ∨ ∃ q : Nat, p = nI q ∧ q < 84) : (¬ 0 ≤ t_nm p → (-1 : Int32) = p) ∧ (0 ≤ t_nm p → nI 12 * t_oc p + t_nm p = p ∧ 0 ≤ p) := by
  rcases h with h | ⟨q, h, hq⟩
  · rw [h]
    exact ⟨fun _ => rfl, fun h => absurd h (by decide +kernel)⟩
  · rw [h]
    have h0 : ¬ nI q < 0 := nI_pos (by omega)
    have e1 : t_nm (nI q) = nI (q % 12) := by
      unfold t_nm; rw [if_neg h0, pk_rem (by omega) (by decide) (by decide)]
    have e2 : t_oc (nI q) = nI (q / 12) := by
      unfold t_oc; rw [if_neg h0, pk_div (by omega) (by decide) (by decide)]
    rw [e1, e2]
    refine ⟨fun h => absurd (nI_pos' (by omega)) h, fun _ => ⟨?_, nI_pos' (by omega)⟩⟩
    rw [pk_mul, nI_add]
    exact congrArg nI (by omega)
theorem t_PT_r (x : Nat → Int32) (th un ju ch : Int32) (tm : Nat) (ba : Int32) (n k : Nat) : t_PT x th un ju ch tm ba n k = -1 ∨ ∃ q : Nat, t_PT x th un ju ch tm ba n k = nI q ∧ q < 84 := by
  unfold t_PT
  generalize t_LX x th un ju ch n k = L
  unfold t_pa
  by_cases h : L = 0
  · rw [if_pos h]; exact Or.inl rfl
  · rw [if_neg h]; exact Or.inr ⟨_, rfl, t_near_lt _ _ _⟩
/-! what the model says of the throw -/
def t_c1 (b : Bool) : Int32 := if b = true then nI 0 else nI 1
theorem t_c1_t {b : Bool} (h : b = true) : t_c1 b = nI 0 := if_pos h
theorem t_c1_f {b : Bool} (h : b = false) : t_c1 b = nI 1 := by rw [h]; rfl
def t_c2 (a b : Bool) : Int32 := if a = true then (if b = true then nI 0 else nI 2) else nI 1
theorem t_c2_t {a b : Bool} (h : a = true) (h2 : b = true) : t_c2 a b = nI 0 := by rw [h, h2]; rfl
theorem t_c2_b {a b : Bool} (h : a = true) (h2 : b = false) : t_c2 a b = nI 2 := by rw [h, h2]; rfl
theorem t_c2_a {a b : Bool} (h : a = false) : t_c2 a b = nI 1 := by rw [h]; rfl
theorem t_c2_f {a b : Bool} (h : (a && b) = false) : a = false ∨ (a = true ∧ b = false) := by
  cases a
  · exact Or.inl rfl
  · exact Or.inr ⟨rfl, h⟩
theorem t_and2 {a b : Bool} (h : (a && b) = true) : a = true ∧ b = true := by
  cases a
  · cases h
  · exact ⟨rfl, h⟩
theorem t_inb_o {v a b : Int32} (h : t_inb v a b = false) : v < a ∨ b < v := by
  have := t_inb_f h
  by_cases h1 : v < a
  · exact Or.inl h1
  · by_cases h2 : b < v
    · exact Or.inr h2
    · exact absurd ⟨h1, h2⟩ this
theorem t_inb_F2 {F : Nat} {v : Int32} (hF : F < 1073741000) : t_inb v (nI 0) (nI (F + 1) - nI 2) = t_isF F v := by
  refine decide_eq_decide.mpr ?_
  have e0 : (nI 0).toInt = 0 := nI_toInt (by decide)
  have e2 := pk_sub_toInt (a := F + 1) (b := 2) (by omega) (by decide)
  simp only [Int32.lt_iff_toInt_lt, Int32.le_iff_toInt_le, e0, e2, Int32.toInt_zero, nI_toInt (show F < 2 ^ 31 by omega)]
  omega
/-! what is fed lies within 100 -/
theorem t_nI_bd {a am : Nat} (h : a ≤ 2 * am) (ham : am ≤ 100) : -100 ≤ (nI a - nI am).toInt ∧ (nI a - nI am).toInt ≤ 100 := by
  rw [pk_sub_toInt (by omega) (by omega)]; omega
theorem t_wave_bd {sh pl pq am : Nat} (hp : pl < pq) (hq : pq ≤ 64) (ha : am ≤ 100) : -100 ≤ (t_wave sh pl pq am).toInt ∧ (t_wave sh pl pq am).toInt ≤ 100 := by
  unfold t_wave
  by_cases h2 : sh = 2
  · rw [if_pos h2]
    have e : (nI am).toInt = am := nI_toInt (by omega)
    by_cases h : 2 * pl < pq
    · rw [if_pos h, e]; omega
    · rw [if_neg h, Int32.toInt_neg, e, Int.bmod_eq_of_le (by omega) (by omega)]; omega
  · rw [if_neg h2]
    refine t_nI_bd ?_ ha
    have key : ∀ m, m ≤ pq → 2 * am * m / pq ≤ 2 * am := fun m hm => by
      have h3 := Nat.mul_le_mul_left (2 * am) hm
      exact Nat.div_le_of_le_mul (by rw [Nat.mul_comm pq]; exact h3)
    refine key _ ?_
    by_cases h1 : sh = 1
    · rw [if_pos h1]
      by_cases h : 2 * pl ≤ pq
      · rw [if_pos h]; exact h
      · rw [if_neg h]; omega
    · rw [if_neg h1]; omega
theorem t_ushr {w k : UInt32} (hk : k.toNat = 16) : ∃ U : Nat, (w >>> k).toInt32 = nI U ∧ U < 65536 := by
  refine ⟨(w >>> k).toNat, ?_, ?_⟩
  · show Int32.ofUInt32 (w >>> k) = Int32.ofUInt32 (UInt32.ofNat (w >>> k).toNat)
    rw [UInt32.ofNat_toNat]
  · rw [UInt32.toNat_shiftRight, hk, show 16 % 32 = 16 from rfl, Nat.shiftRight_eq_div_pow]
    have := w.toNat_lt
    omega
theorem t_noise_bd (z : Int32) {am : Nat} (ha : am ≤ 100) : -100 ≤ (t_noise z am).toInt ∧ (t_noise z am).toInt ≤ 100 := by
  unfold t_noise
  obtain ⟨U, hU, hb⟩ := t_ushr (w := z.toUInt32) (k := (nI 16).toUInt32 &&& Int32.toUInt32 31) (by decide +kernel)
  rw [hU, pk_rem (by omega) (by omega) (by omega)]
  have h := Nat.mod_lt U (show 2 * am + 1 > 0 by omega)
  generalize U % (2 * am + 1) = r at h ⊢
  exact t_nI_bd (by omega) ha
theorem t_add_bd {x : Nat → Int32} {n : Nat} {v : Nat → Int32} (hb : t_bdx x n) : ∀ k, (∀ i, i < k → -100 ≤ (v i).toInt ∧ (v i).toInt ≤ 100) → t_bdx (t_add x n v k) (n + k)
  | 0, _ => hb
  | k + 1, h => fun i hi => by
    show -100 ≤ (upd (t_add x n v k) (n + k) (v k) i).toInt ∧ (upd (t_add x n v k) (n + k) (v k) i).toInt ≤ 100
    by_cases e : i = n + k
    · rw [e, pk_us]; exact h k (Nat.lt_succ_self k)
    · rw [pk_un e]; exact t_add_bd hb k (fun i hi => h i (by omega)) i (by omega)
theorem t_add_bd2 {x : Nat → Int32} {n k : Nat} {v : Nat → Int32} (hb : t_bdx x n) (h : ∀ i, -100 ≤ (v i).toInt ∧ (v i).toInt ≤ 100) : t_bdx (t_add x n v k) (n + k) := t_add_bd hb k (fun i _ => h i)
theorem t_bdx_s {x : Nat → Int32} {n : Nat} {v : Int32} (hb : t_bdx x n) (h : t_ir v (-100) (nI 100)) : t_bdx (upd x n v) (n + 1) := fun i hi => by
  by_cases e : i = n
  · rw [e, pk_us]
    obtain ⟨h1, h2⟩ := h
    have a : (-100 : Int32).toInt = -100 := by decide
    have b : (nI 100).toInt = 100 := nI_toInt (by decide)
    rw [Int32.lt_iff_toInt_lt, a] at h1
    rw [Int32.lt_iff_toInt_lt, b] at h2
    omega
  · rw [pk_un e]; exact hb i (by omega)
/-- the ranges of what a tracker holds -/
def t_mrg (x : Nat → Int32) (n : Nat) (th un ju ch : Int32) (tm : Nat) (ba : Int32) : Prop := n ≤ 1024 ∧ tm ≤ 2 ∧ t_bdx x n ∧ t_mset th un ju ch ∧ t_ir ba (nI 64) (nI 8192)
theorem t_mrg_x {x y : Nat → Int32} {n k : Nat} {th un ju ch : Int32} {tm : Nat} {ba : Int32} (h : t_mrg x n th un ju ch tm ba) (hk : k ≤ 1024) (hb : t_bdx y k) : t_mrg y k th un ju ch tm ba := ⟨hk, h.2.1, hb, h.2.2.2⟩
/-- a model in the world -/
def t_mob (cI : ClassId) (h : Nat) (x : Nat → Int32) (n : Nat) (th un ju ch : Int32) (tm : Nat) (ba thr : Int32) (Wo : va_W) : Prop := ∃ (m1 m2 m3 m4 m5 m6 m7 m8 m9 m10 m11 : Nat) (nm oc ct : Int32) (dd ss cn la co le fr tr no : Nat → Int32), Wo = [(h, .inr (9, [.int thr, .int (nI n), .ref m1, .int th, .int un, .int ju, .int ch, .int (nI tm), .int ba, .ref m2, .ref m3, .ref m4, .ref m5, .ref m6, .ref m7, .ref m8, .ref m9, .ref m10, .int nm, .int oc, .ref m11, .int ct])), (m1, .inl (cI, 1024, .inl x)), (m2, .inl (cI, 36, .inl t_parts)), (m3, .inl (cI, 65, .inl dd)), (m4, .inl (cI, 65, .inl ss)), (m5, .inl (cI, 29, .inl cn)), (m6, .inl (cI, 261, .inl la)), (m7, .inl (cI, 261, .inl co)), (m8, .inl (cI, 261, .inl le)), (m9, .inl (cI, 261, .inl fr)), (m10, .inl (cI, 29, .inl tr)), (m11, .inl (cI, 29, .inl no))] ∧ t_mrg x n th un ju ch tm ba
set_option maxHeartbeats 4000000 in
theorem t_mob_elim {cI : ClassId} {h : Nat} {x : Nat → Int32} {n : Nat} {th un ju ch : Int32} {tm : Nat} {ba thr : Int32} {Wo : va_W} {P : va_W → Prop} (hO : t_mob cI h x n th un ju ch tm ba thr Wo) (k : ∀ (m1 m2 m3 m4 m5 m6 m7 m8 m9 m10 m11 : Nat) (nm oc ct : Int32) (dd ss cn la co le fr tr no : Nat → Int32), t_mrg x n th un ju ch tm ba → P [(h, .inr (9, [.int thr, .int (nI n), .ref m1, .int th, .int un, .int ju, .int ch, .int (nI tm), .int ba, .ref m2, .ref m3, .ref m4, .ref m5, .ref m6, .ref m7, .ref m8, .ref m9, .ref m10, .int nm, .int oc, .ref m11, .int ct])), (m1, .inl (cI, 1024, .inl x)), (m2, .inl (cI, 36, .inl t_parts)), (m3, .inl (cI, 65, .inl dd)), (m4, .inl (cI, 65, .inl ss)), (m5, .inl (cI, 29, .inl cn)), (m6, .inl (cI, 261, .inl la)), (m7, .inl (cI, 261, .inl co)), (m8, .inl (cI, 261, .inl le)), (m9, .inl (cI, 261, .inl fr)), (m10, .inl (cI, 29, .inl tr)), (m11, .inl (cI, 29, .inl no))]) : P Wo := by
  obtain ⟨m1, m2, m3, m4, m5, m6, m7, m8, m9, m10, m11, nm, oc, ct, dd, ss, cn, la, co, le, fr, tr, no, hW, hrg⟩ := hO
  rw [hW]
  exact k m1 m2 m3 m4 m5 m6 m7 m8 m9 m10 m11 nm oc ct dd ss cn la co le fr tr no hrg
theorem t_mob_in {cI : ClassId} {h : Nat} {x : Nat → Int32} {n : Nat} {th un ju ch : Int32} {tm : Nat} {ba t0 thr : Int32} {m1 m2 m3 m4 m5 m6 m7 m8 m9 m10 m11 : Nat} {nm oc ct : Int32} {dd ss cn la co le fr tr no : Nat → Int32} (hrg : t_mrg x n th un ju ch tm ba) (ht : t0 = thr) : t_mob cI h x n th un ju ch tm ba thr [(h, .inr (9, [.int t0, .int (nI n), .ref m1, .int th, .int un, .int ju, .int ch, .int (nI tm), .int ba, .ref m2, .ref m3, .ref m4, .ref m5, .ref m6, .ref m7, .ref m8, .ref m9, .ref m10, .int nm, .int oc, .ref m11, .int ct])), (m1, .inl (cI, 1024, .inl x)), (m2, .inl (cI, 36, .inl t_parts)), (m3, .inl (cI, 65, .inl dd)), (m4, .inl (cI, 65, .inl ss)), (m5, .inl (cI, 29, .inl cn)), (m6, .inl (cI, 261, .inl la)), (m7, .inl (cI, 261, .inl co)), (m8, .inl (cI, 261, .inl le)), (m9, .inl (cI, 261, .inl fr)), (m10, .inl (cI, 29, .inl tr)), (m11, .inl (cI, 29, .inl no))] := by
  rw [ht]
  exact ⟨m1, m2, m3, m4, m5, m6, m7, m8, m9, m10, m11, nm, oc, ct, dd, ss, cn, la, co, le, fr, tr, no, rfl, hrg⟩
theorem t_mob_hd {cI : ClassId} {h : Nat} {x : Nat → Int32} {n : Nat} {th un ju ch : Int32} {tm : Nat} {ba thr : Int32} {Wo : va_W} (hO : t_mob cI h x n th un ju ch tm ba thr Wo) : ∃ fs : List Value, Wo[0]? = some (h, .inr (9, fs)) :=
  t_mob_elim (P := fun Wo => ∃ fs : List Value, Wo[0]? = some (h, .inr (9, fs))) hO (fun _ _ _ _ _ _ _ _ _ _ _ _ _ _ _ _ _ _ _ _ _ _ _ _ => ⟨_, rfl⟩)
theorem t_obj_hd {cI : ClassId} {h : Nat} {x : Nat → Int32} {sn : Nat} {th un ju ch : Int32} {tm : Nat} {ba : Int32} {Wo : va_W} (hO : t_obj cI h x sn th un ju ch tm ba Wo) : ∃ fs : List Value, Wo[0]? = some (h, .inr (8, fs)) :=
  t_obj_elim (P := fun Wo => ∃ fs : List Value, Wo[0]? = some (h, .inr (8, fs))) hO (by intros; exact ⟨_, rfl⟩)
