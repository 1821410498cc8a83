/-! what is fed changes no frame that was there -/
theorem t_gs_congr {x y : Nat → Int32} {k a : Nat} (h : ∀ i, i < k + 64 + a → x i = y i) : t_gs x k a = t_gs y k a :=
  t_sum_congr (fun j hj => by rw [h (k + j) (by omega), h (k + j + a) (by omega)])
theorem t_ps_congr {x y : Nat → Int32} {k a : Nat} (h : ∀ i, i < k + 64 + a → x i = y i) : t_ps x k a = t_ps y k a :=
  t_sum_congr (fun j hj => by rw [h (k + j) (by omega), h (k + j + a) (by omega)])
theorem t_df_congr {x y : Nat → Int32} {k j : Nat} (h : ∀ i, i < k * 32 + 128 → x i = y i) (hj : j ≤ 64) : t_df x k j = t_df y k j := t_gs_congr (fun i hi => h i (by omega))
theorem t_sm_congr {x y : Nat → Int32} {k j : Nat} (h : ∀ i, i < k * 32 + 128 → x i = y i) (hj : j ≤ 64) : t_sm x k j = t_sm y k j := t_sum_congr (fun i hi => t_df_congr h (by omega))
theorem t_on_congr {x y : Nat → Int32} {k : Nat} (h : ∀ i, i < k * 32 + 128 → x i = y i) : t_on x k = t_on y k := by
  unfold t_on
  rw [t_ps_congr (x := x) (y := y) (fun i hi => h i (by omega)), t_ps_congr (x := x) (y := y) (k := (k - 1) * 32 + 0) (fun i hi => h i (by omega))]
section TCG
variable {CT CT2 : Nat → Nat} {LG LG2 : Nat → Nat → Nat} {OW OW2 : Nat → Nat → Int32} {ju ch : Int32} {n : Nat}
theorem t_tot_congr (h : ∀ k, k < n → CT k = CT2 k ∧ LG k = LG2 k ∧ OW k = OW2 k) : ∀ k, k < n → t_tot CT LG OW ju ch k = t_tot CT2 LG2 OW2 ju ch k ∧ t_frm CT LG OW ju ch k = t_frm CT2 LG2 OW2 ju ch k
  | 0, hk => ⟨funext fun c => by show nI 0 + OW 0 c = nI 0 + OW2 0 c; rw [(h 0 hk).2.2], rfl⟩
  | k + 1, hk => by
    obtain ⟨e1, -⟩ := t_tot_congr h k (by omega)
    obtain ⟨a1, a2, a3⟩ := h k (by omega)
    obtain ⟨b1, b2, b3⟩ := h (k + 1) hk
    refine ⟨funext fun c => ?_, funext fun c => ?_⟩
    · show (t_mn (fun i => t_tot CT LG OW ju ch k i + t_stp ju ch (LG k i) (LG (k + 1) c)) (CT k - 1)).1 + OW (k + 1) c = (t_mn (fun i => t_tot CT2 LG2 OW2 ju ch k i + t_stp ju ch (LG2 k i) (LG2 (k + 1) c)) (CT2 k - 1)).1 + OW2 (k + 1) c
      rw [e1, a1, a2, b2, b3]
    · show (t_mn (fun i => t_tot CT LG OW ju ch k i + t_stp ju ch (LG k i) (LG (k + 1) c)) (CT k - 1)).2 = (t_mn (fun i => t_tot CT2 LG2 OW2 ju ch k i + t_stp ju ch (LG2 k i) (LG2 (k + 1) c)) (CT2 k - 1)).2
      rw [e1, a1, a2, b2]
theorem t_bst_congr (h : ∀ k, k < n → CT k = CT2 k ∧ LG k = LG2 k ∧ OW k = OW2 k) (hn : 0 < n) : t_bst CT LG OW ju ch n = t_bst CT2 LG2 OW2 ju ch n := by
  unfold t_bst; rw [(t_tot_congr h (n - 1) (by omega)).1, (h (n - 1) (by omega)).1]
theorem t_cst_congr (h : ∀ k, k < n → CT k = CT2 k ∧ LG k = LG2 k ∧ OW k = OW2 k) : t_cst CT LG OW ju ch n = t_cst CT2 LG2 OW2 ju ch n := by
  unfold t_cst
  by_cases e : n = 0
  · rw [if_pos e, if_pos e]
  · rw [if_neg e, if_neg e, (t_tot_congr h (n - 1) (by omega)).1, t_bst_congr h (by omega)]
theorem t_pt_congr (h : ∀ k, k < n → CT k = CT2 k ∧ LG k = LG2 k ∧ OW k = OW2 k) : ∀ j, j < n → t_pt CT LG OW ju ch n j = t_pt CT2 LG2 OW2 ju ch n j
  | 0, hj => t_bst_congr h (by omega)
  | j + 1, hj => by
    show t_frm CT LG OW ju ch (n - 1 - j) (t_pt CT LG OW ju ch n j) = t_frm CT2 LG2 OW2 ju ch (n - 1 - j) (t_pt CT2 LG2 OW2 ju ch n j)
    rw [t_pt_congr h j (by omega), (t_tot_congr h (n - 1 - j) (by omega)).2]
theorem t_lg_congr (h : ∀ k, k < n → CT k = CT2 k ∧ LG k = LG2 k ∧ OW k = OW2 k) {f : Nat} (hf : f < n) : t_lg CT LG OW ju ch n f = t_lg CT2 LG2 OW2 ju ch n f := by
  unfold t_lg; rw [t_pt_congr h _ (by omega), (h f hf).2.1]
end TCG
/-- two sounds that are the same in the first n frames -/
def t_same (x y : Nat → Int32) (n : Nat) : Prop := ∀ k, k < n → ∀ i, i < k * 32 + 128 → x i = y i
theorem t_CT_congr {x y : Nat → Int32} {n k : Nat} {th un : Int32} (h : t_same x y n) (hk : k < n) : t_CT x th k = t_CT y th k ∧ t_LG x th k = t_LG y th k ∧ t_OW x th un k = t_OW y th un k := by
  have e : t_cs (t_df x k) (t_sm x k) th = t_cs (t_df y k) (t_sm y k) th := t_cs_congr (fun j h1 h2 => ⟨t_df_congr (h k hk) h2, t_sm_congr (h k hk) h2⟩)
  have e2 : t_LG x th k = t_LG y th k := by unfold t_LG; rw [e]
  refine ⟨by unfold t_CT; rw [e], e2, funext fun c => ?_⟩
  unfold t_OW
  rw [e2]
  by_cases hc : c = 0
  · rw [if_pos hc, if_pos hc]
  · rw [if_neg hc, if_neg hc]
    by_cases hl : c < t_CT y th k
    · have hz := t_LG_in y th k c hl
      refine t_mean_congr ?_ ?_
      · exact t_df_congr (h k hk) (by omega)
      · exact t_sm_congr (h k hk) (by omega)
    · have hz : t_LG y th k c = 0 := by
        unfold t_LG; rw [if_neg hc]
        unfold t_CT at hl
        rw [List.getD, List.getElem?_eq_none (by omega)]; rfl
      rw [hz]
      exact t_mean_congr (t_df_congr (h k hk) (by omega)) (t_sm_congr (h k hk) (by omega))
theorem t_LX_congr {x y : Nat → Int32} {n k : Nat} {th un ju ch : Int32} (h : t_same x y n) (hk : k < n) : t_LX x th un ju ch n k = t_LX y th un ju ch n k := t_lg_congr (fun i hi => t_CT_congr h hi) hk
theorem t_CX_congr {x y : Nat → Int32} {n : Nat} {th un ju ch : Int32} (h : t_same x y n) : t_CX x th un ju ch n = t_CX y th un ju ch n := t_cst_congr (fun i hi => t_CT_congr h hi)
theorem t_pe_congr {d d2 : Nat → Int32} {j : Nat} (h : ∀ i, i ≤ 64 → d i = d2 i) (hj : j ≤ 63) : t_pe d j = t_pe d2 j := by
  unfold t_pe; rw [h (j - 1) (by omega), h j (by omega), h (j + 1) (by omega)]
section TNC
variable {pa pb : Nat → Int32} {on om : Nat → Bool}
theorem t_beg_congr {n k : Nat} (hp : ∀ i, i < n → pa i = pb i) (ho : ∀ i, i < n → on i = om i) (hk : k < n) : t_beg pa on k = t_beg pb om k := by
  unfold t_beg; rw [hp k hk, hp (k - 1) (by omega), ho k hk, ho (k - 1) (by omega)]
theorem t_nn_congr : ∀ {n : Nat}, (∀ i, i < n → pa i = pb i) → (∀ i, i < n → on i = om i) → t_nn pa on n = t_nn pb om n
  | 0, _, _ => rfl
  | n + 1, hp, ho => by
    unfold t_nn
    rw [t_nn_congr (n := n) (fun i hi => hp i (by omega)) (fun i hi => ho i (by omega)), hp n (by omega), t_beg_congr hp ho (Nat.lt_succ_self n)]
theorem t_sts_congr : ∀ {n : Nat}, (∀ i, i < n → pa i = pb i) → (∀ i, i < n → on i = om i) → t_sts pa on n = t_sts pb om n
  | 0, _, _ => rfl
  | n + 1, hp, ho => by
    funext j
    unfold t_sts
    rw [t_sts_congr (n := n) (fun i hi => hp i (by omega)) (fun i hi => ho i (by omega)), hp n (by omega), t_beg_congr hp ho (Nat.lt_succ_self n), t_nn_congr (n := n) (fun i hi => hp i (by omega)) (fun i hi => ho i (by omega))]
theorem t_lns_congr : ∀ {n : Nat}, (∀ i, i < n → pa i = pb i) → (∀ i, i < n → on i = om i) → t_lns pa on n = t_lns pb om n
  | 0, _, _ => rfl
  | n + 1, hp, ho => by
    funext j
    unfold t_lns
    rw [t_lns_congr (n := n) (fun i hi => hp i (by omega)) (fun i hi => ho i (by omega)), hp n (by omega), t_sts_congr hp ho, t_nn_congr (n := n + 1) hp ho]
theorem t_of_congr {n k : Nat} (hp : ∀ i, i < n → pa i = pb i) (ho : ∀ i, i < n → on i = om i) (hk : k < n) : t_of pa on k = t_of pb om k := by
  unfold t_of; rw [hp k hk, t_nn_congr (n := k + 1) (fun i hi => hp i (by omega)) (fun i hi => ho i (by omega))]
end TNC
theorem t_setd_congr {x y : Nat → Int32} {th un ju ch : Int32} {tm : Nat} {ba : Int32} {n : Nat} {tc : Int32} {ct : Nat} {tr pe pa st ln of : Nat → Int32} (h : t_same x y n) (hs : t_setd x th un ju ch tm ba n tc ct tr pe pa st ln of) : t_setd y th un ju ch tm ba n tc ct tr pe pa st ln of := by
  obtain ⟨h1, h2, h3, h4, h5, h6⟩ := hs
  have ho : ∀ i, i < n → t_on x i = t_on y i := fun i hi => t_on_congr (h i hi)
  refine ⟨h1.trans (t_CX_congr h), fun f a b => (h2 f a b).trans (congrArg nI (t_LX_congr h b)), fun k hk => ?_, h4.trans (t_nn_congr (fun _ _ => rfl) ho), fun j hj => ?_, fun k hk => (h6 k hk).trans (t_of_congr (fun _ _ => rfl) ho hk)⟩
  · obtain ⟨g1, g2⟩ := h3 k hk
    have el := t_LX_congr (th := th) (un := un) (ju := ju) (ch := ch) h hk
    have hb : t_LX x th un ju ch n k ≤ 63 := by have := (t_trk_in (ju := ju) (ch := ch) h2 k hk).2; omega
    have ep : t_pe (t_df x k) (t_LX x th un ju ch n k) = t_pe (t_df y k) (t_LX y th un ju ch n k) := by rw [← el]; exact t_pe_congr (fun i hi => t_df_congr (h k hk) hi) hb
    refine ⟨g1.trans ep, g2.trans ?_⟩
    unfold t_pa; rw [ep, el]
  · rw [← t_nn_congr (fun _ _ => rfl) ho] at hj
    rw [← t_sts_congr (fun _ _ => rfl) ho, ← t_lns_congr (fun _ _ => rfl) ho]
    exact h5 j hj
theorem t_okd_congr {x y : Nat → Int32} {n : Nat} {f g : Nat → Int32} (h : t_same x y n) (hs : t_okd x n f g) : t_okd y n f g := fun k hk j h1 h2 => by
  obtain ⟨a, b⟩ := hs k hk j h1 h2
  exact ⟨a.trans (t_df_congr (h k hk) h2), b.trans (t_sm_congr (h k hk) h2)⟩
theorem t_okc_congr {x y : Nat → Int32} {n : Nat} {th : Int32} {cn la co : Nat → Int32} (h : t_same x y n) (hs : t_okc x th n cn la co) : t_okc y th n cn la co := fun k hk => by
  obtain ⟨a, b⟩ := hs k hk
  have e : t_cs (t_df x k) (t_sm x k) th = t_cs (t_df y k) (t_sm y k) th := t_cs_congr (fun j h1 h2 => ⟨t_df_congr (h k hk) h2, t_sm_congr (h k hk) h2⟩)
  rw [e] at a b
  refine ⟨a, fun c hc => ?_⟩
  obtain ⟨b1, b2⟩ := b c hc
  have hz := t_cs_in hc
  generalize (t_cs (t_df y k) (t_sm y k) th).getD c 0 = j at b1 b2 hz ⊢
  exact ⟨b1, b2.trans (t_mean_congr (t_df_congr (h k hk) (by omega)) (t_sm_congr (h k hk) (by omega)))⟩
/-- one sample more -/
theorem t_inv_add {x : Nat → Int32} {n : Nat} {th un ju ch : Int32} {tm : Nat} {ba : Int32} {sf : Int32} {mf cf : Nat} {tc : Int32} {ct : Nat} {f g cn la co tr pe pa st ln of : Nat → Int32} (v : Int32) (hn : n < 1024) (h : t_inv x n th un ju ch tm ba sf mf cf tc ct f g cn la co tr pe pa st ln of) : t_inv (upd x n v) (n + 1) th un ju ch tm ba sf mf cf tc ct f g cn la co tr pe pa st ln of := by
  obtain ⟨h1, h2, h3, h4, h5, h6, h7, h8⟩ := h
  have hF : t_F n ≤ t_F (n + 1) := t_F_mono (Nat.le_succ n)
  have hs : ∀ m, m ≤ t_F n → t_same x (upd x n v) m := fun m hm k hk i hi => by
    have := t_F_in (n := n) (f := k) (by omega)
    rw [pk_un (by omega)]
  refine ⟨by omega, h2, by omega, by omega, t_okd_congr (hs mf h3) h5, h6, t_okc_congr (hs cf h4) h7, ?_⟩
  rcases h8 with h8 | ⟨k, k1, k2, k3⟩
  · exact Or.inl h8
  · exact Or.inr ⟨k, k1, k2, t_setd_congr (hs k (by omega)) k3⟩
/-- a tracker in the world: its sound x of n samples, its settings -/
def t_obj (cI : ClassId) (h : Nat) (x : Nat → Int32) (sn : Nat) (th un ju ch : Int32) (tm : Nat) (ba : Int32) (Wo : va_W) : Prop := ∃ (so sa dh t1 a1 t2 a2 kh c1 cb l1 lb o1 ob th0 u1 u3 v1 v3 y1 y2 ph p1 p2 q1 q2 nh i1 i2 j1 j2 k1 k2 mf cf ct : Nat) (sf tc : Int32) (f g cn la co to ea tr pe pa st ln of : Nat → Int32), Wo = [(h, .inr (8, [.ref so, .ref dh, .ref kh, .ref th0, .ref ph, .ref nh, .int sf])), (so, .inr (5, [.ref sa, .int (nI sn)])), (sa, .inl (cI, 1024, .inl x)), (dh, .inr (1, [.ref t1, .ref t2, .int (nI mf)])), (t1, .inr (6, [.int (nI 65), .ref a1])), (a1, .inl (cI, 1885, .inl f)), (t2, .inr (6, [.int (nI 65), .ref a2])), (a2, .inl (cI, 1885, .inl g)), (kh, .inr (0, [.ref c1, .ref l1, .ref o1, .int th, .int (nI cf)])), (c1, .inr (4, [.ref cb])), (cb, .inl (cI, 29, .inl cn)), (l1, .inr (6, [.int (nI 9), .ref lb])), (lb, .inl (cI, 261, .inl la)), (o1, .inr (6, [.int (nI 9), .ref ob])), (ob, .inl (cI, 261, .inl co)), (th0, .inr (7, [.int un, .int ju, .int ch, .ref u1, .ref v1, .ref y1, .int tc])), (u1, .inr (6, [.int (nI 9), .ref u3])), (u3, .inl (cI, 261, .inl to)), (v1, .inr (6, [.int (nI 9), .ref v3])), (v3, .inl (cI, 261, .inl ea)), (y1, .inr (4, [.ref y2])), (y2, .inl (cI, 29, .inl tr)), (ph, .inr (3, [.int (nI tm), .int ba, .ref p1, .ref q1])), (p1, .inr (4, [.ref p2])), (p2, .inl (cI, 29, .inl pe)), (q1, .inr (4, [.ref q2])), (q2, .inl (cI, 29, .inl pa)), (nh, .inr (2, [.ref i1, .ref j1, .ref k1, .int (nI ct)])), (i1, .inr (4, [.ref i2])), (i2, .inl (cI, 29, .inl st)), (j1, .inr (4, [.ref j2])), (j2, .inl (cI, 29, .inl ln)), (k1, .inr (4, [.ref k2])), (k2, .inl (cI, 29, .inl of))] ∧ t_inv x sn th un ju ch tm ba sf mf cf tc ct f g cn la co tr pe pa st ln of
/-- the sound with v 0, v 1 .. behind its n samples -/
def t_add (x : Nat → Int32) (n : Nat) (v : Nat → Int32) : Nat → (Nat → Int32)
  | 0 => x
  | i + 1 => upd (t_add x n v i) (n + i) (v i)
/-- the sample of a wave at the place pl of its period -/
def t_wave (sh pl pq am : Nat) : Int32 := if sh = 2 then (if 2 * pl < pq then nI am else -(nI am)) else nI (2 * am * (if sh = 1 then (if 2 * pl ≤ pq then 2 * pl else 2 * pq - 2 * pl) else pl) / pq) - nI am
def t_noise (z : Int32) (am : Nat) : Int32 := (z.toUInt32 >>> ((nI 16).toUInt32 &&& Int32.toUInt32 31)).toInt32 - (z.toUInt32 >>> ((nI 16).toUInt32 &&& Int32.toUInt32 31)).toInt32 / nI (2 * am + 1) * nI (2 * am + 1) - nI am
def t_z (seed : Int32) : Nat → Int32
  | 0 => seed
  | i + 1 => t_z seed i * 1103515245 + nI 12345
theorem t_quoN {a b : Nat} (ha : a < 2147483648) (h0 : 0 < b) (hb : b < 2147483648) : (t_quo (nI a).toInt64 (nI b).toInt64).toInt32 = nI (a / b) := by
  rw [nI_l ha, nI_l hb]
  unfold t_quo
  rw [if_pos (by rw [Int64.lt_iff_toInt_lt, lN_toInt hb, Int64.toInt_zero]; omega), pk_lDiv (by omega) h0 (by omega), lN_i]
theorem t_wv_b {am k : Nat} (ha : am ≤ 100) (hk : k ≤ 128) : 2 * am * k < 2147483648 :=
  Nat.lt_of_le_of_lt (Nat.mul_le_mul (Nat.mul_le_mul_left 2 ha) hk) (by decide)
set_option maxHeartbeats 4000000 in
/-- a tracker is taken apart .. -/
theorem t_obj_elim {cI : ClassId} {h : Nat} {x : Nat → Int32} {sn : Nat} {th un ju ch : Int32} {tm : Nat} {ba : Int32} {Wo : va_W} {P : va_W → Prop} (hO : t_obj cI h x sn th un ju ch tm ba Wo) (k : ∀ (so sa dh t1 a1 t2 a2 kh c1 cb l1 lb o1 ob th0 u1 u3 v1 v3 y1 y2 ph p1 p2 q1 q2 nh i1 i2 j1 j2 k1 k2 mf cf ct : Nat) (sf tc : Int32) (f g cn la co to ea tr pe pa st ln of : Nat → Int32), t_inv x sn th un ju ch tm ba sf mf cf tc ct f g cn la co tr pe pa st ln of → P [(h, .inr (8, [.ref so, .ref dh, .ref kh, .ref th0, .ref ph, .ref nh, .int sf])), (so, .inr (5, [.ref sa, .int (nI sn)])), (sa, .inl (cI, 1024, .inl x)), (dh, .inr (1, [.ref t1, .ref t2, .int (nI mf)])), (t1, .inr (6, [.int (nI 65), .ref a1])), (a1, .inl (cI, 1885, .inl f)), (t2, .inr (6, [.int (nI 65), .ref a2])), (a2, .inl (cI, 1885, .inl g)), (kh, .inr (0, [.ref c1, .ref l1, .ref o1, .int th, .int (nI cf)])), (c1, .inr (4, [.ref cb])), (cb, .inl (cI, 29, .inl cn)), (l1, .inr (6, [.int (nI 9), .ref lb])), (lb, .inl (cI, 261, .inl la)), (o1, .inr (6, [.int (nI 9), .ref ob])), (ob, .inl (cI, 261, .inl co)), (th0, .inr (7, [.int un, .int ju, .int ch, .ref u1, .ref v1, .ref y1, .int tc])), (u1, .inr (6, [.int (nI 9), .ref u3])), (u3, .inl (cI, 261, .inl to)), (v1, .inr (6, [.int (nI 9), .ref v3])), (v3, .inl (cI, 261, .inl ea)), (y1, .inr (4, [.ref y2])), (y2, .inl (cI, 29, .inl tr)), (ph, .inr (3, [.int (nI tm), .int ba, .ref p1, .ref q1])), (p1, .inr (4, [.ref p2])), (p2, .inl (cI, 29, .inl pe)), (q1, .inr (4, [.ref q2])), (q2, .inl (cI, 29, .inl pa)), (nh, .inr (2, [.ref i1, .ref j1, .ref k1, .int (nI ct)])), (i1, .inr (4, [.ref i2])), (i2, .inl (cI, 29, .inl st)), (j1, .inr (4, [.ref j2])), (j2, .inl (cI, 29, .inl ln)), (k1, .inr (4, [.ref k2])), (k2, .inl (cI, 29, .inl of))]) : P Wo := by
  obtain ⟨so, sa, dh, t1, a1, t2, a2, kh, c1, cb, l1, lb, o1, ob, th0, u1, u3, v1, v3, y1, y2, ph, p1, p2, q1, q2, nh, i1, i2, j1, j2, k1, k2, mf, cf, ct, sf, tc, f, g, cn, la, co, to, ea, tr, pe, pa, st, ln, of, rfl, hI⟩ := hO
  exact k _ _ _ _ _ _ _ _ _ _ _ _ _ _ _ _ _ _ _ _ _ _ _ _ _ _ _ _ _ _ _ _ _ _ _ _ _ _ _ _ _ _ _ _ _ _ _ _ _ _ _ hI
set_option maxHeartbeats 4000000 in
/-- .. and put together -/
theorem t_obj_in {cI : ClassId} {h : Nat} {x : Nat → Int32} {sn : Nat} {th un ju ch : Int32} {tm : Nat} {ba : Int32} {so sa dh t1 a1 t2 a2 kh c1 cb l1 lb o1 ob th0 u1 u3 v1 v3 y1 y2 ph p1 p2 q1 q2 nh i1 i2 j1 j2 k1 k2 mf cf ct : Nat} {sf tc : Int32} {f g cn la co to ea tr pe pa st ln of : Nat → Int32} (hI : t_inv x sn th un ju ch tm ba sf mf cf tc ct f g cn la co tr pe pa st ln of) : t_obj cI h x sn th un ju ch tm ba [(h, .inr (8, [.ref so, .ref dh, .ref kh, .ref th0, .ref ph, .ref nh, .int sf])), (so, .inr (5, [.ref sa, .int (nI sn)])), (sa, .inl (cI, 1024, .inl x)), (dh, .inr (1, [.ref t1, .ref t2, .int (nI mf)])), (t1, .inr (6, [.int (nI 65), .ref a1])), (a1, .inl (cI, 1885, .inl f)), (t2, .inr (6, [.int (nI 65), .ref a2])), (a2, .inl (cI, 1885, .inl g)), (kh, .inr (0, [.ref c1, .ref l1, .ref o1, .int th, .int (nI cf)])), (c1, .inr (4, [.ref cb])), (cb, .inl (cI, 29, .inl cn)), (l1, .inr (6, [.int (nI 9), .ref lb])), (lb, .inl (cI, 261, .inl la)), (o1, .inr (6, [.int (nI 9), .ref ob])), (ob, .inl (cI, 261, .inl co)), (th0, .inr (7, [.int un, .int ju, .int ch, .ref u1, .ref v1, .ref y1, .int tc])), (u1, .inr (6, [.int (nI 9), .ref u3])), (u3, .inl (cI, 261, .inl to)), (v1, .inr (6, [.int (nI 9), .ref v3])), (v3, .inl (cI, 261, .inl ea)), (y1, .inr (4, [.ref y2])), (y2, .inl (cI, 29, .inl tr)), (ph, .inr (3, [.int (nI tm), .int ba, .ref p1, .ref q1])), (p1, .inr (4, [.ref p2])), (p2, .inl (cI, 29, .inl pe)), (q1, .inr (4, [.ref q2])), (q2, .inl (cI, 29, .inl pa)), (nh, .inr (2, [.ref i1, .ref j1, .ref k1, .int (nI ct)])), (i1, .inr (4, [.ref i2])), (i2, .inl (cI, 29, .inl st)), (j1, .inr (4, [.ref j2])), (j2, .inl (cI, 29, .inl ln)), (k1, .inr (4, [.ref k2])), (k2, .inl (cI, 29, .inl of))] :=
  ⟨so, sa, dh, t1, a1, t2, a2, kh, c1, cb, l1, lb, o1, ob, th0, u1, u3, v1, v3, y1, y2, ph, p1, p2, q1, q2, nh, i1, i2, j1, j2, k1, k2, mf, cf, ct, sf, tc, f, g, cn, la, co, to, ea, tr, pe, pa, st, ln, of, rfl, hI⟩
theorem t_room {n k : Nat} (hn : n ≤ 1024) (hk : k < 2147483648) (h : ¬ nI (1024 - n) < nI k) : n + k ≤ 1024 := by
  have h2 : ¬ (1024 - n < k) := fun q => h ((nI_ltI (a := 1024 - n) (b := k) (by omega) hk).mpr q)
  omega
theorem t_noroom {n k : Nat} (hn : n ≤ 1024) (hk : k < 2147483648) (h : nI (1024 - n) < nI k) : 1024 < n + k := by
  have := (nI_ltI (a := 1024 - n) (b := k) (by omega) hk).mp h
  omega
/-- in the range a .. b -/
def t_ir (v a b : Int32) : Prop := ¬ v < a ∧ ¬ b < v
theorem t_ir_n {v a b : Int32} (h : v < a ∨ b < v) : ¬ t_ir v a b := fun q => h.elim q.1 q.2
theorem t_mod_s {i n : Nat} (h : i % n + 1 < n) : i % n + 1 = (i + 1) % n := by
  rw [Nat.add_mod, Nat.mod_eq_of_lt (a := 1) (by omega), Nat.mod_eq_of_lt h]
theorem t_mod_0 {i n : Nat} (hn : 2 ≤ n) (h : n ≤ i % n + 1) : 0 = (i + 1) % n := by
  have := Nat.mod_lt i (show n > 0 by omega)
  rw [Nat.add_mod, Nat.mod_eq_of_lt (a := 1) (by omega), show i % n + 1 = n by omega, Nat.mod_self]
section TIN
variable {x : Nat → Int32} {n : Nat} {th un ju ch : Int32} {tm : Nat} {ba : Int32} {sf : Int32} {mf cf : Nat} {tc : Int32} {ct : Nat} {f g cn la co tr pe pa st ln of : Nat → Int32}
theorem t_inv_th (v : Int32) (h : t_inv x n th un ju ch tm ba sf mf cf tc ct f g cn la co tr pe pa st ln of) : t_inv x n v un ju ch tm ba (-1) mf 0 tc ct f g cn la co tr pe pa st ln of := by
  obtain ⟨h1, h2, h3, h4, h5, h6, h7, h8⟩ := h
  exact ⟨h1, h2, h3, Nat.zero_le _, h5, h6, fun k hk => absurd hk (Nat.not_lt_zero _), Or.inl rfl⟩
theorem t_inv_co (a b d : Int32) (h : t_inv x n th un ju ch tm ba sf mf cf tc ct f g cn la co tr pe pa st ln of) : t_inv x n th a b d tm ba (-1) mf cf tc ct f g cn la co tr pe pa st ln of := by
  obtain ⟨h1, h2, h3, h4, h5, h6, h7, h8⟩ := h
  exact ⟨h1, h2, h3, h4, h5, h6, h7, Or.inl rfl⟩
theorem t_inv_te {t2 : Nat} (b2 : Int32) (ht : t2 ≤ 2) (h : t_inv x n th un ju ch tm ba sf mf cf tc ct f g cn la co tr pe pa st ln of) : t_inv x n th un ju ch t2 b2 (-1) mf cf tc ct f g cn la co tr pe pa st ln of := by
  obtain ⟨h1, h2, h3, h4, h5, h6, h7, h8⟩ := h
  exact ⟨h1, ht, h3, h4, h5, h6, h7, Or.inl rfl⟩
theorem t_inv_cl (h : t_inv x n th un ju ch tm ba sf mf cf tc ct f g cn la co tr pe pa st ln of) : t_inv x 0 th un ju ch tm ba (-1) 0 0 tc ct f g cn la co tr pe pa st ln of := by
  obtain ⟨h1, h2, h3, h4, h5, h6, h7, h8⟩ := h
  exact ⟨Nat.zero_le _, h2, Nat.zero_le _, Nat.zero_le _, fun k hk => absurd hk (Nat.not_lt_zero _), h6, fun k hk => absurd hk (Nat.not_lt_zero _), Or.inl rfl⟩
theorem t_inv_me {f2 g2 : Nat → Int32} (h : t_inv x n th un ju ch tm ba sf mf cf tc ct f g cn la co tr pe pa st ln of) (h2 : t_okd x (t_F n) f2 g2) : t_inv x n th un ju ch tm ba sf (t_F n) cf tc ct f2 g2 cn la co tr pe pa st ln of := by
  obtain ⟨h1, h2', h3, h4, h5, h6, h7, h8⟩ := h
  exact ⟨h1, h2', Nat.le_refl _, h4, h2, h6, h7, h8⟩
end TIN
