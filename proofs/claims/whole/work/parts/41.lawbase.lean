/-! the law's side: worlds of several opaque pieces, methods with a table of their own, class and model side by side -/
theorem t_Pm {D : va_G} {cl : List vw_C} {ws : va_W} {H : Heap} : va_P D cl ws H ↔ ∀ q ∈ ws, va_at D cl q H :=
  ⟨fun h q hq => by obtain ⟨k, hk⟩ := List.getElem?_of_mem hq; exact h k q hk, fun h k q hk => h q (List.mem_of_getElem? hk)⟩
theorem t_Dn {A : Nat → Prop} {ws : va_W} : va_D A ws ↔ ws.Pairwise (fun p q => p.1 ≠ q.1) ∧ ∀ q ∈ ws, A q.1 := by
  constructor
  · intro h
    refine ⟨List.pairwise_iff_getElem.mpr (fun i j hi hj hij e => ?_), fun q hq => ?_⟩
    · have := h.1 i j ws[i] ws[j] (List.getElem?_eq_getElem hi) (List.getElem?_eq_getElem hj) e
      omega
    · obtain ⟨k, hk⟩ := List.getElem?_of_mem hq
      exact h.2 k q hk
  · intro h
    refine ⟨fun i j p q hi hj e => ?_, fun k q hk => h.2 q (List.mem_of_getElem? hk)⟩
    obtain ⟨li, ei⟩ := List.getElem?_eq_some_iff.mp hi
    obtain ⟨lj, ej⟩ := List.getElem?_eq_some_iff.mp hj
    have hp := List.pairwise_iff_getElem.mp h.1
    rcases Nat.lt_trichotomy i j with c | c | c
    · exact absurd (by rw [ei, ej]; exact e) (hp i j li lj c)
    · exact c
    · exact absurd (by rw [ei, ej]; exact e.symm) (hp j i lj li c)
section TJ
variable {A0 : Nat → Prop} {D : va_G} {cl : List vw_C} {a b c b1 : va_W} {H0 H H1 : Heap} {locs : List Loc}
theorem t_midP (hP : va_P D cl (a ++ (b ++ c)) H) : va_P D cl b H := t_Pm.mpr fun q hq => t_Pm.mp hP q (List.mem_append_right _ (List.mem_append_left _ hq))
theorem t_midD (hD : va_D A0 (a ++ (b ++ c))) : va_D A0 b := by
  obtain ⟨d1, d2⟩ := t_Dn.mp hD
  rw [List.pairwise_append, List.pairwise_append] at d1
  exact t_Dn.mpr ⟨d1.2.1.1, fun q hq => d2 q (List.mem_append_right _ (List.mem_append_left _ hq))⟩
theorem t_midF (hD : va_D A0 (a ++ (b ++ c))) (hS : va_S A0 H0 H locs) (hA : ∀ q : Nat, H0.size ≤ q → A0 q) : ∀ q, va_A b H.size q → A0 q := by
  intro q h
  rcases h with ⟨k, e, h⟩ | h
  · exact (t_midD hD).2 k (q, e) h
  · exact hA q (Nat.le_trans hS.1 h)
theorem t_jmid (hP : va_P D cl (a ++ (b ++ c)) H) (hD : va_D A0 (a ++ (b ++ c))) (hk : ∀ q : Nat, q < H.size → ¬ va_A b H.size q → H1[q]? = H[q]?) (hF : ∀ q, va_A b H.size q → A0 q) (hP1 : va_P D cl b1 H1) (hD1 : va_D (va_A b H.size) b1) : va_P D cl (a ++ (b1 ++ c)) H1 ∧ va_D A0 (a ++ (b1 ++ c)) := by
  obtain ⟨dp, da⟩ := t_Dn.mp hD
  obtain ⟨p1, p2⟩ := t_Dn.mp hD1
  rw [List.pairwise_append, List.pairwise_append] at dp
  obtain ⟨d1, ⟨d2, d3, d4⟩, d5⟩ := dp
  have hm := t_Pm.mp hP
  have out : ∀ p : Nat × va_E, (p ∈ a ∨ p ∈ c) → p.1 < H.size ∧ ¬ va_A b H.size p.1 := by
    intro p hp
    have hpin : p ∈ a ++ (b ++ c) := by
      rcases hp with h | h
      · exact List.mem_append_left _ h
      · exact List.mem_append_right _ (List.mem_append_right _ h)
    have hl : p.1 < H.size := by
      obtain ⟨k, hk⟩ := List.getElem?_of_mem hpin
      exact (hP k p hk).lt
    refine ⟨hl, fun h => ?_⟩
    rcases h with ⟨k, e, h⟩ | h
    · have hb : (p.1, e) ∈ b := List.mem_of_getElem? h
      rcases hp with hp | hp
      · exact d5 p hp (p.1, e) (List.mem_append_left _ hb) rfl
      · exact d4 (p.1, e) hb p hp rfl
    · omega
  have keep : ∀ p : Nat × va_E, (p ∈ a ∨ p ∈ c) → va_at D cl p H1 := by
    intro p hp
    have hpin : p ∈ a ++ (b ++ c) := by
      rcases hp with h | h
      · exact List.mem_append_left _ h
      · exact List.mem_append_right _ (List.mem_append_right _ h)
    obtain ⟨k, hk2⟩ := List.getElem?_of_mem hpin
    exact (hP k p hk2).kept (hk p.1 (out p hp).1 (out p hp).2)
  refine ⟨t_Pm.mpr (fun q hq => ?_), t_Dn.mpr ⟨?_, fun q hq => ?_⟩⟩
  · rcases List.mem_append.mp hq with h | h
    · exact keep q (Or.inl h)
    · rcases List.mem_append.mp h with h | h
      · exact t_Pm.mp hP1 q h
      · exact keep q (Or.inr h)
  · rw [List.pairwise_append, List.pairwise_append]
    refine ⟨d1, ⟨p1, d3, fun x hx y hy => ?_⟩, fun x hx y hy => ?_⟩
    · intro e
      exact (out y (Or.inr hy)).2 (by rw [← e]; exact p2 x hx)
    · rcases List.mem_append.mp hy with h | h
      · intro e
        exact (out x (Or.inl hx)).2 (by rw [e]; exact p2 y h)
      · exact d5 x hx y (List.mem_append_right _ h)
  · rcases List.mem_append.mp hq with h | h
    · exact da q (List.mem_append_left _ h)
    · rcases List.mem_append.mp h with h | h
      · exact hF q.1 (p2 q h)
      · exact da q (List.mem_append_right _ (List.mem_append_right _ h))
theorem t_endP (hP : va_P D cl (a ++ b) H) : va_P D cl b H := t_midP (a := a) (c := []) (by rw [List.append_nil]; exact hP)
theorem t_endD (hD : va_D A0 (a ++ b)) : va_D A0 b := t_midD (a := a) (c := []) (by rw [List.append_nil]; exact hD)
theorem t_endF (hD : va_D A0 (a ++ b)) (hS : va_S A0 H0 H locs) (hA : ∀ q : Nat, H0.size ≤ q → A0 q) : ∀ q, va_A b H.size q → A0 q := t_midF (a := a) (c := []) (by rw [List.append_nil]; exact hD) hS hA
theorem t_jend (hP : va_P D cl (a ++ b) H) (hD : va_D A0 (a ++ b)) (hk : ∀ q : Nat, q < H.size → ¬ va_A b H.size q → H1[q]? = H[q]?) (hF : ∀ q, va_A b H.size q → A0 q) (hP1 : va_P D cl b1 H1) (hD1 : va_D (va_A b H.size) b1) : va_P D cl (a ++ b1) H1 ∧ va_D A0 (a ++ b1) := by
  have h := t_jmid (a := a) (b := b) (c := []) (b1 := b1) (by rw [List.append_nil]; exact hP) (by rw [List.append_nil]; exact hD) hk hF hP1 hD1
  rw [List.append_nil] at h
  exact h
theorem t_fstP (hP : va_P D cl (b ++ c) H) : va_P D cl b H := t_midP (a := []) (c := c) hP
theorem t_fstD (hD : va_D A0 (b ++ c)) : va_D A0 b := t_midD (a := []) (c := c) hD
theorem t_fstF (hD : va_D A0 (b ++ c)) (hS : va_S A0 H0 H locs) (hA : ∀ q : Nat, H0.size ≤ q → A0 q) : ∀ q, va_A b H.size q → A0 q := t_midF (a := []) (c := c) hD hS hA
theorem t_jfst (hP : va_P D cl (b ++ c) H) (hD : va_D A0 (b ++ c)) (hk : ∀ q : Nat, q < H.size → ¬ va_A b H.size q → H1[q]? = H[q]?) (hF : ∀ q, va_A b H.size q → A0 q) (hP1 : va_P D cl b1 H1) (hD1 : va_D (va_A b H.size) b1) : va_P D cl (b1 ++ c) H1 ∧ va_D A0 (b1 ++ c) := t_jmid (a := []) hP hD hk hF hP1 hD1
end TJ
/-- a body with handlers that itself always returns -/
theorem t_metWH {l : Launch} {y : MethodName} {ws ws' : List Cond} {rm : Room} {Pc : Array Value → State → Prop} {Qc : Array Value → State → Outcome → State → Prop} {mc ms : Nat} {free : Addr → Prop} {cc : ByteArray} {maxL : Nat} {ret : Option FieldType} {hh : List (Nat × Nat × Nat × Nat)}
    (hy : plainName y.cls = true) (hw : ws = Cond.codeWith y cc maxL ret hh :: ws')
    (body : ∀ p e s m args below meth c s₁, BodyLoose p l y (headSpec ws rm) cc maxL ret e s m args below meth c s₁ → c.maxLocals = maxL → Pc args s →
      W p l e (headSpec ws rm).room s m args below meth c s.heap [] 0 0 (MQ below Qc args s mc ms free) (entryFrame m args maxL)) : Met l y ws rm Pc Qc mc ms free := by
  refine MetFree.of_bodyS (code := cc) (maxLocals := maxL) (ret := ret) hy ?_ ?_
  · intro args s m h hn
    obtain ⟨m9, meth, c, hn9, h1, h2, h3, h4, -, h5, h6, -⟩ := Cond.codeWith_spec (atoms_spec (ws := ws) h _ (by rw [hw]; exact List.mem_cons_self))
    cases hn.symm.trans hn9
    exact ⟨meth, c, h1, h2, h3, h4, h5, h6⟩
  · intro p e s m args below meth c s₁ B hml hP _
    have hh0 : s₁.heap = s.heap := by rw [B.state]; rfl
    obtain ⟨t, a1, o, b1, b2, b3⟩ := body p e s m args below meth c s₁ B hml hP s₁ hh0 (Stand.of_body B)
    exact ⟨t, o, a1, b1, b2, b3⟩
theorem t_ofH {l : Launch} {D : va_G} {cI cL : ClassId} {y : MethodName} {ws ws' : List Cond} {rm : Room} {av : List Value} {wc : va_W} {sz mc ms : Nat} {Qc : (Nat → Prop) → Array Value → State → Outcome → State → Prop} {cc : ByteArray} {maxL : Nat} {ret : Option FieldType} {hh : List (Nat × Nat × Nat × Nat)}
    (hy : plainName y.cls = true) (hw : ws = Cond.codeWith y cc maxL ret hh :: ws') (hlen : (lg_sl av).length ≤ maxL)
    (body : ∀ (p : Program) (e : Env) (s : State) (m : MethodId) (below : List Frame) (meth : Method) (c : Code) (ls : Array Slot) (A : Nat → Prop), p.tables.exec = Jvm.exec → c.code = cc → c.maxLocals = maxL → s.vm.findClass y.cls = some m.cls → (∀ w ∈ ws, w.before av.toArray s = true) → meth.sig.returnType = ret → meth.locks = false → c.exceptionTable.toList = tableOf hh → va_K D vwCl [(cI, .int), (cL, .long)] s → va_P D vwCl wc s.heap → va_D A wc → va_S A s.heap s.heap [] → (∀ q : Nat, s.heap.size ≤ q → A q) → t_X A s s.heap → lv_has ls maxL (lv_args 0 av) →
      W p l e rm s m av.toArray below meth c s.heap [] 0 0 (MQ below (Qc A) av.toArray s mc ms A) (F0 m 0 ls [])) : Met l y ws rm (t_wPcX D cI cL av wc sz) (Qc (va_A wc sz)) mc ms (va_A wc sz) := by
  refine t_metWH (cc := cc) (maxL := maxL) (ret := ret) (hh := hh) hy hw ?_
  intro p e s m args below meth c s₁ B hml hv
  obtain ⟨rfl, hsz, hP, hK, hD0, hX⟩ := hv
  subst hsz
  have hD := hD0.self (sz := s.heap.size)
  have hts := atoms_spec (ws := ws) B.pre
  have htb := vx_table (x := y) B (hts _ (by rw [hw]; exact List.mem_cons_self))
  have hl := lv_entry av (n := maxL) hlen
  rw [lg_entry_eq]
  generalize (lg_sl av ++ List.replicate (maxL - (lg_sl av).length) Slot.unset).toArray = ls at hl ⊢
  exact body p e s m below meth c ls _ B.exec B.bytes hml (findClass_of_methodNamed B.named) hts B.returns B.notSynchronized htb hK hP hD va_S.rf (fun q h => Or.inr h) hX hl
/-! class and model hold the same -/
def t_agr (x y : Nat → Int32) (n : Nat) : Prop := ∀ i, i < n → x i = y i
theorem t_agr_same {x y : Nat → Int32} {n : Nat} (h : t_agr x y n) : t_same x y (t_F n) := fun k hk i hi => by
  have := t_F_in hk
  exact h i (by omega)
theorem t_agr_upd {x y : Nat → Int32} {n : Nat} {v : Int32} (h : t_agr x y n) : t_agr (upd x n v) (upd y n v) (n + 1) := fun i hi => by
  by_cases e : i = n
  · rw [e, pk_us, pk_us]
  · rw [pk_un e, pk_un e]; exact h i (by omega)
theorem t_agr_add {x y : Nat → Int32} {n : Nat} {v : Nat → Int32} (h : t_agr x y n) : ∀ k, t_agr (t_add x n v k) (t_add y n v k) (n + k)
  | 0 => h
  | k + 1 => fun i hi => by
    show upd (t_add x n v k) (n + k) (v k) i = upd (t_add y n v k) (n + k) (v k) i
    by_cases e : i = n + k
    · rw [e, pk_us, pk_us]
    · rw [pk_un e, pk_un e]; exact t_agr_add h k i (by omega)
theorem t_noF {F j : Nat} {v : Int32} (hv : v = nI j) (hj : j < F) (hF : F < 2147483648) (h : v < 0 ∨ nI F ≤ v) : False := by
  rw [hv] at h
  rcases h with h | h
  · exact nI_pos (by omega) h
  · have := (nI_leI (by omega) (by omega)).mp h
    omega
theorem t_nIj {v : Int32} {i j B : Nat} (h1 : v = nI i) (h2 : v = nI j) (hi : i < B) (hj : j < B) (hB : B ≤ 2147483648) : i = j := (nI_eq (by omega) (by omega)).mp (h1.symm.trans h2)
theorem t_LX_in (x : Nat → Int32) (th un ju ch : Int32) {n k : Nat} (hk : k < n) : t_LX x th un ju ch n k = 0 ∨ (2 ≤ t_LX x th un ju ch n k ∧ t_LX x th un ju ch n k ≤ 63) :=
  (t_trk_in (tr := fun k => nI (t_LX x th un ju ch n k)) (fun _ _ _ => rfl) k hk).2
section TK
variable {x y : Nat → Int32} {n k : Nat} {th un ju ch : Int32}
theorem t_pe_c (h : t_same x y n) (hk : k < n) {j : Nat} (hj : j ≤ 63) : t_pe (t_df x k) j = t_pe (t_df y k) j := t_pe_congr (fun i hi => t_df_congr (h k hk) hi) hj
theorem t_PE_c (h : t_same x y n) (hk : k < n) : t_PE x th un ju ch n k = t_PE y th un ju ch n k := by
  unfold t_PE
  have hb := t_LX_in y th un ju ch hk
  rw [t_LX_congr h hk]
  generalize t_LX y th un ju ch n k = L at hb ⊢
  exact t_pe_c h hk (by omega)
theorem t_PT_c (h : t_same x y n) (hk : k < n) {tm : Nat} {ba : Int32} : t_PT x th un ju ch tm ba n k = t_PT y th un ju ch tm ba n k := by
  unfold t_PT
  have hb := t_LX_in y th un ju ch hk
  rw [t_LX_congr h hk]
  generalize t_LX y th un ju ch n k = L at hb ⊢
  unfold t_pa
  rw [t_pe_c h hk (by omega)]
theorem t_on_c (h : t_same x y n) (hk : k < n) : t_on x k = t_on y k := t_on_congr (h k hk)
theorem t_nnN_c (h : t_same x y n) {tm : Nat} {ba : Int32} : t_nn (t_PT x th un ju ch tm ba n) (t_on x) n = t_nn (t_PT y th un ju ch tm ba n) (t_on y) n := t_nn_congr (fun i hi => t_PT_c h hi) (fun i hi => t_on_c h hi)
theorem t_sts_c (h : t_same x y n) {tm j : Nat} {ba : Int32} : t_sts (t_PT x th un ju ch tm ba n) (t_on x) n j = t_sts (t_PT y th un ju ch tm ba n) (t_on y) n j := congrFun (t_sts_congr (fun i hi => t_PT_c h hi) (fun i hi => t_on_c h hi)) j
theorem t_lns_c (h : t_same x y n) {tm j : Nat} {ba : Int32} : t_lns (t_PT x th un ju ch tm ba n) (t_on x) n j = t_lns (t_PT y th un ju ch tm ba n) (t_on y) n j := congrFun (t_lns_congr (fun i hi => t_PT_c h hi) (fun i hi => t_on_c h hi)) j
theorem t_of_c (h : t_same x y n) (hk : k < n) {tm : Nat} {ba : Int32} : t_of (t_PT x th un ju ch tm ba n) (t_on x) k = t_of (t_PT y th un ju ch tm ba n) (t_on y) k := t_of_congr (n := n) (fun i hi => t_PT_c h hi) (fun i hi => t_on_c h hi) hk
theorem t_cs_c (h : t_same x y n) (hk : k < n) : t_cs (t_df x k) (t_sm x k) th = t_cs (t_df y k) (t_sm y k) th := t_cs_congr (fun j h1 h2 => ⟨t_df_congr (h k hk) h2, t_sm_congr (h k hk) h2⟩)
theorem t_mean_c (h : t_same x y n) (hk : k < n) {j : Nat} (hj : j ≤ 64) : t_mean (t_df x k) (t_sm x k) j = t_mean (t_df y k) (t_sm y k) j := t_mean_congr (t_df_congr (h k hk) hj) (t_sm_congr (h k hk) hj)
end TK
/-- after a call: k the code, o the class's answer, b the model's -/
def t_LJ (cI : ClassId) (h g : Nat) (k : Int32) (o : Int64) (b : Int32) (W1 M1 : va_W) : Prop := (k = nI 0 → o = b.toInt64) ∧ ∃ (x y : Nat → Int32) (n : Nat) (th un ju ch : Int32) (tm : Nat) (ba : Int32), t_obj cI h x n th un ju ch tm ba W1 ∧ t_mob cI g y n th un ju ch tm ba k M1 ∧ t_agr x y n
theorem t_nI10 : ¬ (nI 1 : Int32) = nI 0 := by decide +kernel
theorem t_nI20 : ¬ (nI 2 : Int32) = nI 0 := by decide +kernel
theorem t_mob_n {cI : ClassId} {h : Nat} {x : Nat → Int32} {n : Nat} {th un ju ch : Int32} {tm : Nat} {ba thr : Int32} {Wo : va_W} (hO : t_mob cI h x n th un ju ch tm ba thr Wo) : n ≤ 1024 :=
  t_mob_elim (P := fun _ => n ≤ 1024) hO (by intros; rename_i hrg; exact hrg.1)
