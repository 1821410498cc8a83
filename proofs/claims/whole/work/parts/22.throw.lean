/-! methods that return or throw -/
def t_QV (D : va_G) (cI cL : ClassId) (post : va_W → Prop) (sz : Nat) (A : Nat → Prop) : Array Value → State → Outcome → State → Prop := va_Qv post (fun w1 t => t_at D cI cL A w1 t ∧ t.heap.size = sz) A
def t_QI (D : va_G) (cI cL : ClassId) (post : Int32 → va_W → Prop) (sz : Nat) (A : Nat → Prop) : Array Value → State → Outcome → State → Prop := va_Qi post (fun w1 t => t_at D cI cL A w1 t ∧ t.heap.size = sz) A
def t_XC (D : va_G) (cI cL : ClassId) (px : String → va_W → Prop) (A : Nat → Prop) : String → State → State → Prop := vx_X (S := va_W) (fun _ => True) (fun E w1 t => px E w1 ∧ t_at D cI cL A w1 t) A
theorem t_ofV {l : Launch} {D : va_G} {cI cL : ClassId} {y : MethodName} {ws ws' : List Cond} {rm : Room} {av : List Value} {wc : va_W} {sz mc ms : Nat} {Qc : (Nat → Prop) → Array Value → State → Outcome → State → Prop} {XC : (Nat → Prop) → String → State → State → Prop} {cc : ByteArray} {maxL : Nat} {ret : Option FieldType}
    (hy : plainName y.cls = true) (hw : ws = Cond.code y cc maxL ret :: ws') (hlen : (lg_sl av).length ≤ maxL)
    (body : ∀ (p : Program) (e : Env) (s : State) (m : MethodId) (below : List Frame) (meth : Method) (c : Code) (ls : Array Slot) (A : Nat → Prop), s.heap.size = sz → p.tables.exec = Jvm.exec → c.code = cc → c.maxLocals = maxL → s.vm.findClass y.cls = some m.cls → (∀ w ∈ ws, w.before av.toArray s = true) → meth.sig.returnType = ret → meth.locks = false → (∀ x ∈ c.exceptionTable.toList, False) → va_K D vwCl [(cI, .int), (cL, .long)] s → va_P D vwCl wc s.heap → va_D A wc → va_S A s.heap s.heap [] → (∀ q : Nat, s.heap.size ≤ q → A q) → t_X A s s.heap → lv_has ls maxL (lv_args 0 av) →
      W p l e rm s m av.toArray below meth c s.heap [] 0 0 (vx_MQ below (Qc A) (XC A) av.toArray s mc ms A) (F0 m 0 ls [])) : vx_Met l y ws rm (t_wPcX D cI cL av wc sz) (Qc (va_A wc sz)) (XC (va_A wc sz)) mc ms (va_A wc sz) := by
  refine vx_ofW (cc := cc) (maxL := maxL) (ret := ret) hy hw ?_
  intro p e s m args below meth c s₁ B hml hnt hv
  obtain ⟨rfl, hsz, hP, hK, hD0, hX⟩ := hv
  subst hsz
  have hD := hD0.self (sz := s.heap.size)
  have hl := lv_entry av (n := maxL) hlen
  rw [lg_entry_eq]
  generalize (lg_sl av ++ List.replicate (maxL - (lg_sl av).length) Slot.unset).toArray = ls at hl ⊢
  exact body p e s m below meth c ls _ rfl B.exec B.bytes hml (findClass_of_methodNamed B.named) (atoms_spec (ws := ws) B.pre) B.returns B.notSynchronized hnt hK hP hD va_S.rf (fun q h => Or.inr h) hX hl
section TX
variable {p : Program} {l : Launch} {e : Env} {R : Room} {s : State} {m : MethodId} {args : Array Value} {below : List Frame} {meth : Method} {c : Code} {H : Heap} {locs : List Loc} {cells slots : Nat} {Q : State → Prop} {g : JFrame}
/-- nothing was made: the heap is as large as at the start -/
theorem tv_size0 (kk : H.size = s.heap.size → W p l e R s m args below meth c H locs 0 0 Q g) : W p l e R s m args below meth c H locs 0 0 Q g := by
  intro T hT X
  have h1 := X.heapSize
  have h2 : s.heap.size ≤ T.heap.size := X.same.2.1
  rw [hT] at h1 h2
  exact kk (by omega) T hT X
theorem tv_reset (hz : H.size = s.heap.size) (kk : W p l e R s m args below meth c H locs 0 0 Q g) : W p l e R s m args below meth c H locs cells slots Q g := by
  intro T hT X
  refine kk T hT ?_
  obtain ⟨e1, e2, e3, e4, e5, e6⟩ := X.same
  have hz2 : (T.setVm s.vm).heap.size = s.heap.size := by show T.heap.size = _; rw [hT]; exact hz
  have hn : ((T.setVm s.vm).heap.toList.drop s.heap.size) = [] := List.drop_eq_nil_of_le (by rw [Array.length_toList]; omega)
  exact ⟨X.admits, X.cas, X.clock, X.frames, X.room, X.hears, X.method, X.code, X.here, X.tail, X.warmed, X.limits, X.bytes, ⟨e1, e2, by omega, e4, by rw [hn]; exact Nat.le_refl _, e6⟩⟩
theorem t_xthrow {D : va_G} {cI cL : ClassId} {A : Nat → Prop} {ws : va_W} {px : String → va_W → Prop} {E : String} (hP : va_P D vwCl ws H) (hD : va_D A ws) (hK : va_K D vwCl [(cI, .int), (cL, .long)] s) (hS : va_S A s.heap H locs) (hpx : px E ws) : ∀ t : State, s.vm.Alike t.vm → H.size ≤ t.heap.size → (∀ q : Nat, q < H.size → t.heap[q]? = H[q]?) → t_XC D cI cL px A E s t :=
  fun t ha hz hq => ⟨ws, trivial, ⟨hpx, hP.kept (fun k q hk => hq q.1 (hP k q hk).lt), va_K.moved ha hK, hD⟩, Nat.le_trans hS.1 hz, fun q h1 h2 => (hq q (Nat.lt_of_lt_of_le h1 hS.1)).trans (hS.2.1 q h1 h2)⟩
theorem t_xout {D : va_G} {cI cL : ClassId} {A : Nat → Prop} {ws : va_W} {px : String → va_W → Prop} {E : String} (hP : va_P D vwCl ws H) (hD : va_D A ws) (hK : va_K D vwCl [(cI, .int), (cL, .long)] s) (hS : va_S A s.heap H locs) (hpx : px E ws) : ∀ t : State, t.heap = H → s.vm.Alike t.vm → t_XC D cI cL px A E s t :=
  fun t ht ha => ⟨ws, trivial, ⟨hpx, by rw [ht]; exact hP, va_K.moved ha hK, hD⟩, hS.F ht⟩
end TX
/-- a number that lies in a range of naturals -/
theorem t_rng {v : Int32} {a b : Nat} (h1 : ¬ v < nI a) (h2 : ¬ nI b < v) (ha : a < 2147483648) (hb : b < 2147483648) : ∃ j : Nat, v = nI j ∧ a ≤ j ∧ j ≤ b := by
  rw [Int32.lt_iff_toInt_lt, nI_toInt ha] at h1
  rw [Int32.lt_iff_toInt_lt, nI_toInt hb] at h2
  obtain ⟨j, hj, rfl⟩ := nI_of (x := v) (by rw [Int32.lt_iff_toInt_lt, Int32.toInt_zero]; omega)
  rw [nI_toInt hj] at h1 h2
  exact ⟨j, rfl, by omega, by omega⟩
theorem t_idx {v : Int32} {b : Nat} (h1 : ¬ v < 0) (h2 : ¬ nI b ≤ v) (hb : b < 2147483648) : ∃ j : Nat, v = nI j ∧ j < b := by
  obtain ⟨j, hj, rfl⟩ := nI_of h1
  exact ⟨j, rfl, Nat.not_le.mp fun q => h2 ((nI_leI hb hj).mpr q)⟩
section TH
variable {args : Array Value} {s : State}
/-- the words of a throw, of the method's own and of what stands outside -/
theorem t_hat {own E : String} {ic : Nat} {names : List String} (h1 : ∀ w ∈ (vx_atS own ic E names).filter goodWord, w.before args s = true) (h2 : ∀ w ∈ (vx_atS own ic E names).filter (fun w => !goodWord w), w ∈ [Cond.castable E E, .declares (Bundle.initS "java/lang/RuntimeException"), .declares (Bundle.initS "java/lang/Exception"), .declares (Bundle.initS Bundle.tN)]) (h3 : va_Nw (.castable E E) s) (h4 : va_Nw (.declares (Bundle.initS "java/lang/RuntimeException")) s ∧ va_Nw (.declares (Bundle.initS "java/lang/Exception")) s ∧ va_Nw (.declares (Bundle.initS Bundle.tN)) s) : ∀ w ∈ vx_atS own ic E names, w.before args s = true :=
  vx_hat h1 h2 (vx_c (va_Nw.use rfl h3) (vx_c (va_Nw.use rfl h4.1) (vx_c (va_Nw.use rfl h4.2.1) (vx_c (va_Nw.use rfl h4.2.2) vx_n))))
end TH
theorem t_nge32 {x y : Int32} (h : ¬ x < y) : y ≤ x := by
  rw [Int32.lt_iff_toInt_lt] at h; rw [Int32.le_iff_toInt_le]; omega
theorem t_nle32n {x y : Int32} (h : x < y) : ¬ y ≤ x := by
  rw [Int32.lt_iff_toInt_lt] at h; rw [Int32.le_iff_toInt_le]; omega
