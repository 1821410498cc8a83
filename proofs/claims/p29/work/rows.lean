section
/-! The printed room is too small for the class alone: from the witness' own start the class's constructor makes more fields and elements than the frame allows; what was made stays; so no end of this run keeps to the frame. -/
/-- from s the thread comes to t, with another frame above the one below all the while -/
def fr_To (p : Program) (e : Env) (s t : State) : Prop := ∃ n, stepsAlone p.tables e n s = t ∧ ∀ k, k < n → 2 ≤ (stepsAlone p.tables e k s).frames.length
theorem fr_To.trans {p : Program} {e : Env} {s t u : State} (h : fr_To p e s t) (h2 : fr_To p e t u) : fr_To p e s u := by
  obtain ⟨n, rfl, a⟩ := h
  obtain ⟨j, rfl, b⟩ := h2
  refine ⟨n + j, stepsAlone_add .., fun k hk => ?_⟩
  rcases Nat.lt_or_ge k n with h | h
  · exact a k h
  · obtain ⟨i, rfl⟩ := Nat.exists_eq_add_of_le h
    rw [stepsAlone_add]; exact b i (by omega)
theorem fr_To.of_steps {p : Program} {e : Env} {s t : State} {below : List Frame} (hb : 1 ≤ below.length) (h : Steps p.tables e below s t) : fr_To p e s t := by
  obtain ⟨n, a, b⟩ := h
  refine ⟨n, a, fun k hk => ?_⟩
  obtain ⟨above, h1, h2, -⟩ := b k hk
  rw [h1, List.length_append]
  cases above with
  | nil => exact absurd rfl h2
  | cons y ys => simp only [List.length_cons]; omega
/-- n steps of the thread, each of them taken -/
def fr_up (tb : Tables) (e : Env) : Nat → State → Bool
  | 0, _ => true
  | n + 1, s => match s.frames, s.status, s.curStatus?, s.alone with
    | _ :: _ :: _, .running, some .runnable, true => fr_up tb e n (stepThread tb e s).1
    | _, _, _, _ => false
theorem fr_To.of_up {p : Program} {e : Env} : ∀ {n : Nat} {s : State}, fr_up p.tables e n s = true → fr_To p e s (stepsAlone p.tables e n s) := by
  intro n
  induction n with
  | zero => intro s _; exact ⟨0, rfl, fun k hk => absurd hk (Nat.not_lt_zero k)⟩
  | succ n ih =>
    intro s h
    unfold fr_up at h
    split at h
    · rename_i h1 h2 h3 h4
      have hg : s.goesOn := ⟨h2, h3, h4⟩
      have h5 : fr_To p e s (stepThread p.tables e s).1 := ⟨1, by rw [stepsAlone_succ 0 hg]; rfl, fun k hk => by
        (obtain rfl : k = 0 := by omega)
        show 2 ≤ s.frames.length
        rw [h1]; simp⟩
      rw [stepsAlone_succ _ hg]
      exact h5.trans (ih h)
    · exact absurd h (by decide)
/-- a start of one frame below, a run that has the book too full at some moment: it ends nowhere within the frame -/
theorem fr_not {l : Launch} {p : Program} {e : Env} {s t : State} {m : MethodId} {args : Array Value} {f : NFrame} {limb : Jvm.Cond} {R : Room} {cells slots : Nat}
    (hfl : l.flags = flags0) (hst : AtStart classFile x code maxLocals ret World_1 tables_1 R Calls_1 rest_1 Pre_1 l p e s m args [.native f])
    (hrun : fr_To p e s t) (hbig : s.slotsUsed + slots < t.slotsUsed) :
    ¬ ArmFor flags0 classFile x code maxLocals ret World_1 tables_1 R Calls_1 rest_1 Pre_1 (fun tb e a s o t => postC limb tb e a s o t ∧ Framed s o t (fieldLocs frame_1_writes a s ++ arrayLocs frame_1_arrays a s ++ staticLocs frame_1_statics s) cells slots) := by
  intro hA
  obtain ⟨hL, hW, had, -, hcas, hclk, hfr, hfit, hheap, happ, hcalls, hrest, hpre⟩ := hst
  obtain ⟨n, o, -, -, hend, -, ⟨v, rfl⟩, -, -, -, -, hused, hle, -⟩ := hA l hfl hL hW p e had hcas hclk s m args [.native f] hfr hfit hheap happ ⟨hcalls, hrest, hpre⟩
  obtain ⟨N, rfl, hin⟩ := hrun
  have hn : N ≤ n := by
    rcases Nat.lt_or_ge n N with h | h
    · have h2 := hin n h
      have h3 : (stepsAlone p.tables e n s).frames = [.native { f with awaiting := false, answer := some (.returned v) }] := hend
      rw [h3] at h2
      exact absurd h2 (by simp)
    · exact h
  obtain ⟨j, rfl⟩ := Nat.exists_eq_add_of_le hn
  have h3 := (stepsAlone_heap_grows_add p.tables e N j s).2
  have h4 : (stepsAlone p.tables e (N + j) s).slotsUsed ≤ s.slotsUsed + slots := Nat.le_trans (Nat.le_of_eq hused) (Nat.add_le_add_left hle _)
  omega
/-- the state behind a 'newarray int' of n elements -/
def fr_next (cA : ClassId) (n : Nat) (T : State) : State := match T.topJava? with
  | some g => ({ T with heap := T.heap.push { cls := cA, slots := Array.replicate n (.int 0), vm := .none }, slotsUsed := T.slotsUsed + n } : State).setTop { g with pc := g.pc + 2, stack := .ref T.heap.size :: g.stack.tail }
  | none => T
/-- all that a 'newarray int' of n elements wants -/
def fr_ok (e : Env) (cA comp : ClassId) (n : Nat) (T : State) : Bool := match T.topJava? with
  | some g => match T.code? g.method, g.stack, T.vm.classes[cA]? with
    | some c, .int k :: _, some K => decide (decode c.code g.pc = .ok (.newarray .int, 2)) && decide (k.toNatClampNeg = n) && decide (¬ k < 0) && decide (T.vm.findClass ("[" ++ (newarray.typeOf .int).toString) = some cA) && decide (K.kind = .array comp (newarray.typeOf .int))
        && decide (n ≤ e.platform.arrayLengthLimit) && decide (n * 4 ≤ e.platform.maxHeapBytes) && decide (T.heap.size < e.platform.maxCells) && decide (T.slotsUsed + n ≤ e.platform.maxSlots)
        && decide (T.status = .running) && decide (T.curStatus? = some .runnable) && T.alone && Nat.ble 1 T.frames.tail.length
        && (match T.vm.classes[g.method.cls]? with | some q => plainName q.name || rowless q g.method.idx | none => true)
    | _, _, _ => false
  | none => false
theorem fr_new {p : Program} {e : Env} {cA comp : ClassId} {n : Nat} {T : State} (hexec : p.tables.exec = Jvm.exec) (h : fr_ok e cA comp n T = true) : fr_To p e T (fr_next cA n T) := by
  unfold fr_ok at h
  split at h
  · rename_i g hg
    split at h
    · rename_i c k rest K hc hs hK
      simp only [Bool.and_eq_true, decide_eq_true_eq] at h
      obtain ⟨⟨⟨⟨⟨⟨⟨⟨⟨⟨⟨⟨⟨hd, hk⟩, hn⟩, hf⟩, hkind⟩, hlim⟩, hby⟩, hce⟩, hsl⟩, hrun⟩, hable⟩, halone⟩, hbl⟩, hpl⟩ := h
      have hplain : T.plainMethod g.method := by
        intro q hq
        rw [hq] at hpl; exact hpl
      have hAt : At T g.method c T.frames.tail := ⟨by rw [hg]; rfl, ⟨[], rfl⟩, hrun, hable, halone, hc, hplain⟩
      refine fr_To.of_steps (below := T.frames.tail) (Nat.le_of_ble_eq_true hbl) ?_
      have h0 : T = T.setTop g := (State.setTop_self hg).symm
      have h1 : fr_next cA n T = (T.pushCell { cls := cA, slots := Array.replicate k.toNatClampNeg (defaultValue (newarray.typeOf .int)), vm := .none }).setTop { g with pc := g.pc + 2, stack := .ref T.heap.size :: rest } := by
        have hq : fr_next cA n T = ({ T with heap := T.heap.push { cls := cA, slots := Array.replicate n (.int 0), vm := .none }, slotsUsed := T.slotsUsed + n } : State).setTop { g with pc := g.pc + 2, stack := .ref T.heap.size :: g.stack.tail } := by
          unfold fr_next; rw [hg]
        rw [hq, hs, hk]
        simp [State.pushCell, defaultValue, newarray.typeOf]
      rw [h1]
      have hlimit : ¬ k.toNatClampNeg > e.platform.arrayLengthLimit := by rw [hk]; omega
      have hheap : ¬ k.toNatClampNeg * componentBytes (newarray.typeOf .int) > e.platform.maxHeapBytes := by
        rw [hk]; show ¬ n * 4 > _; omega
      suffices hgo : Steps p.tables e T.frames.tail (T.setTop g) ((T.pushCell { cls := cA, slots := Array.replicate k.toNatClampNeg (defaultValue (newarray.typeOf .int)), vm := .none }).setTop { g with pc := g.pc + 2, stack := .ref T.heap.size :: rest }) by
        rw [State.setTop_self hg] at hgo; exact hgo
      jvm_step hAt [hexec, hd, newarray.wp_ready (atype := .int) (e := e) (s := T) (f := g) (c := cA) (k := K) (comp := comp) hAt.top hf hK hkind hs hn hlimit hheap]
      exact ⟨hce, by rw [hk]; exact hsl, Steps.refl _⟩
    · exact absurd h (by decide)
  · exact absurd h (by decide)
end
section
/-- the witness' start, up to the constructor's first row of ints -/
def fr_a : State := stepsAlone start1.p0.tables start1.e0 16 start1.about
theorem fr_a_up : fr_up start1.p0.tables start1.e0 16 start1.about = true := by decide +kernel
theorem fr_a_ok : fr_ok start1.e0 20 19 1024 fr_a = true := by decide +kernel
/-- up to its second, the first table's -/
def fr_b : State := stepsAlone start1.p0.tables start1.e0 30 (fr_next 20 1024 fr_a)
theorem fr_b_up : fr_up start1.p0.tables start1.e0 30 (fr_next 20 1024 fr_a) = true := by decide +kernel
theorem fr_b_ok : fr_ok start1.e0 20 19 1885 fr_b = true := by decide +kernel
theorem fr_far : start1.about.slotsUsed + 2213 < (fr_next 20 1885 fr_b).slotsUsed := by decide +kernel
theorem fr_exec : start1.p0.tables.exec = Jvm.exec := rfl
/-- from the witness' start the run comes to a state with more than 2213 new fields and elements -/
theorem fr_run : fr_To start1.p0 start1.e0 start1.about (fr_next 20 1885 fr_b) :=
  (fr_To.of_up fr_a_up).trans ((fr_new fr_exec fr_a_ok).trans ((fr_To.of_up fr_b_up).trans (fr_new fr_exec fr_b_ok)))
theorem fr_not_1 : ¬ Claimed_1_1 := fr_not rfl start1.atStart fr_run fr_far
theorem fr_not_2 : ¬ Claimed_1_2 := fr_not rfl start1.atStart fr_run fr_far
/-- what is owed is false, as it is printed -/
theorem fr_false : ¬ (Claimed_1_1 ∧ Claimed_1_2) := fun h => fr_not_1 h.1
end
