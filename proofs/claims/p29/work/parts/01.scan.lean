/-! The printed room is too small for the class alone: from the witness' own start the class's constructor makes more fields and elements than the frame allows; what was made stays; so no end of this run keeps to the frame. -/
/-- n steps of the thread, each of them taken, with another frame above those below all the while; at their end more than so many fields and elements stand in the book -/
def fr_scan (tb : Tables) (e : Env) (bound : Nat) : Nat → State → Bool
  | 0, s => Nat.blt bound s.slotsUsed
  | n + 1, s => match s.frames, s.status, s.curStatus?, s.alone with
    | _ :: _ :: _, .running, some .runnable, true => fr_scan tb e bound n (stepThread tb e s).1
    | _, _, _, _ => false
theorem fr_scan_spec {tb : Tables} {e : Env} {bound : Nat} : ∀ {n : Nat} {s : State}, fr_scan tb e bound n s = true → (bound < (stepsAlone tb e n s).slotsUsed ∧ ∀ k, k < n → 2 ≤ (stepsAlone tb e k s).frames.length) := by
  intro n
  induction n with
  | zero => intro s h; exact ⟨Nat.blt_eq.mp h, fun k hk => absurd hk (Nat.not_lt_zero k)⟩
  | succ n ih =>
    intro s h
    unfold fr_scan at h
    split at h
    · rename_i h1 h2 h3 h4
      have hg : s.goesOn := ⟨h2, h3, h4⟩
      obtain ⟨i1, i2⟩ := ih h
      refine ⟨by rw [stepsAlone_succ _ hg]; exact i1, fun k hk => ?_⟩
      cases k with
      | zero => show 2 ≤ s.frames.length; rw [h1]; simp
      | succ k => rw [stepsAlone_succ _ hg]; exact i2 k (by omega)
    · exact absurd h (by decide)
/-- a run from a start of one frame below that has the book too full at some moment ends nowhere within the frame -/
theorem fr_not {l : Launch} {p : Program} {e : Env} {s : State} {m : MethodId} {args : Array Value} {f : NFrame} {ret : Option ClassFile.FieldType} {limb : Jvm.Cond} {R : Room} {N slots cells : Nat}
    (hfl : l.flags = flags0) (hst : AtStart classFile x code maxLocals ret World_1 tables_1 R Calls_1 rest_1 Pre_1 l p e s m args [.native f])
    (hrun : fr_scan p.tables e (s.slotsUsed + slots) N s = true) :
    ¬ ArmFor flags0 classFile x code maxLocals ret World_1 tables_1 R Calls_1 rest_1 Pre_1 (fun tb e a s o t => postC limb tb e a s o t ∧ Framed s o t (fieldLocs frame_1_writes a s ++ arrayLocs frame_1_arrays a s ++ staticLocs frame_1_statics s) cells slots) := by
  intro hA
  obtain ⟨hL, hW, had, -, hcas, hclk, hfr, hfit, hheap, happ, hcalls, hrest, hpre⟩ := hst
  obtain ⟨n, o, -, -, hend, -, ⟨v, rfl⟩, -, -, -, -, hused, hle, -⟩ := hA l hfl hL hW p e had hcas hclk s m args [.native f] hfr hfit hheap happ ⟨hcalls, hrest, hpre⟩
  obtain ⟨hbig, hin⟩ := fr_scan_spec hrun
  have hn : N ≤ n := by
    rcases Nat.lt_or_ge n N with h | h
    · have h2 := hin n h
      have h3 : (stepsAlone p.tables e n s).frames = [.native { f with awaiting := false, answer := some (.returned v) }] := hend
      rw [h3] at h2
      exact absurd h2 (by simp)
    · exact h
  obtain ⟨j, rfl⟩ := Nat.exists_eq_add_of_le hn
  have h3 := (stepsAlone_heap_grows_add p.tables e N j s).2
  have h4 : (stepsAlone p.tables e (N + j) s).slotsUsed ≤ s.slotsUsed + slots := Nat.le_trans (Nat.le_of_eq hused) (Nat.add_le_add_left hle _)
  omega
