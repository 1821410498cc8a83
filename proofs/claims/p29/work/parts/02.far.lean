/-- the witness' start, up to the constructor's first row of ints -/
def fr_a : State := stepsAlone start1.p0.tables start1.e0 16 start1.about
theorem fr_a_up : fr_up start1.p0.tables start1.e0 16 start1.about = true := by decide +kernel
theorem fr_a_ok : fr_ok start1.e0 20 19 1024 fr_a = true := by decide +kernel
/-- up to its second, the first table's -/
def fr_b : State := stepsAlone start1.p0.tables start1.e0 30 (fr_next 20 1024 fr_a)
theorem fr_b_up : fr_up start1.p0.tables start1.e0 30 (fr_next 20 1024 fr_a) = true := by decide +kernel
theorem fr_b_ok : fr_ok start1.e0 20 19 1885 fr_b = true := by decide +kernel
theorem fr_far : start1.about.slotsUsed + 2213 < (fr_next 20 1885 fr_b).slotsUsed := by decide +kernel
theorem fr_exec : start1.p0.tables.exec = Jvm.exec := rfl
/-- from the witness' start the run comes to a state with more than 2213 new fields and elements -/
theorem fr_run : fr_To start1.p0 start1.e0 start1.about (fr_next 20 1885 fr_b) :=
  (fr_To.of_up fr_a_up).trans ((fr_new fr_exec fr_a_ok).trans ((fr_To.of_up fr_b_up).trans (fr_new fr_exec fr_b_ok)))
theorem fr_not_1 : ¬ Claimed_1_1 := fr_not rfl start1.atStart fr_run fr_far
theorem fr_not_2 : ¬ Claimed_1_2 := fr_not rfl start1.atStart fr_run fr_far
/-- what is owed is false, as it is printed -/
theorem fr_false : ¬ (Claimed_1_1 ∧ Claimed_1_2) := fun h => fr_not_1 h.1
