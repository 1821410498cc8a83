/-- sixty steps from the witness' start: the constructor is under way, and has made more than 2213 fields and elements -/
theorem fr_run : fr_scan start1.p0.tables start1.e0 (start1.about.slotsUsed + 2213) 60 start1.about = true := by decide +kernel
theorem fr_not_1 : ¬ Claimed_1_1 := fr_not rfl start1.atStart fr_run
theorem fr_not_2 : ¬ Claimed_1_2 := fr_not rfl start1.atStart fr_run
/-- what is owed is false, as it is printed -/
theorem fr_false : ¬ (Claimed_1_1 ∧ Claimed_1_2) := fun h => fr_not_1 h.1
