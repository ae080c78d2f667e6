section
/-! the whole library is wanted (rows of rows, part 74) -/
theorem w_lib (c : ClassId) (N q : Nat) : Jvm.Free.Multi.outerC c N q 0 = Jvm.Free.Multi.outerC c N q 0 := rfl
end
