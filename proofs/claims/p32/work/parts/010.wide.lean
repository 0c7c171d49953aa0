/-! new int[n][k] (part 11) is of a part of the library that a narrow round doesn't hold: named here, so that a round over new parts finds that out at its start -/
theorem xwide : @Jvm.Free.Multi.outerC = @Jvm.Free.Multi.outerC := rfl
