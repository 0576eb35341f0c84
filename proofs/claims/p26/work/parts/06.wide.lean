/-- a name of the rest of the library, early: so that the round is read over the whole of it from its first part on -/
theorem wide_0 (c : ClassId) : Jvm.Free.Multi.outerC c = Jvm.Free.Multi.outerC c := rfl
