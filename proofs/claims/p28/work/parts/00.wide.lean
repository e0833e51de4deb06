/-! this name makes every round go over the wide library from its first part on -/
theorem zWide (c : ClassId) (N h0 i : Nat) : Jvm.Free.Multi.outerC c N h0 i = Jvm.Free.Multi.outerC c N h0 i := rfl
