/-- a name of the library's rest: from here on the rounds are read over the whole of it -/
theorem nz_wide (s : State) (c comp : ClassId) (N M : Nat) (dv : Value) (i : Nat) : (Jvm.Free.Multi.fill s c comp N M dv i).heap.size = s.heap.size + 1 + i := (Jvm.Free.Multi.fill_facts s c comp N M dv i).1
