theorem arr_of {s : State} {args : Array Value} {ty : FieldType} (h : (Cond.arrayClass ty).before args s = true) : ∃ cA, s.vm.findClass ("[" ++ ty.toString) = some cA ∧ ArrOfT s cA ty := by
  obtain ⟨cA, kA, comp, h1, h2, h3⟩ := Cond.arrayClass_spec h
  exact ⟨cA, h1, fun N z => ⟨(fun k h => by cases h), kA, h2, comp, h3⟩⟩
theorem grid_of {s : State} {args : Array Value} {cI : ClassId} (h : (Cond.arrayOver (.array .int)).before args s = true) (hI : s.vm.findClass ("[" ++ FieldType.int.toString) = some cI) : ∃ cA, s.vm.findClass ("[" ++ (FieldType.array .int).toString) = some cA ∧ ArrOfT s cA (.array .int) ∧ E_grid cI cA s := by
  obtain ⟨comp, cA, kA, h1, h2, h3, h4, h5⟩ := arrayOverA_spec h
  have e : comp = cI := Option.some.inj (h1.symm.trans hI)
  subst e
  exact ⟨cA, h5, fun N z => ⟨(fun k h => by cases h), kA, h3, comp, h4⟩, kA, h3, h4⟩
