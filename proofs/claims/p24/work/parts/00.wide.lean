/-! FIRST: a name of the wide library (part 74 needs it), so that a round on a new machine goes wide at once -/
theorem wide_first {s : State} {args : Array Value} (h : (Cond.arrayOver (.array .int)).before args s = true) : (Cond.arrayOver (.array .int)).before #[] s = true := Jvm.Stand.arrayOver_alikeB (Vm.Alike.refl s.vm) h
