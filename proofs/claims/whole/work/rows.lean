section
/-- a premise 'not castable' of a class that isn't there is no premise that holds -/
theorem zz_cast_none {args : Array Value} {s : State} {C T : String} (h : s.vm.findClass C = none) : (Cond.not (.castable C T)).before args s = false := by
  simp [Cond.before, Cond.holds, Cond.value, h]
theorem zz_and_l {args : Array Value} {s : State} {a b : Cond} (h : a.before args s = false) : (Cond.and a b).before args s = false := by
  rw [Cond.before_and, h]; rfl
theorem zz_and_r {args : Array Value} {s : State} {a b : Cond} (h : b.before args s = false) : (Cond.and a b).before args s = false := by
  rw [Cond.before_and, h]; simp
/-- the statement's own premises ask for a class of arrays of stack trace elements in the launch: a start without it meets them not -/
theorem zz_needs_trace_class {args : Array Value} {s : State} (h : (Jvm.Cond.and given_1 narrow_1).before args s = true) : s.vm.findClass "[Ljava/lang/StackTraceElement;" ≠ none := by
  intro hn
  have hs := flat_of_before _ h
  have h1 : (Cond.not (.castable "[Ljava/lang/StackTraceElement;" "java/lang/String")).before args s = true := hs _ (by decide +kernel)
  rw [zz_cast_none hn] at h1
  cases h1
end
