/-- every state that meets the claim's premises has the class of arrays of java.lang.StackTraceElement: the printed start has no such class, so it can't meet them -/
theorem gp_loaded {args : Array Value} {s : State} (h : (Jvm.Cond.and given_1 narrow_1).before args s = true) : (s.vm.findClass "[Ljava/lang/StackTraceElement;").isSome = true := by
  have hc : (Cond.not (Cond.castable "[Ljava/lang/StackTraceElement;" "java/lang/String")).before args s = true := flat_of_before _ h _ (by decide +kernel)
  cases hf : s.vm.findClass "[Ljava/lang/StackTraceElement;" with
  | some c => rfl
  | none => simp [Cond.before, Cond.holds, Cond.value, hf] at hc
