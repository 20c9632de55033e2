/-! A state in which no class is found under the name of the array of StackTraceElement meets neither narrow_1_1 nor narrow_1_2 -/
def zl_has : Jvm.Cond → Bool
  | .and a b => zl_has a || zl_has b
  | .not (.castable c _) => c == "[Ljava/lang/StackTraceElement;"
  | _ => false
theorem zl_lacks {args : Array Value} {s : State} (h : s.vm.findClass "[Ljava/lang/StackTraceElement;" = none) (c : Jvm.Cond) (hc : zl_has c = true) : c.before args s = false := by
  fun_induction zl_has c with
  | case1 a b iha ihb =>
    rw [Cond.before_and]
    rcases Bool.or_eq_true _ _ ▸ hc with h1 | h1
    · rw [iha h1]; rfl
    · rw [ihb h1, Bool.and_false]
  | case2 c d =>
    have hn : c = "[Ljava/lang/StackTraceElement;" := by simpa using hc
    subst hn
    simp [Cond.before, Cond.holds, Cond.value, h]
  | case3 => exact absurd hc (by simp)
theorem zl_has_1 : zl_has narrow_1_1 = true := by decide +kernel
theorem zl_has_2 : zl_has narrow_1_2 = true := by decide +kernel
theorem zl_narrow_1 {args : Array Value} {s : State} (h : s.vm.findClass "[Ljava/lang/StackTraceElement;" = none) : narrow_1_1.before args s = false := zl_lacks h _ zl_has_1
theorem zl_narrow_2 {args : Array Value} {s : State} (h : s.vm.findClass "[Ljava/lang/StackTraceElement;" = none) : narrow_1_2.before args s = false := zl_lacks h _ zl_has_2
