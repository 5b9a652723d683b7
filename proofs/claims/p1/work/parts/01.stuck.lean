-- p1: what the premises ask of the table of classes, as far as it bears on REPORT.md, TRANSLATOR 1:
-- where no class of this name is in the table, a word 'can't be cast' on it is not true, so the premises are not met.
theorem sw_word (t : String) (args : Array Value) (s : State) (h : s.vm.findClass "[Ljava/lang/StackTraceElement;" = none) :
    (Cond.not (Cond.castable "[Ljava/lang/StackTraceElement;" t)).before args s = false := by
  simp only [Cond.before, Cond.holds, Cond.value, h]
  rfl
set_option maxRecDepth 100000 in
set_option maxHeartbeats 4000000 in
theorem sw_narrow (args : Array Value) (s : State) (h : s.vm.findClass "[Ljava/lang/StackTraceElement;" = none) :
    narrow_1_2.before args s = false := by
  unfold narrow_1_2
  simp only [Cond.before_and, sw_word _ args s h, Bool.and_false, Bool.false_and]
-- no start without that class in its table meets the premises; the printed witness's table has none of that name
theorem sw_pre (tb : Tables) (e : Env) (args : Array Value) (s : State) (h : s.vm.findClass "[Ljava/lang/StackTraceElement;" = none) :
    ¬ Pre_1 tb e args s := by
  intro hp
  have hq : (Cond.and given_1 narrow_1).before args s = true := hp
  unfold narrow_1 at hq
  simp only [Cond.before_and, sw_narrow args s h, Bool.and_false, Bool.false_and, Bool.false_eq_true] at hq
