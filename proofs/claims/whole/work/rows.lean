section
-- a start whose class table lacks one class's name doesn't meet the premise narrow_1_2 (REPORT.md, TRANSLATOR 1)
theorem nw_l (args : Array Value) (s : State) (a b : Cond) (h : a.value args s none s [] ≠ some true) : (Cond.and a b).value args s none s [] ≠ some true := by
  intro q
  simp only [Cond.value] at q
  cases e : a.value args s none s [] with
  | none => rw [e] at q; simp at q
  | some w =>
    cases w with
    | true => exact h e
    | false => rw [e] at q; simp at q
theorem nw_r (args : Array Value) (s : State) (a b : Cond) (h : b.value args s none s [] ≠ some true) : (Cond.and a b).value args s none s [] ≠ some true := by
  intro q
  simp only [Cond.value] at q
  cases e : a.value args s none s [] with
  | none => rw [e] at q; simp at q
  | some w =>
    cases w with
    | true => rw [e] at q; exact h q
    | false => rw [e] at q; simp at q
theorem nw_c (args : Array Value) (s : State) (c t : String) (h : s.vm.findClass c = none) : (Cond.not (Cond.castable c t)).value args s none s [] ≠ some true := by
  intro q
  simp [Cond.value, h] at q
theorem nw_before (args : Array Value) (s : State) (h : s.vm.findClass "[Ljava/lang/StackTraceElement;" = none) : narrow_1_2.before args s = false := by
  have q : narrow_1_2.value args s none s [] ≠ some true := by
    unfold narrow_1_2
    apply nw_l
    apply nw_l
    apply nw_r
    apply nw_r
    apply nw_l
    apply nw_r
    apply nw_r
    apply nw_l
    exact nw_c args s _ _ h
  simp only [Cond.before, Cond.holds]
  cases e : narrow_1_2.value args s none s [] with
  | none => rfl
  | some w =>
    cases w with
    | true => exact absurd e q
    | false => rfl
-- the printed witness itself
theorem nw_none : start1.about.vm.findClass "[Ljava/lang/StackTraceElement;" = none := by decide +kernel
theorem nw_about : narrow_1_2.before start1.args0 start1.about = false := nw_before _ _ nw_none
theorem nw_not : ¬ narrow_1_2.before start1.args0 start1.about = true := by rw [nw_about]; exact Bool.false_ne_true
end
