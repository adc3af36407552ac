theorem scr1 : False := @Cond.arrayOver_spec
theorem scr2 : False := @Cond.arrayOver_specA
theorem scr3 : False := @Cond.arrayClass_spec
theorem scr5 : False := @cwI
theorem scr6 : False := @W.widen
theorem scr8 (U : State) (c : ClassId) (t : FieldType) : ArrOfT U c t := by
  unfold ArrOfT
  trace_state
theorem scr9 : room_1.cells = 5 := by
  unfold room_1
  trace_state
theorem scr7 (ty : FieldType) (s : State) (h : (Cond.arrayClass ty).before #[] s = true) : False := by
  unfold Cond.before Cond.holds at h
  simp only [Cond.value] at h
  trace_state
