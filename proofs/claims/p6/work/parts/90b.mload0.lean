theorem as_self (vm : Vm) (c : ClassId) : vm.assignable c c = true := by
  show vm.assignableAux (255 + 1) c c = true
  rw [Vm.assignableAux]
  simp only [beq_self_eq_true, Bool.true_or]
theorem cast_self {args : Array Value} {s : State} {E : String} {c : ClassId} (h : s.vm.findClass E = some c) : (Cond.castable E E).before args s = true := by
  simp [Cond.before, Cond.holds, Cond.value, h, as_self]
theorem TI.mk {v : MS} (h7 : AR 7 0 4000 v) (h8 : AR 8 0 4000 v) : TI v := fun j => ⟨(h7 j).1, (h7 j).2, (h8 j).1, (h8 j).2⟩
