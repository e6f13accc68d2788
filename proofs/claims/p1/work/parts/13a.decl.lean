/-- that a class declares its constructor follows from the words that say its code -/
theorem dcl_of {args : Array Value} {s : State} {x : MethodName} {b : ByteArray} {n : Nat} {r : Option FieldType} (h1 : (Cond.instanceMethod x).before args s = true) (h2 : (Cond.code x b n r).before args s = true) : (Cond.declares x).before args s = true := by
  obtain ⟨m, meth, hn, hm, hs, -⟩ := Cond.instanceMethod_spec h1
  obtain ⟨meth', c, hm', -, -, -, -, -, -, hd⟩ := Cond.code_spec hn h2
  have e := Option.some.inj (hm.symm.trans hm')
  subst e
  show (Cond.declares x).holds args s none s [] = true
  simp [Cond.holds, Cond.value, hn, hm, hs, hd]
def isIM (x : MethodName) : Cond → Bool
  | .instanceMethod y => decide (y = x)
  | _ => false
def isCd (x : MethodName) : Cond → Bool
  | .code y _ _ _ => decide (y = x)
  | _ => false
theorem dcl_in {args : Array Value} {s : State} (ht : ∀ w ∈ tw_W, w.before args s = true) {x : MethodName} (h1 : lw_tbl.any (isIM x) = true) (h2 : lw_tbl.any (isCd x) = true) : (Cond.declares x).before args s = true := by
  obtain ⟨w, hw, e⟩ := List.any_eq_true.mp h1
  obtain ⟨v, hv, f⟩ := List.any_eq_true.mp h2
  cases w <;> simp only [isIM, decide_eq_true_eq, Bool.false_eq_true] at e
  cases v <;> simp only [isCd, decide_eq_true_eq, Bool.false_eq_true] at f
  subst e; subst f
  exact dcl_of (ht _ (tw_in hw rfl)) (ht _ (tw_in hv rfl))
theorem dcl_0 {args : Array Value} {s : State} (ht : ∀ w ∈ tw_W, w.before args s = true) : (Cond.declares (Bundle.initS "java/lang/RuntimeException")).before args s = true := dcl_in ht (by decide +kernel) (by decide +kernel)
theorem dcl_1 {args : Array Value} {s : State} (ht : ∀ w ∈ tw_W, w.before args s = true) : (Cond.declares (Bundle.initS "java/lang/Exception")).before args s = true := dcl_in ht (by decide +kernel) (by decide +kernel)
theorem dcl_2 {args : Array Value} {s : State} (ht : ∀ w ∈ tw_W, w.before args s = true) : (Cond.declares (Bundle.initS Bundle.tN)).before args s = true := dcl_in ht (by decide +kernel) (by decide +kernel)
