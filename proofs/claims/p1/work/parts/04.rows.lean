/-! MY OWN ROWS: one list of words for every contract, a contract's form, a call in one row -/
/-- the words that every contract here stands on: the tables' good ones -/
def tw_W : List Cond := lw_tbl.filter goodWord
theorem tw_in {w : Cond} (h : w ∈ lw_tbl) (g : goodWord w = true) : w ∈ tw_W := List.mem_filter.mpr ⟨h, g⟩
theorem tw_all {ws : List Cond} (h : ws.all (fun w => lw_tbl.contains w && goodWord w) = true) : ∀ w ∈ ws, w ∈ tw_W := by
  intro w hw
  have h1 := List.all_eq_true.mp h w hw
  rw [Bool.and_eq_true] at h1
  exact tw_in (List.contains_iff_mem.mp h1.1) h1.2
theorem tw_g : GoodIn tw_W tw_W := fun w h => ⟨h, good_of_word (List.mem_filter.mp h).2⟩
theorem tw_c {d : Cond} (hd : d ∈ tw_W) : GoodIn tw_W (d :: tw_W) := fun w h => (List.mem_cons.mp h).elim (fun e => by rw [e]; exact tw_g d hd) (fun h => tw_g w h)
theorem tw_V {d : Cond} {own C : String} {idx : Nat} {y : MethodName} (hd : d ∈ tw_W) (h : ∀ w ∈ ([.methodLink own idx y, .instanceMethod y, .selects C y y, .initialized C] : List Cond), w ∈ tw_W) : GoodIn tw_W (wsV own idx C y (d :: tw_W)) := fun w hw => (List.mem_append.mp hw).elim (fun k => tw_g w (h w k)) (fun k => tw_c hd w k)
theorem tw_S {d : Cond} {own : String} {idx : Nat} {y : MethodName} (hd : d ∈ tw_W) (h : ∀ w ∈ ([.methodLink own idx y, .static y, .initialized y.cls] : List Cond), w ∈ tw_W) : GoodIn tw_W (va_wsS own idx y (d :: tw_W)) := fun w hw => (List.mem_append.mp hw).elim (fun k => tw_g w (h w k)) (fun k => tw_c hd w k)
/-- private members of nest mates that are used: owner, index, class, name, descriptor -/
def nwF : List (String × Nat × String × String × String) := [("PocketCompiler", 255, "PocketCompiler$Gifts", "size", "I"), ("PocketCompiler", 105, "PocketCompiler$Tokens", "faultKind", "I"), ("PocketCompiler", 110, "PocketCompiler$Tokens", "faultPlace", "I"), ("PocketCompiler$Expressions", 125, "PocketCompiler$Builder", "program", "LPocketCompiler$Program;"), ("PocketCompiler$Parser", 141, "PocketCompiler$Builder", "knownCount", "I"), ("PocketCompiler$Parser", 217, "PocketCompiler$Builder", "blockStart", "I"), ("PocketCompiler$Expressions", 85, "PocketCompiler$Builder", "putBy", "I"), ("PocketCompiler$Parser", 68, "PocketCompiler$Builder", "callCount", "I"), ("PocketCompiler", 101, "PocketCompiler$Parser", "tokens", "LPocketCompiler$Tokens;"), ("PocketCompiler", 180, "PocketCompiler$Processor", "pc", "I"), ("PocketCompiler", 166, "PocketCompiler$Processor", "status", "I"), ("PocketCompiler", 252, "PocketCompiler$Processor", "steps", "I"), ("PocketCompiler", 210, "PocketCompiler$Processor", "puts", "[I"), ("PocketCompiler", 202, "PocketCompiler$Processor", "putCount", "I"), ("PocketCompiler", 237, "PocketCompiler$Worker", "puts", "[I"), ("PocketCompiler", 232, "PocketCompiler$Worker", "hasWorked", "Z"), ("PocketCompiler", 236, "PocketCompiler$Worker", "putCount", "I")]
def nwM : List (String × Nat × MethodName) := [("PocketCompiler", 19, yX3_init), ("PocketCompiler", 26, yX8_init)]
/-- what the tables say, wherever a method is called -/
def kk_ (D : va_G) (tys : List (ClassId × FieldType)) (U : State) : Prop := va_K D vwCl tys U ∧ va_AOA .int U ∧ (∀ q ∈ nwF, va_Nw (.fieldLinkNest q.1 q.2.1 q.2.2.1 q.2.2.2.1 q.2.2.2.2 "PocketCompiler") U) ∧ (∀ q ∈ nwM, va_Nw (.methodLinkNest q.1 q.2.1 q.2.2 "PocketCompiler") U)
theorem kk_.same {D : va_G} {tys : List (ClassId × FieldType)} {u U : State} (h0 : u.vm = U.vm) (h : kk_ D tys u) : kk_ D tys U := ⟨h.1.moved (by rw [h0]; exact Vm.Alike.refl U.vm), h.2.1.moved (by rw [h0]; exact Vm.Alike.refl U.vm), fun q hq => va_Nw.same rfl h0 (h.2.2.1 q hq), fun q hq => va_Nw.same rfl h0 (h.2.2.2 q hq)⟩
theorem kk_.warm {D : va_G} {tys : List (ClassId × FieldType)} {s U : State} (hW : s.WarmedH U.vm) (h : kk_ D tys s) : kk_ D tys U := ⟨h.1.moved hW.alike, h.2.1.moved hW.alike, fun q hq => (h.2.2.1 q hq).warmF hW, fun q hq => (h.2.2.2 q hq).warmM hW⟩
theorem kk_.fld {D : va_G} {tys : List (ClassId × FieldType)} {s : State} {args : Array Value} (h : kk_ D tys s) {q : String × Nat × String × String × String} (k : Nat) (hq : nwF[k]? = some q) : (Cond.fieldLinkNest q.1 q.2.1 q.2.2.1 q.2.2.2.1 q.2.2.2.2 "PocketCompiler").before args s = true := va_Nw.use rfl (h.2.2.1 q (List.mem_of_getElem? hq))
/-- tables that nobody writes: their static fields and what they hold -/
def tbF (L : List Int32) : Nat → Value := fun j => .int (L.getD j 0)
def tbI : List (String × List Int32) := [("BRANCHES", [4, 5, 40, 40, 6, 7, 8, 9]), ("LOADS", [10, 11, 12, 40, 13, 14, 40, 40]), ("STORES", [15, 16, 17, 40, 40, 40, 40, 40]), ("NUMBERED", [18, 24, 19, 20, 21, 25, 22, 23]), ("PLAIN", [27, 29, 30, 31, 32, 33, 35, 36])]
def tbD : List (String × List Int32) := [("DigitTens", (List.range 100).map (fun j => Int32.ofNat (48 + j / 10))), ("DigitOnes", (List.range 100).map (fun j => Int32.ofNat (48 + j % 10)))]
/-- what the heap holds from the start and nobody writes -/
def fx_ (tb : Nat → Nat) (A : Nat → Prop) (U : State) (H : Heap) : Prop :=
  va_Z "java/lang/String" "COMPACT_STRINGS" "Z" (.int 1) A U H ∧
  (∀ (k : Nat) (q : String × List Int32), tbI[k]? = some q → va_Z "PocketCompiler$Instruction" q.1 "[I" (.ref (tb k)) A U H ∧ va_T .int (tb k) q.2.length (tbF q.2) A U H) ∧
  (∀ (k : Nat) (q : String × List Int32), tbD[k]? = some q → va_Z "java/lang/Integer" q.1 "[B" (.ref (tb (10 + k))) A U H ∧ va_T .byte (tb (10 + k)) q.2.length (tbF q.2) A U H) ∧
  va_Zq "jdk/internal/util/Preconditions" "SIOOBE_FORMATTER" "Ljava/util/function/BiFunction;" A U H
theorem fx_.moved {tb : Nat → Nat} {A : Nat → Prop} {u U : State} {H : Heap} (hvm : u.vm.Alike U.vm) (h : fx_ tb A u H) : fx_ tb A U H := ⟨va_Z.moved hvm h.1, fun k q hq => ⟨va_Z.moved hvm (h.2.1 k q hq).1, va_T.moved hvm (h.2.1 k q hq).2⟩, fun k q hq => ⟨va_Z.moved hvm (h.2.2.1 k q hq).1, va_T.moved hvm (h.2.2.1 k q hq).2⟩, va_Zq.moved hvm h.2.2.2⟩
theorem fx_.kept {tb : Nat → Nat} {A : Nat → Prop} {U : State} {H H1 : Heap} (h : fx_ tb A U H) (hq : ∀ a : Nat, a < H.size → ¬ A a → H1[a]? = H[a]?) : fx_ tb A U H1 := ⟨va_Z.kept h.1 hq, fun k q hk => ⟨va_Z.kept (h.2.1 k q hk).1 hq, va_T.kept (h.2.1 k q hk).2 hq⟩, fun k q hk => ⟨va_Z.kept (h.2.2.1 k q hk).1 hq, va_T.kept (h.2.2.1 k q hk).2 hq⟩, va_Zq.kept h.2.2.2 hq⟩
theorem fx_.narrow {tb : Nat → Nat} {A B : Nat → Prop} {U : State} {H : Heap} (h : fx_ tb A U H) (hAB : ∀ q, B q → A q) : fx_ tb B U H := ⟨va_Z.narrow h.1 hAB, fun k q hk => ⟨va_Z.narrow (h.2.1 k q hk).1 hAB, va_T.narrow (h.2.1 k q hk).2 hAB⟩, fun k q hk => ⟨va_Z.narrow (h.2.2.1 k q hk).1 hAB, va_T.narrow (h.2.2.1 k q hk).2 hAB⟩, va_Zq.narrow h.2.2.2 hAB⟩
/-- a contract's start: its world, its tables -/
def pc_ (D : va_G) (tys : List (ClassId × FieldType)) (tb : Nat → Nat) (W : va_W) (sz : Nat) (av : List Value) : Array Value → State → Prop := va_Pc av (fun U => U.heap.size = sz ∧ va_P D vwCl W U.heap ∧ kk_ D tys U ∧ va_D (fun _ => True) W ∧ fx_ tb (va_A W sz) U U.heap)
/-- a contract's end: an int, nothing, a cell -/
def qi_ {S : Type} (D : va_G) (W : va_W) (sz : Nat) (post : Int32 → S → Prop) (Wf : S → va_W) : Array Value → State → Outcome → State → Prop := va_Qi post (fun u t => va_P D vwCl (Wf u) t.heap ∧ va_D (va_A W sz) (Wf u)) (va_A W sz)
def qv_ {S : Type} (D : va_G) (W : va_W) (sz : Nat) (post : S → Prop) (Wf : S → va_W) : Array Value → State → Outcome → State → Prop := va_Qv post (fun u t => va_P D vwCl (Wf u) t.heap ∧ va_D (va_A W sz) (Wf u)) (va_A W sz)
theorem pc_blind {D : va_G} {tys : List (ClassId × FieldType)} {tb : Nat → Nat} {W : va_W} {sz : Nat} {av : List Value} : FrameBlind (pc_ D tys tb W sz av) := fun a U g mk q => by
  obtain ⟨q0, q1, qP, qK, qD, qF⟩ := q
  exact ⟨q0, q1, qP, kk_.same (u := U) (U := U.calling g mk a) rfl qK, qD, fx_.moved (u := U) (U := U.calling g mk a) (Vm.Alike.refl U.vm) qF⟩
theorem is_fm {ws Wc : va_W} {is : List Nat} (h : is.map (fun i => ws[i]?) = Wc.map some) : is.filterMap (fun i => ws[i]?) = Wc := by
  have h2 : is.filterMap (fun i => ws[i]?) = (is.map (fun i => ws[i]?)).filterMap id := by rw [List.filterMap_map]; rfl
  rw [h2, h]
  clear h h2
  induction Wc with
  | nil => rfl
  | cons a t ih => simp [ih]
theorem pc_at {D : va_G} {tys : List (ClassId × FieldType)} {tb : Nat → Nat} {ws Wc : va_W} {A : Nat → Prop} {s : State} {H : Heap} {locs : List Loc} {As : List Value} (hK : kk_ D tys s) (hF : fx_ tb A s s.heap) (hP : va_P D vwCl ws H) (hD : va_D A ws) (hS : va_S A s.heap H locs) (hA : ∀ q, s.heap.size ≤ q → A q) {is : List Nat} (hn : va_nd is = true) (h : is.map (fun i => ws[i]?) = Wc.map some) : ∀ U : State, U.heap = H → s.WarmedH U.vm → pc_ D tys tb Wc H.size As As.toArray U := fun U hU hW =>
  ⟨rfl, by rw [hU], by rw [hU]; exact hP.sub is (is_fm h), kk_.warm hW hK, (hD.sub is hn h).weaken (fun _ _ _ _ => trivial), by rw [hU]; exact ((hF.kept hS.2.1).narrow (va_free hD hS hA is h)).moved hW.alike⟩
section CLX
variable {p : Program} {l : Launch} {e : Env} {R : Room} {s : State} {m : MethodId} {args : Array Value} {below : List Frame} {meth : Method} {c : Code} {H H0 : Heap} {locs : List Loc} {cells slots : Nat} {Q : State → Prop}
variable {cc bytes : ByteArray} {pc nL maxL mc ms n index ci b : Nat} {ls : Array Slot} {rest st0 As fs : List Value} {D : va_G} {A : Nat → Prop} {tys : List (ClassId × FieldType)} {ws Wc wr : va_W} {own C : String} {y : MethodName} {ret : Option FieldType} {rm : Room} {q : vw_C} {isC isR : List Nat} {S : Type} {tb : Nat → Nat}
theorem ca_i {post : Int32 → S → Prop} {Wf : S → va_W} {a : Array Value} (hr : va_Run p l e R s m args below meth c H locs cells slots mc ms (F0 m pc ls st0) rest (qi_ D Wc H.size post Wf a) (va_A Wc H.size)) (hP : va_P D vwCl ws H) (hD : va_D A ws) (hS : va_S A H0 H locs) (hA : ∀ q, H0.size ≤ q → A q)
    (hC : isC.map (fun i => ws[i]?) = Wc.map some) (hR : isR.map (fun i => ws[i]?) = wr.map some) (hn : va_nd isR = true) (hdis : ∀ i ∈ isR, i ∉ isC)
    (kk : ∀ (r : Int32) (u : S) (H1 : Heap) (locs1 : List Loc), post r u → va_P D vwCl (wr ++ Wf u) H1 → va_D A (wr ++ Wf u) → va_S A H0 H1 locs1 → W p l e R s m args below meth c H1 locs1 (cells + mc) (slots + ms) Q (F0 m (pc + 3) ls (.int r :: rest))) : W p l e R s m args below meth c H locs cells slots Q (F0 m pc ls st0) := by
  have hF := va_free hD hS hA isC hC
  refine va_calli hr hS (fun q _ h => hF q h) hF (fun r u t H1 locs1 ht hvm hw hB hz hk hS1 => ?_)
  obtain ⟨hP1, hD1⟩ := hB
  rw [ht] at hP1
  obtain ⟨hP2, hD2⟩ := va_join (wr := wr) (w1 := Wf u) hP hD isC isR hC hR hn hdis hk hF hP1 hD1
  exact kk r u H1 locs1 hw hP2 hD2 hS1
theorem ca_v {post : S → Prop} {Wf : S → va_W} {a : Array Value} (hr : va_Run p l e R s m args below meth c H locs cells slots mc ms (F0 m pc ls st0) rest (qv_ D Wc H.size post Wf a) (va_A Wc H.size)) (hP : va_P D vwCl ws H) (hD : va_D A ws) (hS : va_S A H0 H locs) (hA : ∀ q, H0.size ≤ q → A q)
    (hC : isC.map (fun i => ws[i]?) = Wc.map some) (hR : isR.map (fun i => ws[i]?) = wr.map some) (hn : va_nd isR = true) (hdis : ∀ i ∈ isR, i ∉ isC)
    (kk : ∀ (u : S) (H1 : Heap) (locs1 : List Loc), post u → va_P D vwCl (wr ++ Wf u) H1 → va_D A (wr ++ Wf u) → va_S A H0 H1 locs1 → W p l e R s m args below meth c H1 locs1 (cells + mc) (slots + ms) Q (F0 m (pc + 3) ls rest)) : W p l e R s m args below meth c H locs cells slots Q (F0 m pc ls st0) := by
  have hF := va_free hD hS hA isC hC
  refine va_callv hr hS (fun q _ h => hF q h) hF (fun u t H1 locs1 ht hvm hw hB hz hk hS1 => ?_)
  obtain ⟨hP1, hD1⟩ := hB
  rw [ht] at hP1
  obtain ⟨hP2, hD2⟩ := va_join (wr := wr) (w1 := Wf u) hP hD isC isR hC hR hn hdis hk hF hP1 hD1
  exact kk u H1 locs1 hw hP2 hD2 hS1
theorem rn_V {Qc : Array Value → State → Outcome → State → Prop} (hx : p.tables.exec = Jvm.exec) (hb : c.code = cc) (hml : c.maxLocals = nL) (hown : s.vm.findClass own = some m.cls) (ht : ∀ w ∈ tw_W, w.before args s = true) (hK : kk_ D tys s) (hF : fx_ tb A s s.heap) (hP : va_P D vwCl ws H) (hD : va_D A ws) (hS : va_S A s.heap H locs) (hA : ∀ q, s.heap.size ≤ q → A q)
    (hM : Met l y (Cond.code y bytes maxL ret :: tw_W) rm (pc_ D tys tb Wc H.size (.ref b :: As)) Qc mc ms (va_A Wc H.size)) (hcw : Cond.code y bytes maxL ret ∈ tw_W) (hws : ∀ w ∈ ([.methodLink own index y, .instanceMethod y, .selects C y y, .initialized C] : List Cond), w ∈ tw_W)
    (hd : y.cls = C ∧ y.cls ≠ "java/lang/invoke/MethodHandle" ∧ y.cls ≠ "java/lang/invoke/VarHandle" ∧ (parseMethodDescriptor y.desc).map (fun d => d.parameters.length) = some n) (hrc : rm.cells = mc) (hrs : rm.slots = ms) (hR : rm.frames + 1 ≤ R.frames ∧ 8 + (maxL + 11) + rm.locals ≤ R.locals)
    (isC : List Nat) (hC : isC.map (fun i => ws[i]?) = Wc.map some) (hnC : va_nd isC = true) (hrecv : Wc[0]? = some (b, .inr (ci, fs))) (hc : vwCl[ci]? = some q) (hq : q.1 = C)
    (hnA : As.length = n) (hls : ls.size = nL) (hst : st0 = As.reverse ++ .ref b :: rest) (hW : (rest.map fun v => v.category).sum ≤ 8) (hdg : decode cc pc = .ok (.invokevirtual index, 3)) (hf : cells + mc ≤ R.cells ∧ slots + ms ≤ R.slots) :
    va_Run p l e R s m args below meth c H locs cells slots mc ms (F0 m pc ls st0) rest (Qc (Value.ref b :: As).toArray) (va_A Wc H.size) := by
  subst hq
  exact va_runV ⟨hx, hb, hml, hown, ht⟩ hM (cwV n ht (tw_V hcw hws) rfl hrc hrs hd hR) ⟨pc_blind, va_recv hK.1 (hP.sub isC (is_fm hC)) hc hrecv, pc_at hK hF hP hD hS hA hnC hC⟩ rfl hnA hls hst (lv_room hW) hdg hf
theorem rn_S {Qc : Array Value → State → Outcome → State → Prop} (hx : p.tables.exec = Jvm.exec) (hb : c.code = cc) (hml : c.maxLocals = nL) (hown : s.vm.findClass own = some m.cls) (ht : ∀ w ∈ tw_W, w.before args s = true) (hK : kk_ D tys s) (hF : fx_ tb A s s.heap) (hP : va_P D vwCl ws H) (hD : va_D A ws) (hS : va_S A s.heap H locs) (hA : ∀ q, s.heap.size ≤ q → A q)
    (hM : Met l y (Cond.code y bytes maxL ret :: tw_W) rm (pc_ D tys tb Wc H.size As) Qc mc ms (va_A Wc H.size)) (hcw : Cond.code y bytes maxL ret ∈ tw_W) (hws : ∀ w ∈ ([.methodLink own index y, .static y, .initialized y.cls] : List Cond), w ∈ tw_W)
    (hd : y.cls ≠ "java/lang/invoke/MethodHandle" ∧ y.cls ≠ "java/lang/invoke/VarHandle" ∧ (parseMethodDescriptor y.desc).map (fun d => d.parameters.length) = some n) (hrc : rm.cells = mc) (hrs : rm.slots = ms) (hR : rm.frames + 1 ≤ R.frames ∧ 8 + (maxL + 11) + rm.locals ≤ R.locals)
    (isC : List Nat) (hC : isC.map (fun i => ws[i]?) = Wc.map some) (hnC : va_nd isC = true)
    (hnA : As.length = n) (hls : ls.size = nL) (hst : st0 = As.reverse ++ rest) (hW : (rest.map fun v => v.category).sum ≤ 8) (hdg : decode cc pc = .ok (.invokestatic index, 3)) (hf : cells + mc ≤ R.cells ∧ slots + ms ≤ R.slots) :
    va_Run p l e R s m args below meth c H locs cells slots mc ms (F0 m pc ls st0) rest (Qc As.toArray) (va_A Wc H.size) :=
  va_runS ⟨hx, hb, hml, hown, ht⟩ hM (va_cwS n ht (tw_S hcw hws) rfl hrc hrs hd hR) ⟨pc_blind, pc_at hK hF hP hD hS hA hnC hC⟩ rfl hnA hls hst (lv_room hW) hdg hf
theorem rn_I {Qc : Array Value → State → Outcome → State → Prop} (hx : p.tables.exec = Jvm.exec) (hb : c.code = cc) (hml : c.maxLocals = nL) (hown : s.vm.findClass own = some m.cls) (ht : ∀ w ∈ tw_W, w.before args s = true) (hK : kk_ D tys s) (hF : fx_ tb A s s.heap) (hP : va_P D vwCl ws H) (hD : va_D A ws) (hS : va_S A s.heap H locs) (hA : ∀ q, s.heap.size ≤ q → A q)
    (hM : Met l y (Cond.code y bytes maxL none :: tw_W) rm (pc_ D tys tb Wc H.size (.ref b :: As)) Qc mc ms (va_A Wc H.size)) (hcw : Cond.code y bytes maxL none ∈ tw_W) (hini : Cond.initialized y.cls ∈ tw_W) (hlk : Cond.methodLink own index y ∈ tw_W) (hin : Cond.instanceMethod y ∈ tw_W) (hy : y.name = "<init>")
    (hd : y.cls ≠ "java/lang/invoke/MethodHandle" ∧ y.cls ≠ "java/lang/invoke/VarHandle" ∧ (parseMethodDescriptor y.desc).map (fun d => d.parameters.length) = some n) (hrc : rm.cells = mc) (hrs : rm.slots = ms) (hR : rm.frames + 1 ≤ R.frames ∧ 8 + (maxL + 11) + rm.locals ≤ R.locals)
    (isC : List Nat) (hC : isC.map (fun i => ws[i]?) = Wc.map some) (hnC : va_nd isC = true)
    (hnA : As.length = n) (hls : ls.size = nL) (hst : st0 = As.reverse ++ .ref b :: rest) (hW : (rest.map fun v => v.category).sum ≤ 8) (hdg : decode cc pc = .ok (.invokespecial index, 3)) (hf : cells + mc ≤ R.cells ∧ slots + ms ≤ R.slots) :
    va_Run p l e R s m args below meth c H locs cells slots mc ms (F0 m pc ls st0) rest (Qc (Value.ref b :: As).toArray) (va_A Wc H.size) :=
  va_runI ⟨hx, hb, hml, hown, ht⟩ hM (cwI n ht (tw_c hcw) rfl hrc hrs (ht _ hini) (ht _ hlk) (ht _ hin) hy hd hR) ⟨pc_blind, pc_at hK hF hP hD hS hA hnC hC⟩ rfl hnA hls hst (lv_room hW) hdg hf
/-- a new array of a type whose class is known already -/
theorem va_newE {cc : ByteArray} (hexec : p.tables.exec = Jvm.exec) (hb : c.code = cc) {atype : ArrayType} (harr : (Cond.arrayClass (newarray.typeOf atype)).before args s = true) {ty : FieldType} (hty : newarray.typeOf atype = ty) (hK : va_K D vwCl tys s) (hP : va_P D vwCl ws H) (hD : va_D A ws) (hS : va_S A H0 H locs) (hA : ∀ q, H0.size ≤ q → A q) (t0 : Nat) {cE : ClassId} (ht0 : tys[t0]? = some (cE, ty))
    {n : Int32} {N' : Nat} {a0 : vp_A} (ha : ∀ cA : ClassId, vp_cell cA a0 = arrV cA N' (fun _ => defaultValue ty)) (hn : ¬ n < 0) (hN : n.toNatClampNeg = N') (hbytes : N' * componentBytes ty ≤ 536870912) (hcells : cells + 1 ≤ R.cells) (hslots : slots + N' ≤ R.slots) (hdg : decode cc pc = .ok (.newarray atype, 2))
    (kk : ∀ (q : Nat) (H1 : Heap), va_P D vwCl (ws ++ [(q, .inl (cE, a0))]) H1 → va_D A (ws ++ [(q, .inl (cE, a0))]) → va_S A H0 H1 locs →
      W p l e R s m args below meth c H1 locs (cells + 1) (slots + N') Q (F0 m (pc + 2) ls (.ref q :: rest))) : W p l e R s m args below meth c H locs cells slots Q (F0 m pc ls (.int n :: rest)) := by
  refine va_newa hexec hb harr hty hK hP hD hS hA ha hn hN hbytes hcells hslots hdg (fun q cA H1 hK1 hP1 hD1 hS1 => ?_)
  have e1 := (hK.2 t0 _ ht0).2
  have e2 := (hK1.2 tys.length (cA, ty) (by simp)).2
  have e : cA = cE := by
    subst hty
    cases atype <;> exact Option.some.inj (Eq.trans (Eq.symm e2) e1)
  subst e
  exact kk q H1 hP1 hD1 hS1
end CLX
section TPI
variable {p : Program} {l : Launch} {e : Env} {R : Room} {s : State} {m : MethodId} {args : Array Value} {below : List Frame} {meth : Method} {c : Code} {H : Heap} {locs : List Loc} {cells slots : Nat} {Q : State → Prop} {pc : Nat} {ls : Array Slot} {rest : List Value}
theorem tp_i {x y : Int32} (h : x = y) (k : W p l e R s m args below meth c H locs cells slots Q (F0 m pc ls (.int y :: rest))) : W p l e R s m args below meth c H locs cells slots Q (F0 m pc ls (.int x :: rest)) := by rw [h]; exact k
end TPI
/-- the array classes that the worlds speak of -/
abbrev tyS (cI cB cZ cJ cR : ClassId) : List (ClassId × FieldType) := [(cI, .int), (cB, .byte), (cZ, .boolean), (cJ, .long), (cR, .array .int)]
