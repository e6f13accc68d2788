theorem dX7_copyText_0 : decode cX7_copyText 0 = .ok (.aload_n 0, 1) := by decide +kernel
theorem dX7_copyText_1 : decode cX7_copyText 1 = .ok (.iload_n 2, 1) := by decide +kernel
theorem dX7_copyText_2 : decode cX7_copyText 2 = .ok (.ifCond .lt 22, 3) := by decide +kernel
theorem dX7_copyText_24 : decode cX7_copyText 24 = .ok (.iconst 0, 1) := by decide +kernel
theorem dX7_copyText_25 : decode cX7_copyText 25 = .ok (.putfield 35, 3) := by decide +kernel
theorem dX7_copyText_28 : decode cX7_copyText 28 = .ok (.aload_n 1, 1) := by decide +kernel
theorem dX7_copyText_29 : decode cX7_copyText 29 = .ok (.iconst 0, 1) := by decide +kernel
theorem dX7_copyText_30 : decode cX7_copyText 30 = .ok (.aload_n 0, 1) := by decide +kernel
theorem dX7_copyText_31 : decode cX7_copyText 31 = .ok (.getfield 9, 3) := by decide +kernel
theorem dX7_copyText_34 : decode cX7_copyText 34 = .ok (.iconst 0, 1) := by decide +kernel
theorem dX7_copyText_35 : decode cX7_copyText 35 = .ok (.aload_n 0, 1) := by decide +kernel
theorem dX7_copyText_36 : decode cX7_copyText 36 = .ok (.getfield 35, 3) := by decide +kernel
theorem dX7_copyText_39 : decode cX7_copyText 39 = .ok (.invokestatic 39, 3) := by decide +kernel
theorem tw_908 : (.methodLink RX7 39 arraycopyName : Cond) ∈ tw_W := tw_in (t8_5 (List.mem_of_getElem? (i := 207) rfl)) rfl
theorem tw_909 : (.native arraycopyName : Cond) ∈ tw_W := tw_in (t8_5 (List.mem_of_getElem? (i := 209) rfl)) rfl
theorem tw_910 : (.static arraycopyName : Cond) ∈ tw_W := tw_in (t8_5 (List.mem_of_getElem? (i := 208) rfl)) rfl
theorem tw_911 : (.initialized "java/lang/System" : Cond) ∈ tw_W := tw_in (t8_1 (List.mem_of_getElem? (i := 25) rfl)) rfl
theorem dX7_copyText_42 : decode cX7_copyText 42 = .ok (.return_, 1) := by decide +kernel
theorem dX7_copyText_5 : decode cX7_copyText 5 = .ok (.iload_n 2, 1) := by decide +kernel
theorem dX7_copyText_6 : decode cX7_copyText 6 = .ok (.aload_n 1, 1) := by decide +kernel
theorem dX7_copyText_7 : decode cX7_copyText 7 = .ok (.arraylength, 1) := by decide +kernel
theorem dX7_copyText_8 : decode cX7_copyText 8 = .ok (.if_icmp .gt 16, 3) := by decide +kernel
theorem dX7_copyText_11 : decode cX7_copyText 11 = .ok (.iload_n 2, 1) := by decide +kernel
theorem dX7_copyText_12 : decode cX7_copyText 12 = .ok (.aload_n 0, 1) := by decide +kernel
theorem dX7_copyText_13 : decode cX7_copyText 13 = .ok (.getfield 9, 3) := by decide +kernel
theorem dX7_copyText_16 : decode cX7_copyText 16 = .ok (.arraylength, 1) := by decide +kernel
theorem dX7_copyText_17 : decode cX7_copyText 17 = .ok (.if_icmp .gt 7, 3) := by decide +kernel
theorem dX7_copyText_20 : decode cX7_copyText 20 = .ok (.iload_n 2, 1) := by decide +kernel
theorem dX7_copyText_21 : decode cX7_copyText 21 = .ok (.goto 4, 3) := by decide +kernel
theorem dX7_isNameAt_0 : decode cX7_isNameAt 0 = .ok (.aload_n 0, 1) := by decide +kernel
theorem dX7_isNameAt_1 : decode cX7_isNameAt 1 = .ok (.iload_n 1, 1) := by decide +kernel
theorem dX7_isNameAt_2 : decode cX7_isNameAt 2 = .ok (.invokevirtual 70, 3) := by decide +kernel
theorem tw_912 : ∀ w ∈ ([.methodLink RX7 70 yX7_nameBytes, .instanceMethod yX7_nameBytes, .selects RX7 yX7_nameBytes yX7_nameBytes, .initialized RX7] : List Cond), w ∈ tw_W := al_c (tw_in (t8_8 (List.mem_of_getElem? (i := 64) rfl)) rfl) (al_c (tw_in (t8_3 (List.mem_of_getElem? (i := 3) rfl)) rfl) (al_c (tw_in (t8_3 (List.mem_of_getElem? (i := 4) rfl)) rfl) (al_c (tw_in (t8_1 (List.mem_of_getElem? (i := 8) rfl)) rfl) al_n)))
theorem dX7_isNameAt_5 : decode cX7_isNameAt 5 = .ok (.iload_n 3, 1) := by decide +kernel
theorem dX7_isNameAt_6 : decode cX7_isNameAt 6 = .ok (.if_icmp .ne 9, 3) := by decide +kernel
theorem dX7_isNameAt_15 : decode cX7_isNameAt 15 = .ok (.iconst 0, 1) := by decide +kernel
theorem dX7_isNameAt_16 : decode cX7_isNameAt 16 = .ok (.ireturn, 1) := by decide +kernel
theorem dX7_isNameAt_9 : decode cX7_isNameAt 9 = .ok (.iload_n 3, 1) := by decide +kernel
theorem dX7_isNameAt_10 : decode cX7_isNameAt 10 = .ok (.aload_n 2, 1) := by decide +kernel
theorem dX7_isNameAt_11 : decode cX7_isNameAt 11 = .ok (.arraylength, 1) := by decide +kernel
theorem dX7_isNameAt_12 : decode cX7_isNameAt 12 = .ok (.if_icmp .le 5, 3) := by decide +kernel
theorem dX7_isNameAt_17 : decode cX7_isNameAt 17 = .ok (.iconst 0, 1) := by decide +kernel
theorem dX7_isNameAt_18 : decode cX7_isNameAt 18 = .ok (.istore 4, 2) := by decide +kernel
theorem dX7_isNameAt_20 : decode cX7_isNameAt 20 = .ok (.iload 4, 2) := by decide +kernel
theorem dX7_isNameAt_22 : decode cX7_isNameAt 22 = .ok (.iload_n 3, 1) := by decide +kernel
theorem dX7_isNameAt_23 : decode cX7_isNameAt 23 = .ok (.if_icmp .ge 26, 3) := by decide +kernel
theorem dX7_isNameAt_49 : decode cX7_isNameAt 49 = .ok (.iconst 1, 1) := by decide +kernel
theorem dX7_isNameAt_50 : decode cX7_isNameAt 50 = .ok (.ireturn, 1) := by decide +kernel
theorem dX7_isNameAt_26 : decode cX7_isNameAt 26 = .ok (.aload_n 0, 1) := by decide +kernel
theorem dX7_isNameAt_27 : decode cX7_isNameAt 27 = .ok (.iload_n 1, 1) := by decide +kernel
theorem dX7_isNameAt_28 : decode cX7_isNameAt 28 = .ok (.iload 4, 2) := by decide +kernel
theorem dX7_isNameAt_30 : decode cX7_isNameAt 30 = .ok (.iadd, 1) := by decide +kernel
theorem dX7_isNameAt_31 : decode cX7_isNameAt 31 = .ok (.invokevirtual 60, 3) := by decide +kernel
theorem dX7_isNameAt_34 : decode cX7_isNameAt 34 = .ok (.aload_n 2, 1) := by decide +kernel
theorem dX7_isNameAt_35 : decode cX7_isNameAt 35 = .ok (.iload 4, 2) := by decide +kernel
theorem dX7_isNameAt_37 : decode cX7_isNameAt 37 = .ok (.iaload, 1) := by decide +kernel
theorem dX7_isNameAt_38 : decode cX7_isNameAt 38 = .ok (.if_icmp .eq 5, 3) := by decide +kernel
theorem dX7_isNameAt_43 : decode cX7_isNameAt 43 = .ok (.iinc 4 1, 3) := by decide +kernel
theorem dX7_isNameAt_46 : decode cX7_isNameAt 46 = .ok (.goto (-26), 3) := by decide +kernel
theorem dX7_isNameAt_41 : decode cX7_isNameAt 41 = .ok (.iconst 0, 1) := by decide +kernel
theorem dX7_isNameAt_42 : decode cX7_isNameAt 42 = .ok (.ireturn, 1) := by decide +kernel
/-! 'throw new E("text")' without stack traces, where E's own constructor calls its superclass's through any index of its pool (java/util/NoSuchElementException: 13). After the library's row for the index 7. -/
section NSE
def nx_chain (X : String) (ix : Nat) (rx : ByteArray) : List String → List Cond
  | [] => Bundle.passSAtoms X Bundle.tN ix rx
  | Y :: r => Bundle.passSAtoms X Y ix rx ++ Bundle.chainSAtoms Y r
theorem nx_chainS {args : Array Value} {s : State} {pl : Platform} (hpl : pl.magicAccessors = ({} : Platform).magicAccessors) {top : MethodId} (htop : s.methodNamed? (Bundle.initS Bundle.tN) = some top)
    {ix : Nat} {rx : ByteArray} (x0 : decode rx 0 = .ok (.aload_n 0, 1)) (x1 : decode rx 1 = .ok (.aload_n 1, 1)) (x2 : decode rx 2 = .ok (.invokespecial ix, 3)) (x5 : decode rx 5 = .ok (.return_, 1))
    {Y X : String} {r : List String} (hX : Bundle.fit X = true) (hn : ∀ n ∈ Y :: r, Bundle.fit n = true) (h : ∀ c ∈ nx_chain X ix rx (Y :: r), c.before args s = true) :
    ∃ (P1 : PassC) (Ps : List PassC), Ps.length = (Y :: r).length ∧ P1.LinksS pl s ∧ (∀ P, P ∈ Ps → P.LinksS pl s) ∧ s.methodNamed? (Bundle.initS X) = some P1.m ∧
      P1.sup = firstOf top (Ps.map (·.toPassT)) ∧ PassesOn top (Ps.map (·.toPassT)) := by
  obtain ⟨P, L, hm, hs⟩ := PassC.ofS_atoms (args := args) (s := s) hpl (X := X) (Y := Y) (Bundle.fit_spec hX).1 (Bundle.fit_spec (hn Y List.mem_cons_self)).2 x0 x1 x2 x5
    (fun c hc => h c (List.mem_append.mpr (Or.inl hc)))
  obtain ⟨P', Ps, hlen, L', hL, hm', hsup, hpass⟩ := Bundle.chainS (args := args) hpl htop r Y (hn Y List.mem_cons_self) (fun n hn' => hn n (List.mem_cons_of_mem _ hn')) (fun c hc => h c (List.mem_append.mpr (Or.inr hc)))
  refine ⟨P, P' :: Ps, by simp [hlen], L, fun Q hQ => ?_, hm, Option.some.inj (hs.symm.trans hm'), hsup, hpass⟩
  rcases List.mem_cons.mp hQ with rfl | hQ
  · exact L'
  · exact hL Q hQ
def nx_atoms (own : String) (ic : Nat) (X : String) (ix : Nat) (rx : ByteArray) (names : List String) : List Cond :=
  Bundle.throwableAtoms ++ Bundle.throwableSAtoms ++ nx_chain X ix rx names ++
  [.methodLink own ic (Bundle.initS X), .instantiable X 6, .castable X X, .selects X Bundle.tFill0 Bundle.tFill0, .selects X Bundle.tFill Bundle.tFill,
   .lays X Bundle.tN "cause" "Ljava/lang/Throwable;", .lays X Bundle.tN "stackTrace" Bundle.steD, .lays X Bundle.tN "suppressedExceptions" Bundle.listD, .lays X Bundle.tN "detailMessage" "Ljava/lang/String;",
   .isRef (.static Bundle.tN "UNASSIGNED_STACK" Bundle.steD), .isRef (.static Bundle.tN "SUPPRESSED_SENTINEL" Bundle.listD),
   .fieldLink Bundle.tN 198 Bundle.tN "backtrace" "Ljava/lang/Object;", .lays Bundle.tN Bundle.tN "backtrace" "Ljava/lang/Object;", .lays X Bundle.tN "backtrace" "Ljava/lang/Object;"]
variable {p : Program} {l : Launch} {e : Env} {R : Room} {s : State} {m : MethodId} {args : Array Value} {below : List Frame} {meth : Method} {c : Code} {locs : List Loc} {cells slots : Nat}
set_option maxHeartbeats 4000000 in
theorem nx_ctor {V : State} (X : Stand p l e R s m args below meth c V [] cells slots) (hexec : p.tables.exec = Jvm.exec) (htr : e.platform.stackTraces = false) {own cls Y : String} {r : List String} {ic : Nat}
    {ix : Nat} {rx : ByteArray} (x0 : decode rx 0 = .ok (.aload_n 0, 1)) (x1 : decode rx 1 = .ok (.aload_n 1, 1)) (x2 : decode rx 2 = .ok (.invokespecial ix, 3)) (x5 : decode rx 5 = .ok (.return_, 1))
    (hown : s.vm.findClass own = some m.cls) (hcls : Bundle.fit cls = true) (hnames : ∀ n ∈ Y :: r, Bundle.fit n = true)
    (h : ∀ a ∈ nx_atoms own ic cls ix rx (Y :: r), a.before args s = true)
    {a : Addr} {cX : ClassId} {kX : Class} (hfoundX : s.vm.findClass cls = some cX) (hkX : s.vm.classes[cX]? = some kX) (hcell : V.heap[a]? = some (freshCell cX kX)) (hnew : s.heap.size ≤ a)
    {msg : Value} (hmsg : msg.isRef = true)
    {g : JFrame} (hg : g.method = m) (hsize : g.locals.size = c.maxLocals) (hlocked : g.locked = none) (hentered : g.entered = []) {rest : List Value} (hstack : g.stack = msg :: .ref a :: .ref a :: rest)
    (hd6 : decode c.code g.pc = .ok (.invokespecial ic, 3)) (hd9 : decode c.code (g.pc + 3) = .ok (.athrow, 1)) (hout : ∀ x ∈ c.exceptionTable.toList, covers x (g.pc + 3) = false)
    (hRframes : (Y :: r).length + 3 < R.frames) (hRlocals : 2 * g.monitorRoom + ((Value.ref a :: rest).map fun v => v.category).sum + (13 * ((Y :: r).length + 1) + 42) ≤ R.locals) (hlocks : meth.locks = false) :
    ∃ U : State, Steps p.tables e below (V.setTop g) U ∧ U.status = .running ∧ Ended U below (.threw a) ∧ s.WarmedH U.vm ∧ s.sameButNew ({ U with vm := s.vm } : State) [] cells slots ∧
      ∃ ce, U.heap[a]? = some ce ∧ s.vm.findClass cls = some ce.cls ∧ ce.vm = .none := by
  have howns : e.platform.frameOwnsMonitors = true := by rw [X.admits.platform]
  have hfin : e.platform.finalization = false := by rw [X.admits.platform]
  have hpl : e.platform.magicAccessors = ({} : Platform).magicAccessors := by rw [X.admits.platform]
  have a' : ∀ x, x ∈ nx_atoms own ic cls ix rx (Y :: r) → x.holds args s none s [] = true := fun x hx => h x hx
  obtain ⟨T, Z0, L, -, Y9⟩ := ThrowableC.of_atoms (args := args) howns hfin hpl (fun x hx => h x (by simp [nx_atoms, hx]))
  obtain ⟨Z, M, LZ, LM, hnZ⟩ := Init0T.ofS_atoms (args := args) hpl L Y9 (fun x hx => h x (by simp [nx_atoms, hx]))
  obtain ⟨P1, Ps, hlen, L1, hL, hP1m, hlink1, hlink⟩ := nx_chainS (args := args) hpl hnZ x0 x1 x2 x5 hcls hnames (fun x hx => h x (by simp [nx_atoms, hx]))
  have hfound : s.vm.findClass cls = some P1.m.cls := findClass_of_methodNamed hP1m
  cases Option.some.inj (hfoundX.symm.trans hfound)
  obtain ⟨c1, kX', hc1, hk, hord, -, -, hn6⟩ := Cond.instantiable_spec (a' (.instantiable cls 6) (by simp [nx_atoms]))
  cases Option.some.inj (hc1.symm.trans hfound)
  cases Option.some.inj (hkX.symm.trans hk)
  have hsel0 : selectMethod e.platform s.vm P1.m.cls T.fill0 = .method T.fill0 := by
    obtain ⟨c2, r2, m2, q1, q2, q3, q4, -⟩ := Cond.selects_spec (a' (.selects cls Bundle.tFill0 Bundle.tFill0) (by simp [nx_atoms]))
    cases Option.some.inj (q1.symm.trans hfound)
    cases Option.some.inj (q2.symm.trans (State.methodFound?_of_named Y9.fill0 (by decide)))
    cases Option.some.inj (q3.symm.trans Y9.fill0)
    rw [Launch.admits_selectMethod X.admits]; exact q4
  have hselF : selectMethod e.platform s.vm P1.m.cls T.fill = .method T.fill := by
    obtain ⟨c2, r2, m2, q1, q2, q3, q4, -⟩ := Cond.selects_spec (a' (.selects cls Bundle.tFill Bundle.tFill) (by simp [nx_atoms]))
    cases Option.some.inj (q1.symm.trans hfound)
    cases Option.some.inj (q2.symm.trans (State.methodFound?_of_named Y9.fill (by decide)))
    cases Option.some.inj (q3.symm.trans Y9.fill)
    rw [Launch.admits_selectMethod X.admits]; exact q4
  obtain ⟨cellS0, hcS0, hiss⟩ := Y9.statics
  obtain ⟨u0, hu0⟩ := Cond.staticRefV Y9.unassigned L.unassignedStatic L.statics hcS0 hiss (a' (.isRef (.static Bundle.tN "UNASSIGNED_STACK" Bundle.steD)) (by simp [nx_atoms]))
  obtain ⟨sen, hsen⟩ := Cond.staticRefV Y9.sentinel L.sentinelStatic L.statics hcS0 hiss (a' (.isRef (.static Bundle.tN "SUPPRESSED_SENTINEL" Bundle.listD)) (by simp [nx_atoms]))
  obtain ⟨ci198, i198, fB, hk198, hg198, ha198, hsB, -, hnB, htB, hffB⟩ := Cond.ownField (t := .object "java/lang/Object") Y9.found L.cls (by decide +kernel) (a' (.fieldLink Bundle.tN 198 Bundle.tN "backtrace" "Ljava/lang/Object;") (by simp [nx_atoms])) (a' (.lays Bundle.tN Bundle.tN "backtrace" "Ljava/lang/Object;") (by simp [nx_atoms])) e.platform hpl
  obtain ⟨cellS, hcS', heS, -, hkeep⟩ := X.same.2.2.2.2.2 T.aS cellS0 hcS0
  have hcellS : V.heap[T.aS]? = some cellS := hcS'
  have hout' : ∀ i, (⟨T.aS, i⟩ : Loc) ∉ ([] : List Loc) := fun i hmem => nomatch hmem
  have hknownS : cellS.vm ≠ .unknown := by
    rw [heS]; intro hu
    rw [show cellS0.vm = .unknown from hu] at hiss
    cases hiss
  have hneS : T.aS ≠ a := Nat.ne_of_lt (Nat.lt_of_lt_of_le (Array.getElem?_eq_some_iff.mp hcS0).1 hnew)
  obtain ⟨iM, hffM⟩ := Y9.msg
  obtain ⟨tyC, dC, hdC, hdnC⟩ := Cond.laysAt hfound hk Y9.cause (a' (.lays cls Bundle.tN "cause" "Ljava/lang/Throwable;") (by simp [nx_atoms]))
  obtain ⟨tyS, dS, hdS, hdnS⟩ := Cond.laysAt hfound hk Y9.stack (a' (.lays cls Bundle.tN "stackTrace" Bundle.steD) (by simp [nx_atoms]))
  obtain ⟨tyP, dP, hdP, hdnP⟩ := Cond.laysAt hfound hk Y9.supp (a' (.lays cls Bundle.tN "suppressedExceptions" Bundle.listD) (by simp [nx_atoms]))
  obtain ⟨tyM, dM, hdM, hdnM⟩ := Cond.laysAt hfound hk hffM (a' (.lays cls Bundle.tN "detailMessage" "Ljava/lang/String;") (by simp [nx_atoms]))
  obtain ⟨tyB, dB, hdB, hdnB⟩ := Cond.laysAt hfound hk hffB (a' (.lays cls Bundle.tN "backtrace" "Ljava/lang/Object;") (by simp [nx_atoms]))
  have bC := Cond.laysApart hdB hdC hdnB hdnC (by rw [hnB, Y9.causeName]; decide)
  have bS := Cond.laysApart hdB hdS hdnB hdnS (by rw [hnB, Y9.stackName]; decide)
  have bP := Cond.laysApart hdB hdP hdnB hdnP (by rw [hnB, Y9.suppName]; decide)
  have hskip : SkipFacts T e.platform s (fun u => u) u0 ((preparedCellV T.toThrowableT (freshCell P1.m.cls kX) a u0 sen).withEntry V.cur) :=
    ⟨{ ci198 := ci198, i198 := i198, fBack := fB }, ⟨hk198, hg198, ha198, hsB⟩, by
      have := fresh_default (c := P1.m.cls) tyB
      rw [htB] at this
      simpa [preparedCellV, Cell.setSlot, Cell.withEntry, Array.getElem?_setIfInBounds, bC, bS, bP, bC.symm, bS.symm, bP.symm, defaultValue] using this, fun _ _ => rfl⟩
  obtain ⟨tm, methC, cdC, kC, vm₁, hnC, -, -, -, -, -, -, -, hW₁, st1⟩ := Steps.initColdS (tb := p.tables) (e := e) (below := below) (s := s) (U := V) X.here hexec X.warmed hpl hown (t := Bundle.initS cls) rfl rfl (Bundle.fit_spec hcls).2
    (a' (.methodLink own ic (Bundle.initS cls)) (by simp [nx_atoms])) (h (.instanceMethod (Bundle.initS cls)) (by simp [nx_atoms, nx_chain, Bundle.passSAtoms])) (bytes := rx) (maxL := 2) (h (.code (Bundle.initS cls) rx 2 none) (by simp [nx_atoms, nx_chain, Bundle.passSAtoms]))
    (f := g) hg (a := a) (msg := msg) (rest := .ref a :: rest) hstack hd6
  cases Option.some.inj (hnC.symm.trans hP1m)
  have X₁ := X.noted hW₁
  obtain ⟨vm₂, X₂, st2⟩ := X₁.ctorMessageOffV hexec (g := { g with stack := .ref a :: rest }) hg hsize T L Z LZ M LM (P1 :: Ps)
    (fun P hP => by rcases List.mem_cons.mp hP with rfl | hP; exact L1; exact hL P hP) ⟨hlink1, hlink⟩ (u0 := u0) (sen := sen) (self := a) hmsg (cell := freshCell P1.m.cls kX) (cellS := cellS)
    hcell (fun _ => by simp) (by simp) rfl rfl hsel0 hselF hcellS hneS hknownS (by rw [hkeep _ (hout' _)]; exact hu0) (by rw [hkeep _ (hout' _)]; exact hsen)
    (Takes.of_laid hk hord tyC (by rw [Y9.causeType]; rfl)) (Takes.of_laid hk hord tyS (by rw [Y9.stackType]; exact fits_refV_array _ u0)) (Takes.of_laid hk hord tyP (by rw [Y9.suppType]; exact fits_refV_object _ sen))
    (Takes.of_laid hk hord tyM (by rw [Y9.msgType]; exact fits_refV_object _ ⟨msg, hmsg⟩)) Y9.objLocals hskip htr [] hd6
    (by simp only [List.length_cons, hlen] at hRframes ⊢; omega) (by simp only [List.length_cons, hlen] at hRlocals ⊢; exact hRlocals)
  obtain ⟨hwalk, hrun, hended, hWU, hsame⟩ := X₂.athrowLeaves hexec (g := { g with stack := .ref a :: rest, pc := g.pc + 3 }) hg hlocked hentered hout (a := a) (rest := rest) rfl hd9
  have hlt : a < ((V.setVm vm₁).setVm vm₂).heap.size := (Array.getElem?_eq_some_iff.mp hcell).1
  have hU := heapAt_setCell_self (s := (V.setVm vm₁).setVm vm₂) (plainBareV T.toThrowableT (freshCell P1.m.cls kX) a u0 sen msg) hlt
  refine ⟨_, st1 _ (fun acts => ?_), hrun, hended, hWU, hsame.weaken (fun y hy hlt' => ?_) (Nat.le_refl _) (Nat.le_refl _), _, hU, hfound, rfl⟩
  · rw [doInvoke_state]
    exact st2 _ hwalk
  · exfalso
    rcases List.mem_append.mp hy with h1 | h1
    · exact nomatch h1
    · have hb : y.base = a := by
        simp only [List.mem_cons, List.not_mem_nil, or_false] at h1
        rcases h1 with rfl | rfl | rfl | rfl | rfl <;> rfl
      rw [hb] at hlt'
      exact Nat.not_lt.mpr hnew hlt'
def nx_at (own : String) (ic : Nat) (X : String) (ix : Nat) (rx : ByteArray) (names : List String) : List Cond := (nx_atoms own ic X ix rx names).filter vx_no
variable {H : Heap} {ls : Array Slot} {rest : List Value} {Qc : Array Value → State → Outcome → State → Prop} {XC : String → State → State → Prop} {free : Addr → Prop}
theorem nx_throwS {cc : ByteArray} {pc : Nat} (hexec : p.tables.exec = Jvm.exec) (hb : c.code = cc) (hl : l.stackTraces = false) {own cls text Y : String} {r : List String} {ik is ic mc ms sa : Nat} {A : Nat → Prop}
    {ix : Nat} {rx : ByteArray} (x0 : decode rx 0 = .ok (.aload_n 0, 1)) (x1 : decode rx 1 = .ok (.aload_n 1, 1)) (x2 : decode rx 2 = .ok (.invokespecial ix, 3)) (x5 : decode rx 5 = .ok (.return_, 1))
    (hown : s.vm.findClass own = some m.cls) (hcls : Bundle.fit cls = true) (hnames : ∀ n ∈ Y :: r, Bundle.fit n = true)
    (hk : (Cond.classLink own ik cls).before args s = true) (hini : (Cond.initialized cls).before args s = true) (hstr : vk_R own is text sa s) (hat : ∀ w ∈ nx_at own ic cls ix rx (Y :: r), w.before args s = true)
    (hgood : ∀ w ∈ Cond.classLink own ik cls :: Cond.initialized cls :: nx_at own ic cls ix rx (Y :: r), vx_ot w = true)
    (hU : vx_Zq Bundle.tN "UNASSIGNED_STACK" Bundle.steD A s s.heap) (hN : vx_Zq Bundle.tN "SUPPRESSED_SENTINEL" Bundle.listD A s s.heap) (hS : va_S A s.heap H locs) (hsize : ls.size = c.maxLocals)
    (d0 : decode cc pc = .ok (.new ik, 3)) (d3 : decode cc (pc + 3) = .ok (.dup, 1)) (d4 : decode cc (pc + 4) = .ok (.ldc is, 2)) (d6 : decode cc (pc + 6) = .ok (.invokespecial ic, 3)) (d9 : decode cc (pc + 9) = .ok (.athrow, 1))
    (hout : ∀ x ∈ c.exceptionTable.toList, covers x (pc + 9) = false)
    (hRframes : (Y :: r).length + 3 < R.frames) (hRlocals : (rest.map fun v => v.category).sum + (13 * ((Y :: r).length + 1) + 43) ≤ R.locals) (hRcells : cells + 1 ≤ R.cells) (hRslots : slots + 6 ≤ R.slots) (hlocks : meth.locks = false)
    (hx : ∀ t : State, s.vm.Alike t.vm → H.size ≤ t.heap.size → (∀ q : Nat, q < H.size → t.heap[q]? = H[q]?) → XC cls s t)
    (hf : ∀ z ∈ locs, free z.base) (hc : cells + 1 ≤ mc) (hs : slots + 6 ≤ ms) :
    W p l e R s m args below meth c H locs cells slots (vx_MQ below Qc XC args s mc ms free) (F0 m pc ls rest) := by
  intro T hT X
  have htr : e.platform.stackTraces = false := (show e.platform.stackTraces = l.stackTraces by rw [X.admits.platform]).trans hl
  have Y9 := vx_rebase X (R' := { frames := R.frames, locals := R.locals, cells := 1, slots := 6 }) (Nat.le_refl _) (Nat.le_refl _) hRcells hRslots
  obtain ⟨s', hA⟩ : ∃ z, z = (T.setVm s.vm).setFrames (.invoking m args :: below) := ⟨_, rfl⟩
  rw [← hA] at Y9
  have hvm : s'.vm = s.vm := by rw [hA]; rfl
  have hhp : s'.heap = H := by rw [hA]; exact hT
  have hW0 : s.WarmedH s'.vm := by rw [hvm]; exact State.WarmedH.refl s
  have hat' : ∀ w ∈ nx_at own ic cls ix rx (Y :: r), w.before args s' = true := fun w hw => vx_ot_at hW0 hvm.symm (hgood w (List.mem_cons_of_mem _ (List.mem_cons_of_mem _ hw))) (hat w hw)
  have hk' : (Cond.classLink own ik cls).before args s' = true := vx_ot_at hW0 hvm.symm (hgood _ List.mem_cons_self) hk
  have hini' : (Cond.initialized cls).before args s' = true := vx_ot_at hW0 hvm.symm (hgood _ (List.mem_cons_of_mem _ List.mem_cons_self)) hini
  have hU' : vx_Zq Bundle.tN "UNASSIGNED_STACK" Bundle.steD A s' s'.heap := by rw [hhp]; exact vx_Zq.moved hW0.alike (hU.kept hS.2.1)
  have hN' : vx_Zq Bundle.tN "SUPPRESSED_SENTINEL" Bundle.listD A s' s'.heap := by rw [hhp]; exact vx_Zq.moved hW0.alike (hN.kept hS.2.1)
  have h : ∀ w ∈ nx_atoms own ic cls ix rx (Y :: r), w.before args s' = true := vx_own hat' (vx_isRefq hU'.1) (vx_isRefq hN'.1) hU'.2.word hN'.2.word
  have hown' : s'.vm.findClass own = some m.cls := by rw [hvm]; exact hown
  have hins : (Cond.instantiable cls 6).before args s' = true := h _ (by simp [nx_atoms])
  obtain ⟨vm₁, cX, kX, hfX, hkX, -, -, X₁, st1⟩ := Y9.newCold hexec (own := own) (C := cls) (index := ik) (n := 6) hown' hk' hins hini'
    (g := F0 m pc ls rest) rfl (by rw [hb]; exact d0) (Nat.le_refl _) (Nat.le_refl _)
  generalize hT1 : (T.setVm vm₁).pushCell { cls := cX, slots := kX.instanceTypes.map defaultValue, vm := .none } = T1 at X₁ st1
  have hcat : (Value.ref T.heap.size).category = 1 := rfl
  have hcellA : T1.heap[T.heap.size]? = some (freshCell cX kX) := by rw [← hT1]; exact State.heap_pushCell_size _ _
  have d3' : decode c.code (pc + 3) = .ok (.dup, 1) := by rw [hb]; exact d3
  have d4' : decode c.code (pc + 4) = .ok (.ldc is, 2) := by rw [hb]; exact d4
  have hstr' : vk_R own is text sa s' := vk_R.warm hW0 hstr
  obtain ⟨U, hsteps, hrun, hend, hW, hsame, ce, hce, hcl', hvm9⟩ := nx_ctor X₁ hexec htr x0 x1 x2 x5 (own := own) (cls := cls) (ic := ic) hown' hcls hnames h hfX hkX hcellA (by rw [hhp, hT]; exact Nat.le_refl _) (msg := .ref sa) rfl
    (g := { method := m, pc := pc + 6, locals := ls, stack := .ref sa :: .ref T.heap.size :: .ref T.heap.size :: rest, locked := none }) rfl hsize rfl rfl (rest := rest) rfl
    (by rw [hb]; exact d6) (by rw [hb]; exact d9) hout hRframes (by simp only [List.map_cons, List.sum_cons, hcat]; omega) hlocks
  obtain ⟨f1, f2⟩ := vx_frame hsame
  rw [hhp] at f1 f2
  have hWs : s.WarmedH U.vm := State.WarmedH.trans hW0 hW
  have hcl : s.vm.findClass cls = some ce.cls := by
    have h9 := hcl'
    rw [hvm] at h9
    exact h9
  have hall : s.sameButNew ({ U with vm := s.vm } : State) locs mc ms := by
    subst hA
    obtain ⟨e1, e2⟩ := hsame
    rw [State.setFrames_setFrames] at e1
    have h2 : (T.setVm s.vm).sameButNew ({ U with vm := s.vm } : State) [] (0 + 1) (0 + 6) := ⟨e1, e2⟩
    have h3 := X.same.trans h2
    rw [List.append_nil] at h3
    exact h3.mono hc hs
  refine ⟨U, ?_, .threw T.heap.size, hrun, hend, Or.inr ⟨T.heap.size, rfl, cls, ce, locs, hx U hWs.alike f1 (fun q hq => f2 q hq (fun z hz => nomatch hz)), hce, hvm9, hcl, hWs, hall, hf⟩⟩
  refine st1 _ ?_
  show Steps p.tables e below (T1.setTop { method := m, pc := pc + 3, locals := ls, stack := .ref T.heap.size :: rest, locked := none }) _
  jvm_step X₁.here [X₁.here.top, hexec, d3', Value.category]
  exact X₁.ldcString hexec (own := own) (text := text) (index := is) (a := sa) hown' hstr'.1 hstr'.2
    (g := { method := m, pc := pc + 4, locals := ls, stack := .ref T.heap.size :: .ref T.heap.size :: rest, locked := none }) rfl d4' _ hsteps
end NSE
def nx_rx : ByteArray := ⟨#[0x2a, 0x2b, 0xb7, 0x00, 0x0d, 0xb1]⟩
theorem nx_0 : decode nx_rx 0 = .ok (.aload_n 0, 1) := by decide +kernel
theorem nx_1 : decode nx_rx 1 = .ok (.aload_n 1, 1) := by decide +kernel
theorem nx_2 : decode nx_rx 2 = .ok (.invokespecial 13, 3) := by decide +kernel
theorem nx_5 : decode nx_rx 5 = .ok (.return_, 1) := by decide +kernel
theorem cf_372 (ad : Nat → Nat) (pr : Int32 → Nat) (N : Nat) (cI cR : ClassId) (L1 L2 : List Nat) (v : MS) (f : Nat → Int32) : (cW ad pr N cI cR L1 L2 v).set 28 (ad 372, .inl (cI, 4000, .inl f)) = cW ad pr N cI cR L1 L2 (wF v 372 f) := by
  unfold cW
  rw [rowF (by decide), rowF (by decide)]
  rfl
theorem cp_le {x : Int32} (h0 : 0 ≤ x.toInt) (h : x.toInt ≤ 4000) : (0 : Int32).toNatClampNeg + x.toNatClampNeg ≤ 4000 := by
  have e := nat_z h0
  have : (0 : Int32).toNatClampNeg = 0 := by decide
  omega
theorem nlt0 {x : Int32} (h : 0 ≤ x.toInt) : ¬ x < 0 := fun (k : x < 0) => by
  have h1 := Int32.lt_iff_toInt_lt.mp k
  have e : (0 : Int32).toInt = 0 := by decide
  omega
theorem om_9036138b2b {x0 : Int} (h0 : x0 = (0 : Int)) : 0 ≤ x0 ∧ x0 ≤ 4000 := by omega
theorem om_9e02517594 {x0 : Int} (h0 : x0 ≤ (4000 : Int)) (h1 : (4000 : Int) < x0) : False := by omega
theorem om_89fad85199 {x0 : Int} (h0 : x0 ≤ (4000 : Int)) : x0 ≤ 4000 := by omega
theorem om_f72e184175 {x0 x1 : Int} (h0 : (0 : Int) ≤ x0) (h1 : x0 ≤ (4000 : Int)) (h2 : x1 = x0) : 0 ≤ x1 ∧ x1 ≤ 4000 := by omega
set_option maxHeartbeats 4000000 in
set_option maxRecDepth 100000 in
theorem c_x_X7_copyText (l : Launch) (dC : Nat → ClassId) (dI : Nat → Nat → Nat) (cI cB cZ cJ cR : ClassId) (tb : Nat → Nat) (sz : Nat) (ad : Nat → Nat) (pr : Int32 → Nat) (N : Nat) (L1 L2 : List Nat) (v : MS) (pa : Int32)  : Met l yX7_copyText (Cond.code yX7_copyText cX7_copyText 3 none :: tw_W) ({ frames := 1, cells := 0, slots := 0, locals := 40 }) (pc_ (dC, dI) (tyS cI cB cZ cJ cR) tb (cW ad pr N cI cR L1 L2 v) sz [.ref (ad 908), .ref (ad 299), .int pa]) (qv_ (dC, dI) (cW ad pr N cI cR L1 L2 v) sz (fun (u : MS) => FC [373] [0, 372] v u ∧ (Q_x_X7_copyText L1 L2 v pa u) ∧ (0 ≤ (u.1 0 373).toInt ∧ (u.1 0 373).toInt ≤ 4000)) (fun (u : MS) => (cW ad pr N cI cR L1 L2 u))) 0 0 (va_A (cW ad pr N cI cR L1 L2 v) sz) := by
  refine Met.ofW (cc := cX7_copyText) (maxL := 3) (ret := none) (by decide) rfl ?_
  intro p e s m args below meth c s₁ B hml hv
  obtain ⟨rfl, hsz, hP, hKK, hD0, hFx⟩ := hv
  have hK := hKK.1
  have hx := B.exec
  have hb := B.bytes
  have hr := B.returns
  have ht : ∀ w ∈ tw_W, w.before _ s = true := fun w h => atoms_spec (ws := Cond.code yX7_copyText cX7_copyText 3 none :: tw_W) B.pre w (List.mem_cons_of_mem _ h)
  have hown : s.vm.findClass RX7 = some m.cls := findClass_of_methodNamed B.named
  have hlocks := B.notSynchronized
  subst hsz
  unfold qv_
  have hD := hD0.self (sz := s.heap.size)
  generalize hAe : va_A (cW ad pr N cI cR L1 L2 v) s.heap.size = A at hD hFx ⊢
  have hA : ∀ q : Nat, s.heap.size ≤ q → A q := fun q h => by rw [← hAe]; exact Or.inr h
  have hS : va_S A s.heap s.heap [] := va_S.rf
  have hl := lv_entry ([.ref (ad 908), .ref (ad 299), .int pa]) (n := 3) (Nat.le_of_ble_eq_true rfl)
  rw [lg_entry_eq]
  generalize (lg_sl ([.ref (ad 908), .ref (ad 299), .int pa]) ++ List.replicate (3 - (lg_sl ([.ref (ad 908), .ref (ad 299), .int pa])).length) Slot.unset).toArray = ls at hl ⊢
  have hl : lv_has ls 3 [(0, .ref (ad 908)), (1, .ref (ad 299)), (2, .int pa)] := hl
  refine lv_aload_n hx hb dX7_copyText_0 rfl (lv_at hl 0 rfl) ?_
  refine lv_iload_n hx hb dX7_copyText_1 rfl (lv_at hl 2 rfl) ?_
  refine lv_if_lt (tgt := 24) hx hb dX7_copyText_2 (by decide) (fun h1 => ?_) (fun h1 => ?_)
  · have z2 : pa.toInt < (0 : Int) := lt_z rfl (show (0 : Int32).toInt = (0 : Int) by decide) h1
    refine lv_iconst (v := 0) hx hb dX7_copyText_24 (by decide) ?_
    refine va_put (D := (dC, dI)) (ci := 10) (fs := oF_X7 ad pr v) (v := .int 0) (ty := .int) (C := RX7) (T := TX7) (N := 13) hx hb ht itX7 tyX7 tyX7_ok nmX7 hown hK hP hD hS 8 rfl rfl 1 (by decide) (ht _ tw_390) (fun _ h9 => h9) rfl (by decide +kernel) rfl rfl (Nat.le_of_ble_eq_true rfl) dX7_copyText_25 (fun H locs hP hD hS => ?_)
    have hP := cP_ (cw_373 ad pr N cI cR L1 L2 v 0) hP
    have hD := cD_ (cw_373 ad pr N cI cR L1 L2 v 0) hD
    refine lv_aload_n hx hb dX7_copyText_28 rfl (lv_at hl 1 rfl) ?_
    refine lv_iconst (v := 0) hx hb dX7_copyText_29 (by decide) ?_
    refine lv_aload_n hx hb dX7_copyText_30 rfl (lv_at hl 0 rfl) ?_
    refine va_get (D := (dC, dI)) (ci := 10) (fs := oF_X7 ad pr (wA v 0 373 0)) (v := .ref (ad 372)) (C := RX7) (T := TX7) (N := 13) hx hb ht itX7 hown hK hP 8 rfl rfl 0 (by decide) (ht _ tw_391) (fun _ h9 => h9) rfl dX7_copyText_31 ?_
    refine lv_iconst (v := 0) hx hb dX7_copyText_34 (by decide) ?_
    refine lv_aload_n hx hb dX7_copyText_35 rfl (lv_at hl 0 rfl) ?_
    refine va_get (D := (dC, dI)) (ci := 10) (fs := oF_X7 ad pr (wA v 0 373 0)) (v := .int 0) (C := RX7) (T := TX7) (N := 13) hx hb ht itX7 hown hK hP 8 rfl rfl 1 (by decide) (ht _ tw_390) (fun _ h9 => h9) rfl dX7_copyText_36 ?_
    refine va_copyi (D := (dC, dI)) (ty := .int) (f := (v.1 299)) (g := (v.1 372)) hx hb (by rw [hml]; exact hl.1.symm) hown (ht _ tw_908) (ht _ tw_909) (ht _ tw_910) (ht _ tw_911) hK hP hD hS 9 28 0 0 rfl rfl rfl rfl rfl (by decide) (by decide) (by decide) (by decide) (by decide) (fun i _ => rfl) (Nat.le_of_ble_eq_true rfl) (Nat.le_of_ble_eq_true rfl) dX7_copyText_39 (fun H locs hP hD hS => ?_)
    have hP := cP_ (cf_372 ad pr N cI cR L1 L2 (wA v 0 373 0) (va_cpy (v.1 299) (v.1 372) (0 : Int32).toNatClampNeg (0 : Int32).toNatClampNeg (0 : Int32).toNatClampNeg)) hP
    have hD := cD_ (cf_372 ad pr N cI cR L1 L2 (wA v 0 373 0) (va_cpy (v.1 299) (v.1 372) (0 : Int32).toNatClampNeg (0 : Int32).toNatClampNeg (0 : Int32).toNatClampNeg)) hD
    obtain ⟨u3, hu4⟩ : ∃ z, z = wF (wA v 0 373 0) 372 (va_cpy (v.1 299) (v.1 372) (0 : Int32).toNatClampNeg (0 : Int32).toNatClampNeg (0 : Int32).toNatClampNeg) := ⟨_, rfl⟩
    rw [← hu4] at hP hD
    have fr4 : FC [] [372] (wA v 0 373 0) u3 := by rw [hu4]; exact FC.wf _ _ (by decide) (by decide)
    have q5 : (u3.1 0 373).toInt = (0 : Int) := congrArg Int32.toInt ((fr4.2.1 373 (by decide)).trans (show (wA v 0 373 0).1 0 373 = (0 : Int32) by rfl))
    exact W.vret hx hb hr (fun t ht9 hW => ⟨⟨u3, rfl, ⟨(FC.tr (FC.f (FC.rf _) 0 (by decide)) (FC.up fr4 (by decide) (by decide))), (Or.inl ⟨z2, u3, hu4, rfl⟩), (show 0 ≤ (u3.1 0 373).toInt ∧ (u3.1 0 373).toInt ≤ 4000 from (om_9036138b2b q5))⟩, by rw [ht9]; exact hP, hD⟩, hS.F ht9⟩) hS.2.2 dX7_copyText_42
  · have z6 : (0 : Int) ≤ pa.toInt := nlt_z rfl (show (0 : Int32).toInt = (0 : Int) by decide) h1
    refine lv_iload_n hx hb dX7_copyText_5 rfl (lv_at hl 2 rfl) ?_
    refine lv_aload_n hx hb dX7_copyText_6 rfl (lv_at hl 1 rfl) ?_
    refine va_alen (D := (dC, dI)) (v := 4000) hx hb hK hP 9 0 rfl rfl rfl dX7_copyText_7 ?_
    refine lv_icmp_gt (tgt := 24) hx hb dX7_copyText_8 (by decide) (fun h7 => ?_) (fun h7 => ?_)
    · have z8 : (4000 : Int) < pa.toInt := lt_z (show (4000 : Int32).toInt = (4000 : Int) by decide) rfl h7
      refine lv_iconst (v := 0) hx hb dX7_copyText_24 (by decide) ?_
      refine va_put (D := (dC, dI)) (ci := 10) (fs := oF_X7 ad pr v) (v := .int 0) (ty := .int) (C := RX7) (T := TX7) (N := 13) hx hb ht itX7 tyX7 tyX7_ok nmX7 hown hK hP hD hS 8 rfl rfl 1 (by decide) (ht _ tw_390) (fun _ h9 => h9) rfl (by decide +kernel) rfl rfl (Nat.le_of_ble_eq_true rfl) dX7_copyText_25 (fun H locs hP hD hS => ?_)
      have hP := cP_ (cw_373 ad pr N cI cR L1 L2 v 0) hP
      have hD := cD_ (cw_373 ad pr N cI cR L1 L2 v 0) hD
      refine lv_aload_n hx hb dX7_copyText_28 rfl (lv_at hl 1 rfl) ?_
      refine lv_iconst (v := 0) hx hb dX7_copyText_29 (by decide) ?_
      refine lv_aload_n hx hb dX7_copyText_30 rfl (lv_at hl 0 rfl) ?_
      refine va_get (D := (dC, dI)) (ci := 10) (fs := oF_X7 ad pr (wA v 0 373 0)) (v := .ref (ad 372)) (C := RX7) (T := TX7) (N := 13) hx hb ht itX7 hown hK hP 8 rfl rfl 0 (by decide) (ht _ tw_391) (fun _ h9 => h9) rfl dX7_copyText_31 ?_
      refine lv_iconst (v := 0) hx hb dX7_copyText_34 (by decide) ?_
      refine lv_aload_n hx hb dX7_copyText_35 rfl (lv_at hl 0 rfl) ?_
      refine va_get (D := (dC, dI)) (ci := 10) (fs := oF_X7 ad pr (wA v 0 373 0)) (v := .int 0) (C := RX7) (T := TX7) (N := 13) hx hb ht itX7 hown hK hP 8 rfl rfl 1 (by decide) (ht _ tw_390) (fun _ h9 => h9) rfl dX7_copyText_36 ?_
      refine va_copyi (D := (dC, dI)) (ty := .int) (f := (v.1 299)) (g := (v.1 372)) hx hb (by rw [hml]; exact hl.1.symm) hown (ht _ tw_908) (ht _ tw_909) (ht _ tw_910) (ht _ tw_911) hK hP hD hS 9 28 0 0 rfl rfl rfl rfl rfl (by decide) (by decide) (by decide) (by decide) (by decide) (fun i _ => rfl) (Nat.le_of_ble_eq_true rfl) (Nat.le_of_ble_eq_true rfl) dX7_copyText_39 (fun H locs hP hD hS => ?_)
      have hP := cP_ (cf_372 ad pr N cI cR L1 L2 (wA v 0 373 0) (va_cpy (v.1 299) (v.1 372) (0 : Int32).toNatClampNeg (0 : Int32).toNatClampNeg (0 : Int32).toNatClampNeg)) hP
      have hD := cD_ (cf_372 ad pr N cI cR L1 L2 (wA v 0 373 0) (va_cpy (v.1 299) (v.1 372) (0 : Int32).toNatClampNeg (0 : Int32).toNatClampNeg (0 : Int32).toNatClampNeg)) hD
      obtain ⟨u10, hu11⟩ : ∃ z, z = wF (wA v 0 373 0) 372 (va_cpy (v.1 299) (v.1 372) (0 : Int32).toNatClampNeg (0 : Int32).toNatClampNeg (0 : Int32).toNatClampNeg) := ⟨_, rfl⟩
      rw [← hu11] at hP hD
      have fr11 : FC [] [372] (wA v 0 373 0) u10 := by rw [hu11]; exact FC.wf _ _ (by decide) (by decide)
      have q12 : (u10.1 0 373).toInt = (0 : Int) := congrArg Int32.toInt ((fr11.2.1 373 (by decide)).trans (show (wA v 0 373 0).1 0 373 = (0 : Int32) by rfl))
      exact W.vret hx hb hr (fun t ht9 hW => ⟨⟨u10, rfl, ⟨(FC.tr (FC.f (FC.rf _) 0 (by decide)) (FC.up fr11 (by decide) (by decide))), (Or.inr (⟨z6, (Or.inl ⟨z8, u10, hu11, rfl⟩)⟩)), (show 0 ≤ (u10.1 0 373).toInt ∧ (u10.1 0 373).toInt ≤ 4000 from (om_9036138b2b q12))⟩, by rw [ht9]; exact hP, hD⟩, hS.F ht9⟩) hS.2.2 dX7_copyText_42
    · have z13 : pa.toInt ≤ (4000 : Int) := nlt_z (show (4000 : Int32).toInt = (4000 : Int) by decide) rfl h7
      refine lv_iload_n hx hb dX7_copyText_11 rfl (lv_at hl 2 rfl) ?_
      refine lv_aload_n hx hb dX7_copyText_12 rfl (lv_at hl 0 rfl) ?_
      refine va_get (D := (dC, dI)) (ci := 10) (fs := oF_X7 ad pr v) (v := .ref (ad 372)) (C := RX7) (T := TX7) (N := 13) hx hb ht itX7 hown hK hP 8 rfl rfl 0 (by decide) (ht _ tw_391) (fun _ h9 => h9) rfl dX7_copyText_13 ?_
      refine va_alen (D := (dC, dI)) (v := 4000) hx hb hK hP 28 0 rfl rfl rfl dX7_copyText_16 ?_
      refine lv_icmp_gt (tgt := 24) hx hb dX7_copyText_17 (by decide) (fun h14 => ?_) (fun h14 => ?_)
      · have z15 : (4000 : Int) < pa.toInt := lt_z (show (4000 : Int32).toInt = (4000 : Int) by decide) rfl h14
        exact False.elim (om_9e02517594 z13 z15)
      · have z16 : pa.toInt ≤ (4000 : Int) := nlt_z (show (4000 : Int32).toInt = (4000 : Int) by decide) rfl h14
        refine lv_iload_n hx hb dX7_copyText_20 rfl (lv_at hl 2 rfl) ?_
        refine lv_goto (tgt := 25) hx hb dX7_copyText_21 (by decide) ?_
        refine va_put (D := (dC, dI)) (ci := 10) (fs := oF_X7 ad pr v) (v := .int pa) (ty := .int) (C := RX7) (T := TX7) (N := 13) hx hb ht itX7 tyX7 tyX7_ok nmX7 hown hK hP hD hS 8 rfl rfl 1 (by decide) (ht _ tw_390) (fun _ h9 => h9) rfl (by decide +kernel) rfl rfl (Nat.le_of_ble_eq_true rfl) dX7_copyText_25 (fun H locs hP hD hS => ?_)
        have hP := cP_ (cw_373 ad pr N cI cR L1 L2 v pa) hP
        have hD := cD_ (cw_373 ad pr N cI cR L1 L2 v pa) hD
        refine lv_aload_n hx hb dX7_copyText_28 rfl (lv_at hl 1 rfl) ?_
        refine lv_iconst (v := 0) hx hb dX7_copyText_29 (by decide) ?_
        refine lv_aload_n hx hb dX7_copyText_30 rfl (lv_at hl 0 rfl) ?_
        refine va_get (D := (dC, dI)) (ci := 10) (fs := oF_X7 ad pr (wA v 0 373 pa)) (v := .ref (ad 372)) (C := RX7) (T := TX7) (N := 13) hx hb ht itX7 hown hK hP 8 rfl rfl 0 (by decide) (ht _ tw_391) (fun _ h9 => h9) rfl dX7_copyText_31 ?_
        refine lv_iconst (v := 0) hx hb dX7_copyText_34 (by decide) ?_
        refine lv_aload_n hx hb dX7_copyText_35 rfl (lv_at hl 0 rfl) ?_
        refine va_get (D := (dC, dI)) (ci := 10) (fs := oF_X7 ad pr (wA v 0 373 pa)) (v := .int pa) (C := RX7) (T := TX7) (N := 13) hx hb ht itX7 hown hK hP 8 rfl rfl 1 (by decide) (ht _ tw_390) (fun _ h9 => h9) rfl dX7_copyText_36 ?_
        refine va_copyi (D := (dC, dI)) (ty := .int) (f := (v.1 299)) (g := (v.1 372)) hx hb (by rw [hml]; exact hl.1.symm) hown (ht _ tw_908) (ht _ tw_909) (ht _ tw_910) (ht _ tw_911) hK hP hD hS 9 28 0 0 rfl rfl rfl rfl rfl (by decide) (by decide) (nlt0 (om_51058f7f87 z6)) (cp_le (om_51058f7f87 z6) (om_89fad85199 z13)) (cp_le (om_51058f7f87 z6) (om_89fad85199 z13)) (fun i _ => rfl) (Nat.le_of_ble_eq_true rfl) (Nat.le_of_ble_eq_true rfl) dX7_copyText_39 (fun H locs hP hD hS => ?_)
        have hP := cP_ (cf_372 ad pr N cI cR L1 L2 (wA v 0 373 pa) (va_cpy (v.1 299) (v.1 372) (0 : Int32).toNatClampNeg (0 : Int32).toNatClampNeg pa.toNatClampNeg)) hP
        have hD := cD_ (cf_372 ad pr N cI cR L1 L2 (wA v 0 373 pa) (va_cpy (v.1 299) (v.1 372) (0 : Int32).toNatClampNeg (0 : Int32).toNatClampNeg pa.toNatClampNeg)) hD
        obtain ⟨u17, hu18⟩ : ∃ z, z = wF (wA v 0 373 pa) 372 (va_cpy (v.1 299) (v.1 372) (0 : Int32).toNatClampNeg (0 : Int32).toNatClampNeg pa.toNatClampNeg) := ⟨_, rfl⟩
        rw [← hu18] at hP hD
        have fr18 : FC [] [372] (wA v 0 373 pa) u17 := by rw [hu18]; exact FC.wf _ _ (by decide) (by decide)
        have q19 : (u17.1 0 373).toInt = pa.toInt := congrArg Int32.toInt ((fr18.2.1 373 (by decide)).trans (show (wA v 0 373 pa).1 0 373 = pa by rfl))
        exact W.vret hx hb hr (fun t ht9 hW => ⟨⟨u17, rfl, ⟨(FC.tr (FC.f (FC.rf _) pa (by decide)) (FC.up fr18 (by decide) (by decide))), (Or.inr (⟨z6, (Or.inr (⟨z13, z16, u17, hu18, rfl⟩))⟩)), (show 0 ≤ (u17.1 0 373).toInt ∧ (u17.1 0 373).toInt ≤ 4000 from (om_f72e184175 z6 z13 q19))⟩, by rw [ht9]; exact hP, hD⟩, hS.F ht9⟩) hS.2.2 dX7_copyText_42
theorem om_22bbccc3ef {x0 x1 : Int} (h0 : x0 ≤ 4000) (h1 : x1 < x0) : x1 < 4000 := by omega
theorem om_cf6342c028 {x0 : Int} (h0 : x0 ≤ 4000) (h1 : (4000 : Int) < x0) : False := by omega
set_option maxHeartbeats 4000000 in
set_option maxRecDepth 100000 in
theorem c_x_X7_isNameAt (l : Launch) (dC : Nat → ClassId) (dI : Nat → Nat → Nat) (cI cB cZ cJ cR : ClassId) (tb : Nat → Nat) (sz : Nat) (ad : Nat → Nat) (pr : Int32 → Nat) (N : Nat) (L1 L2 : List Nat) (v : MS) (pa : Int32) (pb : Int32) (z373 : 0 ≤ (v.1 0 373).toInt ∧ (v.1 0 373).toInt ≤ 4000) (zt : pb.toInt ≤ 4000) : Met l yX7_isNameAt (Cond.code yX7_isNameAt cX7_isNameAt 5 (some .boolean) :: tw_W) ({ frames := 2, cells := 0, slots := 0, locals := 43 }) (pc_ (dC, dI) (tyS cI cB cZ cJ cR) tb (cW ad pr N cI cR L1 L2 v) sz [.ref (ad 908), .int pa, .ref (ad 299), .int pb]) (qi_ (dC, dI) (cW ad pr N cI cR L1 L2 v) sz (fun (r : Int32) (u : MS) => v = u ∧ (Q_x_X7_isNameAt L1 L2 v pa pb r) ∧ (r = 0 ∨ r = 1) ∧ (0 ≤ r.toInt ∧ r.toInt ≤ 1)) (fun (u : MS) => (cW ad pr N cI cR L1 L2 u))) 0 0 (va_A (cW ad pr N cI cR L1 L2 v) sz) := by
  refine Met.ofW (cc := cX7_isNameAt) (maxL := 5) (ret := (some .boolean)) (by decide) rfl ?_
  intro p e s m args below meth c s₁ B hml hv
  obtain ⟨rfl, hsz, hP, hKK, hD0, hFx⟩ := hv
  have hK := hKK.1
  have hx := B.exec
  have hb := B.bytes
  have hr := B.returns
  have ht : ∀ w ∈ tw_W, w.before _ s = true := fun w h => atoms_spec (ws := Cond.code yX7_isNameAt cX7_isNameAt 5 (some .boolean) :: tw_W) B.pre w (List.mem_cons_of_mem _ h)
  have hown : s.vm.findClass RX7 = some m.cls := findClass_of_methodNamed B.named
  have hlocks := B.notSynchronized
  subst hsz
  unfold qi_
  have hD := hD0.self (sz := s.heap.size)
  generalize hAe : va_A (cW ad pr N cI cR L1 L2 v) s.heap.size = A at hD hFx ⊢
  have hA : ∀ q : Nat, s.heap.size ≤ q → A q := fun q h => by rw [← hAe]; exact Or.inr h
  have hS : va_S A s.heap s.heap [] := va_S.rf
  have hl := lv_entry ([.ref (ad 908), .int pa, .ref (ad 299), .int pb]) (n := 5) (Nat.le_of_ble_eq_true rfl)
  rw [lg_entry_eq]
  generalize (lg_sl ([.ref (ad 908), .int pa, .ref (ad 299), .int pb]) ++ List.replicate (5 - (lg_sl ([.ref (ad 908), .int pa, .ref (ad 299), .int pb])).length) Slot.unset).toArray = ls at hl ⊢
  have hl : lv_has ls 5 [(0, .ref (ad 908)), (1, .int pa), (2, .ref (ad 299)), (3, .int pb)] := hl
  refine lv_aload_n hx hb dX7_isNameAt_0 rfl (lv_at hl 0 rfl) ?_
  refine lv_iload_n hx hb dX7_isNameAt_1 rfl (lv_at hl 1 rfl) ?_
  refine cu_i (rn_Vk (n := 1) (As := [.int pa]) (rest := []) hx hb hml hown ht hKK hFx hP hD hS hA (c_x_X7_nameBytes l dC dI cI cB cZ cJ cR tb s.heap.size ad pr N L1 L2 v pa (show 0 ≤ (v.1 0 373).toInt ∧ (v.1 0 373).toInt ≤ 4000 from (om_c74a68af25 z373))) tw_423 tw_912 (by decide +kernel) rfl rfl ⟨Nat.le_of_ble_eq_true rfl, Nat.le_of_ble_eq_true rfl⟩ (List.range (cW ad pr N cI cR L1 L2 v).length) (rg_map _) (nd_range _) 8 rfl rfl rfl rfl hl.1 rfl (Nat.le_of_ble_eq_true rfl) dX7_isNameAt_2 ⟨Nat.le_of_ble_eq_true rfl, Nat.le_of_ble_eq_true rfl⟩) hP hD hS hA (fun r3 u2 H locs hw1 hP hD hS => ?_)
  obtain ⟨rfl, ex1⟩ := hw1
  refine W.widen (k := 0) (n := 0) (Nat.le_refl _) (Nat.le_refl _) ?_
  refine lv_iload_n hx hb dX7_isNameAt_5 rfl (lv_at hl 3 rfl) ?_
  refine lv_icmp_ne (tgt := 15) hx hb dX7_isNameAt_6 (by decide) (fun h4 => ?_) (fun h4 => ?_)
  · have z5 : r3.toInt ≠ pb.toInt := ne_z rfl rfl h4
    refine lv_iconst (v := 0) hx hb dX7_isNameAt_15 (by decide) ?_
    exact W.zret (v := 0) hx hb hr rfl (fun t ht9 hW => ⟨⟨0, v, rfl, ⟨rfl, ⟨z373, zt, r3, ex1, (Or.inl ⟨z5, rfl⟩)⟩, ⟨Or.inl rfl, (by decide)⟩⟩, by rw [ht9]; exact hP, hD⟩, hS.F ht9⟩) hS.2.2 dX7_isNameAt_16
  · have z6 : r3.toInt = pb.toInt := eq_z rfl rfl h4
    refine lv_iload_n hx hb dX7_isNameAt_9 rfl (lv_at hl 3 rfl) ?_
    refine lv_aload_n hx hb dX7_isNameAt_10 rfl (lv_at hl 2 rfl) ?_
    refine va_alen (D := (dC, dI)) (v := 4000) hx hb hK hP 9 0 rfl rfl rfl dX7_isNameAt_11 ?_
    refine lv_icmp_le (tgt := 17) hx hb dX7_isNameAt_12 (by decide) (fun h7 => ?_) (fun h7 => ?_)
    · have z8 : pb.toInt ≤ (4000 : Int) := le_z rfl (show (4000 : Int32).toInt = (4000 : Int) by decide) h7
      refine lv_iconst (v := 0) hx hb dX7_isNameAt_17 (by decide) ?_
      refine lv_istore (lv' := [(4, .int 0), (0, .ref (ad 908)), (1, .int pa), (2, .ref (ad 299)), (3, .int pb)]) hx hb dX7_isNameAt_18 hl (by decide) rfl (fun ls hl => ?_)
      refine lpm_ (X := Int32) (P := (fun (x9 : Int32) (H : Heap) (locs : List Loc) (ls : Array Slot) => (0 ≤ x9.toInt) ∧ (RT (Q_x_X7_isNameAt_L0 L1 L2 v pa pb) 0 x9) ∧ va_P (dC, dI) vwCl (cW ad pr N cI cR L1 L2 v) H ∧ va_D A (cW ad pr N cI cR L1 L2 v) ∧ va_S A s.heap H locs ∧ lv_has ls 5 [(4, .int x9), (0, .ref (ad 908)), (1, .int pa), (2, .ref (ad 299)), (3, .int pb)])) (fun x9 => (pb.toInt - x9.toInt).toNat) 20 (fun ka H locs ls hh ih20 => ?_) 0 _ _ _ ⟨(show 0 ≤ (0 : Int) from om_342087eeda), RT.rf, hP, hD, hS, lv_sub hl [0, 1, 2, 3, 4] rfl⟩
      obtain ⟨f1L20, exL20, hP, hD, hS, hl⟩ := hh
      have f1L20 : 0 ≤ ka.toInt := f1L20
      have hl : lv_has ls 5 [(4, .int ka), (0, .ref (ad 908)), (1, .int pa), (2, .ref (ad 299)), (3, .int pb)] := hl
      refine lv_iload hx hb dX7_isNameAt_20 (lv_at hl 0 rfl) ?_
      refine lv_iload_n hx hb dX7_isNameAt_22 rfl (lv_at hl 4 rfl) ?_
      refine lv_icmp_ge (tgt := 49) hx hb dX7_isNameAt_23 (by decide) (fun h9 => ?_) (fun h9 => ?_)
      · have z10 : pb.toInt ≤ ka.toInt := le_z rfl rfl h9
        refine lv_iconst (v := 1) hx hb dX7_isNameAt_49 (by decide) ?_
        exact W.zret (v := 1) hx hb hr rfl (fun t ht9 hW => ⟨⟨1, v, rfl, ⟨rfl, ⟨z373, zt, r3, ex1, (Or.inr (⟨z6, z8, ka, exL20, f1L20, (Or.inl ⟨z10, rfl⟩)⟩))⟩, ⟨Or.inr rfl, (by decide)⟩⟩, by rw [ht9]; exact hP, hD⟩, hS.F ht9⟩) hS.2.2 dX7_isNameAt_50
      · have z11 : ka.toInt < pb.toInt := nle_z rfl rfl h9
        refine lv_aload_n hx hb dX7_isNameAt_26 rfl (lv_at hl 1 rfl) ?_
        refine lv_iload_n hx hb dX7_isNameAt_27 rfl (lv_at hl 2 rfl) ?_
        refine lv_iload hx hb dX7_isNameAt_28 (lv_at hl 0 rfl) ?_
        refine lv_iadd hx hb dX7_isNameAt_30 ?_
        refine cu_i (rn_Vk (n := 1) (As := [.int (pa + ka)]) (rest := []) hx hb hml hown ht hKK hFx hP hD hS hA (c_x_X7_byteAt l dC dI cI cB cZ cJ cR tb H.size ad pr N L1 L2 v (pa + ka) (show 0 ≤ (v.1 0 373).toInt ∧ (v.1 0 373).toInt ≤ 4000 from (om_c74a68af25 z373))) tw_392 tw_393 (by decide +kernel) rfl rfl ⟨Nat.le_of_ble_eq_true rfl, Nat.le_of_ble_eq_true rfl⟩ (List.range (cW ad pr N cI cR L1 L2 v).length) (rg_map _) (nd_range _) 8 rfl rfl rfl rfl hl.1 rfl (Nat.le_of_ble_eq_true rfl) dX7_isNameAt_31 ⟨Nat.le_of_ble_eq_true rfl, Nat.le_of_ble_eq_true rfl⟩) hP hD hS hA (fun r14 u13 H locs hw12 hP hD hS => ?_)
        obtain ⟨rfl, ex12⟩ := hw12
        refine W.widen (k := 0) (n := 0) (Nat.le_refl _) (Nat.le_refl _) ?_
        refine lv_aload_n hx hb dX7_isNameAt_34 rfl (lv_at hl 3 rfl) ?_
        refine lv_iload hx hb dX7_isNameAt_35 (lv_at hl 0 rfl) ?_
        refine va_iald (D := (dC, dI)) (f := (v.1 299)) hx hb hK hP 9 0 rfl rfl (in_y (a := ka.toInt) (b := 4000) rfl (om_e4afbc3aeb f1L20) (om_22bbccc3ef zt z11) rfl) dX7_isNameAt_37 ?_
        refine lv_icmp_eq (tgt := 43) hx hb dX7_isNameAt_38 (by decide) (fun h15 => ?_) (fun h15 => ?_)
        · have z16 : r14.toInt = ((v.1 299) ka.toNatClampNeg).toInt := eq_z rfl rfl h15
          refine lv_iinc (v := (ka + (1 : Int32))) (lv' := [(4, .int (ka + (1 : Int32))), (0, .ref (ad 908)), (1, .int pa), (2, .ref (ad 299)), (3, .int pb)]) hx hb dX7_isNameAt_43 hl (k := 0) rfl (rfl) (by decide) rfl (fun ls hl => ?_)
          have z17 : (ka + (1 : Int32)).toInt = ka.toInt + 1 := inc_lt z11
          refine lv_goto (tgt := 20) hx hb dX7_isNameAt_46 (by decide) ?_
          exact ih20 (ka + (1 : Int32)) _ _ _ (show (pb.toInt - (ka + (1 : Int32)).toInt).toNat < (pb.toInt - ka.toInt).toNat from tn_z (om_7310d536e1 z17) (om_fe525f7549 z11)) ⟨(show 0 ≤ (ka + (1 : Int32)).toInt from (om_db977a0953 f1L20 z17)), (RT.st exL20 ⟨f1L20, z11, r14, ex12, z16, rfl⟩), hP, hD, hS, lv_sub hl [0, 1, 2, 3, 4] rfl⟩
        · have z18 : r14.toInt ≠ ((v.1 299) ka.toNatClampNeg).toInt := ne_z rfl rfl h15
          refine lv_iconst (v := 0) hx hb dX7_isNameAt_41 (by decide) ?_
          exact W.zret (v := 0) hx hb hr rfl (fun t ht9 hW => ⟨⟨0, v, rfl, ⟨rfl, ⟨z373, zt, r3, ex1, (Or.inr (⟨z6, z8, ka, exL20, f1L20, (Or.inr (⟨z11, r14, ex12, z18, rfl⟩))⟩))⟩, ⟨Or.inl rfl, (by decide)⟩⟩, by rw [ht9]; exact hP, hD⟩, hS.F ht9⟩) hS.2.2 dX7_isNameAt_42
    · have z19 : (4000 : Int) < pb.toInt := nle_z rfl (show (4000 : Int32).toInt = (4000 : Int) by decide) h7
      exact False.elim (om_cf6342c028 zt z19)
def oF_X11 (ad : Nat → Nat) (pr : Int32 → Nat) (v : MS) : List Value := [.ref (ad 299), .int (v.1 0 391), .ref (pr (v.1 0 392)), .ref (pr (v.1 0 393)), .ref (ad 903), .ref (ad 904), .int (v.1 0 396), .int (v.1 0 397), .ref (ad 905), .ref (ad 906), .ref (ad 907), .ref (ad 910)]
def pW (ad : Nat → Nat) (pr : Int32 → Nat) (N : Nat) (cI cR : ClassId) (L1 L2 : List Nat) (Z : va_W) (v : MS) : va_W := (ad 909, .inr (14, oF_X11 ad pr v)) :: (cW ad pr N cI cR L1 L2 v ++ Z)
theorem pw_391 (ad : Nat → Nat) (pr : Int32 → Nat) (N : Nat) (cI cR : ClassId) (L1 L2 : List Nat) (Z : va_W) (v : MS) (x : Int32) : (pW ad pr N cI cR L1 L2 Z v).set 0 (ad 909, .inr (14, (oF_X11 ad pr v).set 1 (.int x))) = pW ad pr N cI cR L1 L2 Z (wA v 0 391 x) := by
  unfold pW cW
  rw [rowE (by decide), rowE (by decide)]
  rfl
theorem pw_392 (ad : Nat → Nat) (pr : Int32 → Nat) (N : Nat) (cI cR : ClassId) (L1 L2 : List Nat) (Z : va_W) (v : MS) (x : Int32) : (pW ad pr N cI cR L1 L2 Z v).set 0 (ad 909, .inr (14, (oF_X11 ad pr v).set 2 (.ref (pr x)))) = pW ad pr N cI cR L1 L2 Z (wA v 0 392 x) := by
  unfold pW cW
  rw [rowE (by decide), rowE (by decide)]
  rfl
theorem pw_393 (ad : Nat → Nat) (pr : Int32 → Nat) (N : Nat) (cI cR : ClassId) (L1 L2 : List Nat) (Z : va_W) (v : MS) (x : Int32) : (pW ad pr N cI cR L1 L2 Z v).set 0 (ad 909, .inr (14, (oF_X11 ad pr v).set 3 (.ref (pr x)))) = pW ad pr N cI cR L1 L2 Z (wA v 0 393 x) := by
  unfold pW cW
  rw [rowE (by decide), rowE (by decide)]
  rfl
theorem pw_396 (ad : Nat → Nat) (pr : Int32 → Nat) (N : Nat) (cI cR : ClassId) (L1 L2 : List Nat) (Z : va_W) (v : MS) (x : Int32) : (pW ad pr N cI cR L1 L2 Z v).set 0 (ad 909, .inr (14, (oF_X11 ad pr v).set 6 (.int x))) = pW ad pr N cI cR L1 L2 Z (wA v 0 396 x) := by
  unfold pW cW
  rw [rowE (by decide), rowE (by decide)]
  rfl
theorem pw_397 (ad : Nat → Nat) (pr : Int32 → Nat) (N : Nat) (cI cR : ClassId) (L1 L2 : List Nat) (Z : va_W) (v : MS) (x : Int32) : (pW ad pr N cI cR L1 L2 Z v).set 0 (ad 909, .inr (14, (oF_X11 ad pr v).set 7 (.int x))) = pW ad pr N cI cR L1 L2 Z (wA v 0 397 x) := by
  unfold pW cW
  rw [rowE (by decide), rowE (by decide)]
  rfl
theorem pq_299 (ad : Nat → Nat) (pr : Int32 → Nat) (N : Nat) (cI cR : ClassId) (L1 L2 : List Nat) (Z : va_W) (v : MS) (i : Nat) (x : Int32) : (pW ad pr N cI cR L1 L2 Z v).set 10 (ad 299, .inl (cI, 4000, .inl (upd (v.1 299) i x))) = pW ad pr N cI cR L1 L2 Z (wA v 299 i x) := by
  unfold pW cW
  rw [rowE (by decide), rowE (by decide)]
  rfl
theorem pW_up {ad : Nat → Nat} {pr : Int32 → Nat} {N : Nat} {cI cR : ClassId} {L1 L2 : List Nat} {Z : va_W} {fl al : List Nat} {v u : MS} (h : FC fl al v u) (hk : ∀ k ∈ [391, 392, 393, 396, 397], k ∉ fl) : (ad 909, .inr (14, oF_X11 ad pr v)) :: (cW ad pr N cI cR L1 L2 u ++ Z) = pW ad pr N cI cR L1 L2 Z u := by
  unfold pW oF_X11
  rw [h.2.1 391 (hk _ (by decide)), h.2.1 392 (hk _ (by decide)), h.2.1 393 (hk _ (by decide)), h.2.1 396 (hk _ (by decide)), h.2.1 397 (hk _ (by decide))]
