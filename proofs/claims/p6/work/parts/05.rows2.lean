section CLY
variable {p : Program} {l : Launch} {e : Env} {R : Room} {s : State} {m : MethodId} {args : Array Value} {below : List Frame} {meth : Method} {c : Code} {H H0 : Heap} {locs : List Loc} {cells slots : Nat} {Q : State → Prop}
variable {cc bytes : ByteArray} {pc nL maxL mc ms n index ci b : Nat} {ls : Array Slot} {rest st0 As fs : List Value} {D : va_G} {A : Nat → Prop} {tys : List (ClassId × FieldType)} {ws Wc wr : va_W} {own C : String} {y : MethodName} {ret : Option FieldType} {rm : Room} {q : vw_C} {isC isR : List Nat} {S : Type} {tb : Nat → Nat}
/-- several roads that meet at one place -/
theorem jn_ {P : Array Slot → Prop} (pc2 : Nat) (st2 : List Value) (k : ∀ ls, P ls → W p l e R s m args below meth c H locs cells slots Q (F0 m pc2 ls st2)) {g : JFrame} (f : (∀ ls, P ls → W p l e R s m args below meth c H locs cells slots Q (F0 m pc2 ls st2)) → W p l e R s m args below meth c H locs cells slots Q g) : W p l e R s m args below meth c H locs cells slots Q g := f k
/-- a private constructor of a nest mate -/
theorem rn_IN {Qc : Array Value → State → Outcome → State → Prop} (hx : p.tables.exec = Jvm.exec) (hb : c.code = cc) (hml : c.maxLocals = nL) (hown : s.vm.findClass own = some m.cls) (ht : ∀ w ∈ tw_W, w.before args s = true) (hK : kk_ D tys tb s) (hF : fx_ tb A s s.heap) (hP : va_P D vwCl ws H) (hD : va_D A ws) (hS : va_S A s.heap H locs) (hA : ∀ q, s.heap.size ≤ q → A q)
    (hM : Met l y (Cond.code y bytes maxL none :: tw_W) rm (pc_ D tys tb Wc H.size (.ref b :: As)) Qc mc ms (va_A Wc H.size)) (hcw : Cond.code y bytes maxL none ∈ tw_W) (hini : Cond.initialized y.cls ∈ tw_W) (kx : Nat) (hlk : nwM[kx]? = some (own, index, y)) (hin : Cond.instanceMethod y ∈ tw_W) (hy : y.name = "<init>")
    (hd : y.cls ≠ "java/lang/invoke/MethodHandle" ∧ y.cls ≠ "java/lang/invoke/VarHandle" ∧ (parseMethodDescriptor y.desc).map (fun d => d.parameters.length) = some n) (hrc : rm.cells = mc) (hrs : rm.slots = ms) (hR : rm.frames + 1 ≤ R.frames ∧ 8 + (maxL + 11) + rm.locals ≤ R.locals)
    (isC : List Nat) (hC : isC.map (fun i => ws[i]?) = Wc.map some) (hnC : va_nd isC = true)
    (hnA : As.length = n) (hls : ls.size = nL) (hst : st0 = As.reverse ++ .ref b :: rest) (hW : (rest.map fun v => v.category).sum ≤ 8) (hdg : decode cc pc = .ok (.invokespecial index, 3)) (hf : cells + mc ≤ R.cells ∧ slots + ms ≤ R.slots) :
    va_Run p l e R s m args below meth c H locs cells slots mc ms (F0 m pc ls st0) rest (Qc (Value.ref b :: As).toArray) (va_A Wc H.size) :=
  va_runIN (host := "PocketCompiler") ⟨hx, hb, hml, hown, ht⟩ hM ⟨va_cnB n ht (tw_c hcw) rfl hrc hrs (hK.2.2.2.1 _ (List.mem_of_getElem? hlk)) (ht _ hini) hd hR, hy, ht _ hin⟩ ⟨pc_blind, pc_at hK hF hP hD hS hA hnC hC⟩ rfl hnA hls hst (lv_room hW) hdg hf
/-- an array of arrays of ints that nobody will look into: only its address is kept -/
theorem va_mnD {cc : ByteArray} (hexec : p.tables.exec = Jvm.exec) (hb : c.code = cc) {own : String} {index : Nat} (hown : s.vm.findClass own = some m.cls) (hclink : (Cond.classLink own index ("[" ++ (FieldType.array .int).toString)).before args s = true) (harr : (Cond.arrayClass .int).before args s = true)
    (hKK : kk_ D tys tb s) {cI : ClassId} (t0 : Nat) (ht0 : tys[t0]? = some (cI, .int)) (hP : va_P D vwCl ws H) (hD : va_D A ws) (hS : va_S A H0 H locs) (hA : ∀ q, H0.size ≤ q → A q) {n k : Int32} {N' K' : Nat} (hn : ¬ n < 0) (hk : ¬ k < 0) (hN : n.toNatClampNeg = N') (hM : k.toNatClampNeg = K')
    (hb1 : N' * 4 ≤ 536870912) (hb2 : K' * 4 ≤ 536870912) (hcells : cells + (1 + N') ≤ R.cells) (hslots : slots + (N' + N' * K') ≤ R.slots) (hdg : decode cc pc = .ok (.multianewarray index 2, 4))
    (kk : ∀ (q : Nat) (H1 : Heap), va_P D vwCl ws H1 → va_D A ws → va_S A H0 H1 locs → W p l e R s m args below meth c H1 locs (cells + 1 + N') (slots + N' + N' * K') Q (F0 m (pc + 4) ls (.ref q :: rest))) : W p l e R s m args below meth c H locs cells slots Q (F0 m pc ls (.int k :: .int n :: rest)) := by
  refine va_mna (X := ws) (L := []) (f := fun _ => .inl (cI, (0, .inl (fun _ => 0)))) (z := (K', .inl (fun _ => 0))) (cy := cI) hexec hb hown hclink hKK.2.1.1 harr ?_ hKK.1 (by rw [show va_pl [] (fun _ => (.inl (cI, (0, .inl (fun _ => 0))) : va_E)) = [] from rfl, List.append_nil]; exact hP) (by rw [show va_pl [] (fun _ => (.inl (cI, (0, .inl (fun _ => 0))) : va_E)) = [] from rfl, List.append_nil]; exact hD) hS hA hn hk hN hM hb1 hb2 (by omega) rfl rfl hcells hslots ?_ hdg (fun q r cA H1 _ _ _ hP1 hD1 hS1 => ?_)
  · exact (hKK.1.2 t0 _ ht0).2
  · intro c
    exact (arrV_new c K' _)
  · have hs : ∀ (k : Nat) (x : Nat × va_E), ws[k]? = some x → ∀ (Y : va_W), (ws ++ Y)[k]? = some x := fun k x hx Y => by rw [List.getElem?_append_left (List.getElem?_eq_some_iff.mp hx).1]; exact hx
    refine kk q H1 (fun k x hx => hP1 k x ?_) hD hS1
    rw [List.append_assoc]
    exact hs k x hx _
end CLY
theorem in_c {i : Int32} {j N : Nat} (h : i = nI j) (hj : j < N) (hN : N < 2 ^ 31) : vp_in i N := by rw [h]; exact vp_in_nI hj hN
theorem lt_c {x : Int32} {j N : Nat} (h : x = nI j) (hj : j < N) (hN : N < 2 ^ 31) : x < nI N := by rw [h]; exact nI_lt hj hN
theorem le_c {x : Int32} {j N : Nat} (h : x = nI j) (hj : j ≤ N) (hN : N < 2 ^ 31) : x ≤ nI N := by rw [h]; exact nI_le hj hN
theorem nge_c {x : Int32} {j N : Nat} (h : x = nI j) (hj : j < N) (hN : N < 2 ^ 31) : ¬ nI N ≤ x := by rw [h]; exact nI_ge hj hN
theorem n4 (N : Nat) : (4 : Int32) * nI N = nI (4 * N) := pk_mul 4 N
theorem le_4 {x : Int32} {j N : Nat} (h : x = nI j) (hj : j ≤ 4 * N) (hN : 4 * N < 2 ^ 31) : x ≤ 4 * nI N := by rw [n4]; exact le_c h hj hN
/-- how many words a new object's memory has -/
def sizeW (w : Int32) : Nat := if w < 256 then 1024 else if 4096 < w then 1024 else w.toNatClampNeg
theorem szB {w : Int32} (h : w < 256) : sizeW w = 1024 := if_pos h
theorem szC {w : Int32} (h : ¬ w < 256) (h2 : 4096 < w) : sizeW w = 1024 := by unfold sizeW; rw [if_neg h, if_pos h2]
theorem szA {w : Int32} (h : ¬ w < 256) (h2 : ¬ 4096 < w) : nI (sizeW w) = w := by
  unfold sizeW
  rw [if_neg h, if_neg h2]
  have h0 : ¬ w < 0 := fun q => h (by rw [Int32.lt_iff_toInt_lt] at q ⊢; have e1 : (0 : Int32).toInt = 0 := by decide
                                      have e2 : (256 : Int32).toInt = 256 := by decide
                                      omega)
  obtain ⟨j, hj, rfl⟩ := nI_of h0
  rw [nI_clamp hj]
theorem sz_lo (w : Int32) : 256 ≤ sizeW w ∧ sizeW w ≤ 4096 := by
  by_cases h : w < 256
  · rw [szB h]; omega
  · by_cases h2 : 4096 < w
    · rw [szC h h2]; omega
    · have h0 : ¬ w < 0 := fun q => h (by rw [Int32.lt_iff_toInt_lt] at q ⊢; have e1 : (0 : Int32).toInt = 0 := by decide
                                          have e2 : (256 : Int32).toInt = 256 := by decide
                                          omega)
      obtain ⟨j, hj, e⟩ := nI_of h0
      unfold sizeW
      rw [if_neg h, if_neg h2, e, nI_clamp hj]
      rw [e] at h h2
      have e2 : (256 : Int32) = nI 256 := by decide
      have e3 : (4096 : Int32) = nI 4096 := by decide
      rw [e2, nI_ltI hj (by omega)] at h
      rw [e3, nI_ltI (by omega) hj] at h2
      omega
section CLZ
variable {p : Program} {l : Launch} {e : Env} {R : Room} {s : State} {m : MethodId} {args : Array Value} {below : List Frame} {meth : Method} {c : Code} {H H0 : Heap} {locs : List Loc} {cells slots : Nat} {Q : State → Prop}
variable {cc : ByteArray} {pc : Nat} {ls : Array Slot} {rest : List Value} {D : va_G} {A : Nat → Prop} {tys : List (ClassId × FieldType)} {ws : va_W}
/-- a loop that counts up -/
theorem lp_ {P : Nat → Heap → List Loc → Array Slot → Prop} (pc2 n : Nat) (hs : ∀ i H locs ls, i < n → P i H locs ls → (∀ H' locs' ls', P (i + 1) H' locs' ls' → W p l e R s m args below meth c H' locs' cells slots Q (F0 m pc2 ls' [])) → W p l e R s m args below meth c H locs cells slots Q (F0 m pc2 ls [])) (hx : ∀ H locs ls, P n H locs ls → W p l e R s m args below meth c H locs cells slots Q (F0 m pc2 ls [])) : ∀ i H locs ls, i ≤ n → P i H locs ls → W p l e R s m args below meth c H locs cells slots Q (F0 m pc2 ls []) := by
  intro i
  generalize hk : n - i = k
  induction k generalizing i with
  | zero =>
    intro H locs ls hi hp
    have e : i = n := by omega
    subst e
    exact hx H locs ls hp
  | succ k ih =>
    intro H locs ls hi hp
    exact hs i H locs ls (by omega) hp (fun H' locs' ls' hp' => ih (i + 1) (by omega) H' locs' ls' (by omega) hp')
/-- a new array that nobody will look into: only its address is kept -/
theorem va_newD (hexec : p.tables.exec = Jvm.exec) (hb : c.code = cc) {atype : ArrayType} (harr : (Cond.arrayClass (newarray.typeOf atype)).before args s = true) {ty : FieldType} (hty : newarray.typeOf atype = ty) (hK : va_K D vwCl tys s) (hP : va_P D vwCl ws H) (hD : va_D A ws) (hS : va_S A H0 H locs) (hA : ∀ q, H0.size ≤ q → A q)
    {n : Int32} {N' : Nat} (hn : ¬ n < 0) (hN : n.toNatClampNeg = N') (hbytes : N' * componentBytes ty ≤ 536870912) (hcells : cells + 1 ≤ R.cells) (hslots : slots + N' ≤ R.slots) (hdg : decode cc pc = .ok (.newarray atype, 2))
    (kk : ∀ (q : Nat) (H1 : Heap), va_P D vwCl ws H1 → va_S A H0 H1 locs → W p l e R s m args below meth c H1 locs (cells + 1) (slots + N') Q (F0 m (pc + 2) ls (.ref q :: rest))) : W p l e R s m args below meth c H locs cells slots Q (F0 m pc ls (.int n :: rest)) := by
  subst hty
  refine va_newaK hexec hb harr rfl hdg rfl hn hN hbytes hcells hslots rfl fun H1 cA e1 z1 o1 hAr hNm => ?_
  refine kk H.size H1 (hP.kept (fun k x hx => o1 x.1 ((hP k x hx).lt))) ⟨Nat.le_trans hS.1 (by omega), fun x h1 h2 => (o1 x (Nat.lt_of_lt_of_le h1 hS.1)).trans (hS.2.1 x h1 h2), hS.2.2⟩
end CLZ
theorem tw_SU {d : Cond} {own : String} {idx : Nat} {y : MethodName} (hd : d ∈ tw_W) (h : ∀ w ∈ ([.methodLink own idx y, .sameMethod y.cls y.cls y.name y.desc, .superclass own y.cls, .instanceMethod y, .initialized y.cls] : List Cond), w ∈ tw_W) : GoodIn tw_W (va_wsSU own idx y (d :: tw_W)) := fun w hw => (List.mem_append.mp hw).elim (fun k => tw_g w (h w k)) (fun k => tw_c hd w k)
/-- super.m(..) -/
theorem rn_SU {p : Program} {l : Launch} {e : Env} {R : Room} {s : State} {m : MethodId} {args : Array Value} {below : List Frame} {meth : Method} {c : Code} {H : Heap} {locs : List Loc} {cells slots : Nat} {cc bytes : ByteArray} {pc nL maxL mc ms n index ci b : Nat} {ls : Array Slot} {rest st0 As fs : List Value} {D : va_G} {A : Nat → Prop} {tys : List (ClassId × FieldType)} {ws Wc : va_W} {own : String} {y : MethodName} {ret : Option FieldType} {rm : Room} {q : vw_C} {tb : Nat → Nat}
    {Qc : Array Value → State → Outcome → State → Prop} (hx : p.tables.exec = Jvm.exec) (hb : c.code = cc) (hml : c.maxLocals = nL) (hown : s.vm.findClass own = some m.cls) (ht : ∀ w ∈ tw_W, w.before args s = true) (hK : kk_ D tys tb s) (hF : fx_ tb A s s.heap) (hP : va_P D vwCl ws H) (hD : va_D A ws) (hS : va_S A s.heap H locs) (hA : ∀ q, s.heap.size ≤ q → A q)
    (hM : Met l y (Cond.code y bytes maxL ret :: tw_W) rm (pc_ D tys tb Wc H.size (.ref b :: As)) Qc mc ms (va_A Wc H.size)) (hcw : Cond.code y bytes maxL ret ∈ tw_W) (hws : ∀ w ∈ ([.methodLink own index y, .sameMethod y.cls y.cls y.name y.desc, .superclass own y.cls, .instanceMethod y, .initialized y.cls] : List Cond), w ∈ tw_W)
    (hd : y.name ≠ "<init>" ∧ (parseMethodDescriptor y.desc).map (fun d => d.parameters.length) = some n) (hrc : rm.cells = mc) (hrs : rm.slots = ms) (hR : rm.frames + 1 ≤ R.frames ∧ 8 + (maxL + 11) + rm.locals ≤ R.locals)
    (isC : List Nat) (hC : isC.map (fun i => ws[i]?) = Wc.map some) (hnC : va_nd isC = true) (hrecv : Wc[0]? = some (b, .inr (ci, fs))) (hc : vwCl[ci]? = some q)
    (hnA : As.length = n) (hls : ls.size = nL) (hst : st0 = As.reverse ++ .ref b :: rest) (hW : (rest.map fun v => v.category).sum ≤ 8) (hdg : decode cc pc = .ok (.invokespecial index, 3)) (hf : cells + mc ≤ R.cells ∧ slots + ms ≤ R.slots) :
    va_Run p l e R s m args below meth c H locs cells slots mc ms (F0 m pc ls st0) rest (Qc (Value.ref b :: As).toArray) (va_A Wc H.size) :=
  va_runSU (C := q.1) (hK.1.1 ci q hc).2 ⟨hx, hb, hml, hown, ht⟩ hM (va_cwSU n ht (tw_SU hcw hws) rfl hrc hrs hd hR) ⟨pc_blind, va_recv hK.1 (hP.sub isC (is_fm hC)) hc hrecv, pc_at hK hF hP hD hS hA hnC hC⟩ rfl hnA hls hst (lv_room hW) hdg hf
