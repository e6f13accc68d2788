/-! texts: string constants, answers that are references, loops whose cells grow -/
section SRW
variable {p : Program} {l : Launch} {e : Env} {R : Room} {s : State} {m : MethodId} {args : Array Value} {below : List Frame} {meth : Method} {c : Code} {H H0 : Heap} {locs : List Loc} {cells slots : Nat} {Q : State → Prop}
variable {cc bytes : ByteArray} {pc nL maxL mc ms n index ci b : Nat} {ls : Array Slot} {rest st0 As fs : List Value} {D : va_G} {A : Nat → Prop} {tys : List (ClassId × FieldType)} {ws Wc wr : va_W} {own C : String} {y : MethodName} {ret : Option FieldType} {rm : Room} {q : vw_C} {isC isR : List Nat} {S : Type} {tb : Nat → Nat}
def qr_ {S : Type} (D : va_G) (W : va_W) (sz : Nat) (post : S → Prop) (ra : S → Nat) (Wf : S → va_W) : Array Value → State → Outcome → State → Prop := va_Qr post (fun u a t => a = ra u ∧ va_P D vwCl (Wf u) t.heap ∧ va_D (va_A W sz) (Wf u)) (va_A W sz)
def qq_ {S : Type} (D : va_G) (W : va_W) (sz : Nat) (post : Option Nat → S → Prop) (Wf : S → va_W) : Array Value → State → Outcome → State → Prop := va_Qq post (fun u t => va_P D vwCl (Wf u) t.heap ∧ va_D (va_A W sz) (Wf u)) (va_A W sz)
theorem ca_r {post : S → Prop} {ra : S → Nat} {Wf : S → va_W} {a : Array Value} (hr : va_Run p l e R s m args below meth c H locs cells slots mc ms (F0 m pc ls st0) rest (qr_ D Wc H.size post ra Wf a) (va_A Wc H.size)) (hP : va_P D vwCl ws H) (hD : va_D A ws) (hS : va_S A H0 H locs) (hA : ∀ q, H0.size ≤ q → A q)
    (hC : isC.map (fun i => ws[i]?) = Wc.map some) (hR : isR.map (fun i => ws[i]?) = wr.map some) (hn : va_nd isR = true) (hdis : ∀ i ∈ isR, i ∉ isC)
    (kk : ∀ (u : S) (H1 : Heap) (locs1 : List Loc), post u → va_P D vwCl (wr ++ Wf u) H1 → va_D A (wr ++ Wf u) → va_S A H0 H1 locs1 → W p l e R s m args below meth c H1 locs1 (cells + mc) (slots + ms) Q (F0 m (pc + 3) ls (.ref (ra u) :: rest))) : W p l e R s m args below meth c H locs cells slots Q (F0 m pc ls st0) := by
  have hF := va_free hD hS hA isC hC
  refine va_callr hr hS (fun q _ h => hF q h) hF (fun u r t H1 locs1 ht hvm hw hB hz hk hS1 => ?_)
  obtain ⟨rfl, hP1, hD1⟩ := hB
  rw [ht] at hP1
  obtain ⟨hP2, hD2⟩ := va_join (wr := wr) (w1 := Wf u) hP hD isC isR hC hR hn hdis hk hF hP1 hD1
  exact kk u H1 locs1 hw hP2 hD2 hS1
theorem ca_q {post : Option Nat → S → Prop} {Wf : S → va_W} {a : Array Value} (hr : va_Run p l e R s m args below meth c H locs cells slots mc ms (F0 m pc ls st0) rest (qq_ D Wc H.size post Wf a) (va_A Wc H.size)) (hP : va_P D vwCl ws H) (hD : va_D A ws) (hS : va_S A H0 H locs) (hA : ∀ q, H0.size ≤ q → A q)
    (hC : isC.map (fun i => ws[i]?) = Wc.map some) (hR : isR.map (fun i => ws[i]?) = wr.map some) (hn : va_nd isR = true) (hdis : ∀ i ∈ isR, i ∉ isC)
    (kk : ∀ (r : Option Nat) (u : S) (H1 : Heap) (locs1 : List Loc), post r u → va_P D vwCl (wr ++ Wf u) H1 → va_D A (wr ++ Wf u) → va_S A H0 H1 locs1 → W p l e R s m args below meth c H1 locs1 (cells + mc) (slots + ms) Q (F0 m (pc + 3) ls (va_rf r :: rest))) : W p l e R s m args below meth c H locs cells slots Q (F0 m pc ls st0) := by
  have hF := va_free hD hS hA isC hC
  refine va_callq hr hS (fun q _ h => hF q h) hF (fun r u t H1 locs1 ht hvm hw hB hz hk hS1 => ?_)
  obtain ⟨hP1, hD1⟩ := hB
  rw [ht] at hP1
  obtain ⟨hP2, hD2⟩ := va_join (wr := wr) (w1 := Wf u) hP hD isC isR hC hR hn hdis hk hF hP1 hD1
  exact kk r u H1 locs1 hw hP2 hD2 hS1
/-- a method of a string constant -/
theorem rn_VS {Qc : Array Value → State → Outcome → State → Prop} (hx : p.tables.exec = Jvm.exec) (hb : c.code = cc) (hml : c.maxLocals = nL) (hown : s.vm.findClass own = some m.cls) (ht : ∀ w ∈ tw_W, w.before args s = true) (hK : kk_ D tys tb s) (hF : fx_ tb A s s.heap) (hP : va_P D vwCl ws H) (hD : va_D A ws) (hS : va_S A s.heap H locs) (hA : ∀ q, s.heap.size ≤ q → A q)
    {i : Nat} (hi : i < 66) (hM : Met l y (Cond.code y bytes maxL ret :: tw_W) rm (pc_ D tys tb Wc H.size (.ref (tb (100 + i)) :: As)) Qc mc ms (va_A Wc H.size)) (hcw : Cond.code y bytes maxL ret ∈ tw_W) (hws : ∀ w ∈ ([.methodLink own index y, .instanceMethod y, .selects "java/lang/String" y y, .initialized "java/lang/String"] : List Cond), w ∈ tw_W)
    (hd : y.cls = "java/lang/String" ∧ y.cls ≠ "java/lang/invoke/MethodHandle" ∧ y.cls ≠ "java/lang/invoke/VarHandle" ∧ (parseMethodDescriptor y.desc).map (fun d => d.parameters.length) = some n) (hrc : rm.cells = mc) (hrs : rm.slots = ms) (hR : rm.frames + 1 ≤ R.frames ∧ 8 + (maxL + 11) + rm.locals ≤ R.locals)
    (isC : List Nat) (hC : isC.map (fun i => ws[i]?) = Wc.map some) (hnC : va_nd isC = true)
    (hnA : As.length = n) (hls : ls.size = nL) (hst : st0 = As.reverse ++ .ref (tb (100 + i)) :: rest) (hW : (rest.map fun v => v.category).sum ≤ 8) (hdg : decode cc pc = .ok (.invokevirtual index, 3)) (hf : cells + mc ≤ R.cells ∧ slots + ms ≤ R.slots) :
    va_Run p l e R s m args below meth c H locs cells slots mc ms (F0 m pc ls st0) rest (Qc (Value.ref (tb (100 + i)) :: As).toArray) (va_A Wc H.size) :=
  va_runV ⟨hx, hb, hml, hown, ht⟩ hM (cwV n ht (tw_V hcw hws) rfl hrc hrs hd hR) ⟨pc_blind, vk_recv (adK := fun i => tb (100 + i)) (i := i) hF.2.2.2.2.2.2 hi hS, pc_at hK hF hP hD hS hA hnC hC⟩ rfl hnA hls hst (lv_room hW) hdg hf
theorem tw_U5 {d : Cond} {own C : String} {idx : Nat} {y : MethodName} (hd : d ∈ tw_W) (h1 : Cond.methodLink own idx y ∈ tw_W) (h2 : Cond.sameMethod y.cls y.cls y.name y.desc ∈ tw_W) (h3 : Cond.selects C y y ∈ tw_W) (h4 : Cond.instanceMethod y ∈ tw_W) (h5 : Cond.initialized y.cls ∈ tw_W) : GoodIn tw_W (va_wsU own idx C y.cls y y (d :: tw_W)) := fun w hw => (List.mem_append.mp hw).elim (fun k => by
  simp only [List.mem_cons, List.not_mem_nil, or_false] at k
  rcases k with rfl | rfl | rfl | rfl | rfl
  · exact tw_g _ h1
  · exact tw_g _ h2
  · exact tw_g _ h3
  · exact tw_g _ h4
  · exact tw_g _ h5) (fun k => tw_c hd w k)
/-- a method that the receiver's class inherits -/
theorem rn_V5 {Qc : Array Value → State → Outcome → State → Prop} (hx : p.tables.exec = Jvm.exec) (hb : c.code = cc) (hml : c.maxLocals = nL) (hown : s.vm.findClass own = some m.cls) (ht : ∀ w ∈ tw_W, w.before args s = true) (hK : kk_ D tys tb s) (hF : fx_ tb A s s.heap) (hP : va_P D vwCl ws H) (hD : va_D A ws) (hS : va_S A s.heap H locs) (hA : ∀ q, s.heap.size ≤ q → A q)
    (hM : Met l y (Cond.code y bytes maxL ret :: tw_W) rm (pc_ D tys tb Wc H.size (.ref b :: As)) Qc mc ms (va_A Wc H.size)) (hcw : Cond.code y bytes maxL ret ∈ tw_W) (h1 : Cond.methodLink own index y ∈ tw_W) (h2 : Cond.sameMethod y.cls y.cls y.name y.desc ∈ tw_W) (h3 : Cond.selects C y y ∈ tw_W) (h4 : Cond.instanceMethod y ∈ tw_W) (h5 : Cond.initialized y.cls ∈ tw_W)
    (hd : y.cls ≠ "java/lang/invoke/MethodHandle" ∧ y.cls ≠ "java/lang/invoke/VarHandle" ∧ (parseMethodDescriptor y.desc).map (fun d => d.parameters.length) = some n) (hrc : rm.cells = mc) (hrs : rm.slots = ms) (hR : rm.frames + 1 ≤ R.frames ∧ 8 + (maxL + 11) + rm.locals ≤ R.locals)
    (isC : List Nat) (hC : isC.map (fun i => ws[i]?) = Wc.map some) (hnC : va_nd isC = true) (hrecv : Wc[0]? = some (b, .inr (ci, fs))) (hc : vwCl[ci]? = some q) (hq : q.1 = C)
    (hnA : As.length = n) (hls : ls.size = nL) (hst : st0 = As.reverse ++ .ref b :: rest) (hW : (rest.map fun v => v.category).sum ≤ 8) (hdg : decode cc pc = .ok (.invokevirtual index, 3)) (hf : cells + mc ≤ R.cells ∧ slots + ms ≤ R.slots) :
    va_Run p l e R s m args below meth c H locs cells slots mc ms (F0 m pc ls st0) rest (Qc (Value.ref b :: As).toArray) (va_A Wc H.size) := by
  subst hq
  exact va_runU ⟨hx, hb, hml, hown, ht⟩ hM (va_cwU n ht (tw_U5 hcw h1 h2 h3 h4 h5) rfl hrc hrs rfl hd hR) ⟨pc_blind, va_recv hK.1 (hP.sub isC (is_fm hC)) hc hrecv, pc_at hK hF hP hD hS hA hnC hC⟩ rfl hnA hls hst (lv_room hW) hdg hf
theorem va_ldcSW (hexec : p.tables.exec = Jvm.exec) (hb : c.code = cc) {own tx : String} {index q : Nat} (hown : s.vm.findClass own = some m.cls) (hZ : vk_R own index tx q s) (hdg : decode cc pc = .ok (.ldc_w index, 3))
    (k : W p l e R s m args below meth c H locs cells slots Q (F0 m (pc + 3) ls (.ref q :: rest))) : W p l e R s m args below meth c H locs cells slots Q (F0 m pc ls rest) := by
  intro T hT X
  obtain ⟨t, a1, b1⟩ := k T hT X
  exact ⟨t, X.ldcStringW hexec hown (text := tx) (a := q) hZ.1 hZ.2 (g := F0 m pc ls rest) rfl (by rw [hb]; exact hdg) t a1, b1⟩
/-- a loop: a number falls -/
theorem lpw_ {P : Nat → Heap → List Loc → Array Slot → Prop} (pc2 : Nat) (hs : ∀ d H locs ls, P d H locs ls → (∀ d' H' locs' ls', d' < d → P d' H' locs' ls' → W p l e R s m args below meth c H' locs' cells slots Q (F0 m pc2 ls' [])) → W p l e R s m args below meth c H locs cells slots Q (F0 m pc2 ls [])) : ∀ d H locs ls, P d H locs ls → W p l e R s m args below meth c H locs cells slots Q (F0 m pc2 ls []) := by
  intro d
  induction d using Nat.strongRecOn with
  | ind d ih => exact fun H locs ls hp => hs d H locs ls hp (fun d' H' locs' ls' hl hp' => ih d' hl H' locs' ls' hp')
/-- a loop that counts up and makes cells -/
theorem lpc_ {P : Nat → Heap → List Loc → Array Slot → Prop} (pc2 n c0 s0 dc ds : Nat) (hs : ∀ i H locs ls, i < n → P i H locs ls → (∀ H' locs' ls', P (i + 1) H' locs' ls' → W p l e R s m args below meth c H' locs' (c0 + (i + 1) * dc) (s0 + (i + 1) * ds) Q (F0 m pc2 ls' [])) → W p l e R s m args below meth c H locs (c0 + i * dc) (s0 + i * ds) Q (F0 m pc2 ls []))
    (hx : ∀ H locs ls, P n H locs ls → W p l e R s m args below meth c H locs (c0 + n * dc) (s0 + n * ds) Q (F0 m pc2 ls [])) : ∀ i H locs ls, i ≤ n → P i H locs ls → W p l e R s m args below meth c H locs (c0 + i * dc) (s0 + i * ds) Q (F0 m pc2 ls []) := by
  intro i
  generalize hk : n - i = k
  induction k generalizing i with
  | zero =>
    intro H locs ls hi hp
    have e : i = n := by omega
    subst e
    exact hx H locs ls hp
  | succ k ih =>
    intro H locs ls hi hp
    exact hs i H locs ls (by omega) hp (fun H' locs' ls' hp' => ih (i + 1) (by omega) H' locs' ls' (by omega) hp')
end SRW
/-! numbers in digits -/
def dgN (m : Nat) : Nat := if m < 10 then 1 else if m < 100 then 2 else if m < 1000 then 3 else if m < 10000 then 4 else if m < 100000 then 5 else if m < 1000000 then 6 else if m < 10000000 then 7 else if m < 100000000 then 8 else if m < 1000000000 then 9 else 10
/-- how many bytes a number has in digits, with its sign -/
def dl (x : Int32) : Nat := if x < 0 then dgN (-x.toInt).toNat + 1 else dgN x.toInt.toNat
theorem dgN_le (m : Nat) : 1 ≤ dgN m ∧ dgN m ≤ 10 := by
  unfold dgN
  repeat' split
  all_goals omega
theorem dl_le (x : Int32) : 1 ≤ dl x ∧ dl x ≤ 11 := by
  unfold dl
  have h1 := dgN_le (-x.toInt).toNat
  have h2 := dgN_le x.toInt.toNat
  split <;> omega
theorem dgN_100 {m : Nat} (h : 100 ≤ m) (h2 : m ≤ 2147483648) : dgN m = dgN (m / 100) + 2 := by
  unfold dgN
  repeat' split
  all_goals omega
theorem dl_31 (x : Int32) : dl (x &&& 31) ≤ 2 := by
  obtain ⟨j, hj, e⟩ := pk_andE x (m := 31) 5 (by decide)
  rw [e]
  have h0 : ¬ nI j < 0 := nI_pos (by omega)
  unfold dl
  rw [if_neg h0, nI_toInt (by omega)]
  unfold dgN
  repeat' split
  all_goals omega
/-- a number that isn't above 0, by how far it lies below -/
def nN (m : Nat) : Int32 := Int32.ofInt (-(m : Int))
theorem nN_toInt {m : Nat} (h : m ≤ 2147483648) : (nN m).toInt = -(m : Int) := by
  unfold nN
  rw [Int32.toInt_ofInt]
  exact Int.bmod_eq_of_le (by first | omega | (simp; omega) | simp) (by first | omega | (simp; omega) | simp)
theorem nN_of {x : Int32} (h : x < 0) : x = nN (-x.toInt).toNat ∧ (-x.toInt).toNat ≤ 2147483648 ∧ 0 < (-x.toInt).toNat := by
  have h1 := Int32.le_toInt x
  have e0 : (0 : Int32).toInt = 0 := by decide
  rw [Int32.lt_iff_toInt_lt, e0] at h
  have h1' : -2147483648 ≤ x.toInt := by simpa using h1
  refine ⟨Int32.toInt_inj.mp ?_, by omega, by omega⟩
  rw [nN_toInt (by omega)]
  omega
theorem nN_neg {x : Int32} (h : ¬ x < 0) : -x = nN x.toInt.toNat ∧ x.toInt.toNat < 2147483648 := by
  obtain ⟨j, hj, rfl⟩ := nI_of h
  rw [nI_toInt hj]
  refine ⟨Int32.toInt_inj.mp ?_, by omega⟩
  rw [nN_toInt (by omega), Int32.toInt_neg, nI_toInt hj]
  rw [show ((j : Int).toNat) = j by omega]
  exact Int.bmod_eq_of_le (by first | omega | (simp; omega) | simp) (by first | omega | (simp; omega) | simp)
theorem nN_div {m : Nat} (h : m ≤ 2147483648) : nN m / 100 = nN (m / 100) := by
  apply Int32.toInt_inj.mp
  have e : (100 : Int32).toInt = 100 := by decide
  rw [Int32.toInt_div, nN_toInt h, nN_toInt (by omega), e, Int.neg_tdiv, Int.ofNat_tdiv]
  exact Int.bmod_eq_of_le (by first | omega | (simp; omega) | simp) (by first | omega | (simp; omega) | simp)
theorem nN_rem {m : Nat} (h : m ≤ 2147483648) : nN (m / 100) * 100 - nN m = nI (m % 100) := by
  apply Int32.toInt_inj.mp
  have e : (100 : Int32).toInt = 100 := by decide
  rw [Int32.toInt_sub, Int32.toInt_mul, nN_toInt h, nN_toInt (by omega), e, nI_toInt (by omega)]
  have e1 : (-((m / 100 : Nat) : Int) * 100).bmod (2 ^ 32) = -((m / 100 : Nat) : Int) * 100 := Int.bmod_eq_of_le (by first | omega | (simp; omega) | simp) (by first | omega | (simp; omega) | simp)
  rw [e1]
  exact (Int.bmod_eq_of_le (by first | omega | (simp; omega) | simp) (by first | omega | (simp; omega) | simp)).trans (by omega)
theorem nN_negI {m : Nat} (h : m < 2147483648) : -(nN m) = nI m := by
  apply Int32.toInt_inj.mp
  rw [Int32.toInt_neg, nN_toInt (by omega), nI_toInt h]
  rw [Int.neg_neg]
  exact Int.bmod_eq_of_le (by first | omega | (simp; omega) | simp) (by first | omega | (simp; omega) | simp)
theorem nN_lt {m : Nat} {k : Nat} {y : Int32} (hy : y = nN k) (h : m ≤ 2147483648) (hk : k ≤ 2147483648) : y < nN m ↔ m < k := by
  rw [hy, Int32.lt_iff_toInt_lt, nN_toInt h, nN_toInt hk]
  omega
theorem nN_ge {m : Nat} {k : Nat} {y : Int32} (hy : y = nN k) (h : m ≤ 2147483648) (hk : k ≤ 2147483648) : y ≤ nN m ↔ m ≤ k := by
  rw [hy, Int32.le_iff_toInt_le, nN_toInt h, nN_toInt hk]
  omega
theorem nN_le {m : Nat} {k : Nat} {y : Int32} (hy : y = nN k) (h : m ≤ 2147483648) (hk : k ≤ 2147483648) : nN m ≤ y ↔ k ≤ m := by
  rw [hy, Int32.le_iff_toInt_le, nN_toInt h, nN_toInt hk]
  omega
theorem sle_ {a b : Nat} (ha : a < 2 ^ 30) (hb : b < 2 ^ 30) : nI a - nI b ≤ 0 ↔ a ≤ b := by
  rw [Int32.le_iff_toInt_le, pk_sub_toInt ha hb, Int32.toInt_zero]
  omega
theorem fit_nar (x : Int32) : fits .byte (.int (vp_nar .byte x)) = true := by
  rw [vp_nar_byte]
  exact pk_fb x
/-- a string constant's letter -/
def chN (i k : Nat) : Nat := ((bytS.getD i []).getD k 0).toBitVec.toNat % 256
theorem chN_lt (i k : Nat) : chN i k < 256 := Nat.mod_lt _ (by decide)
theorem ch_eq (i k : Nat) : ((((bytS.getD i []).getD k 0) &&& 255).toUInt32 % 65536).toInt32 = nI (chN i k) := by
  rw [pk_and _ (m := 255) 8 (by decide)]
  exact (sb_byte _ (Nat.mod_lt _ (by decide))).2.1
theorem bytS_all : (bytS.all (fun L => L.all (fun x => fits .byte (.int x)))) = true := by decide +kernel
theorem bytS_fit (i : Nat) (_ : i < 66) (j : Nat) : fits .byte (.int ((bytS.getD i []).getD j 0)) = true := by
  have h0 : fits .byte (.int 0) = true := by decide
  rw [List.getD_eq_getElem?_getD (l := bytS.getD i [])]
  cases e : (bytS.getD i [])[j]? with
  | none => exact h0
  | some x =>
    have hx := List.mem_of_getElem? e
    rw [List.getD_eq_getElem?_getD] at hx
    cases e2 : bytS[i]? with
    | none => rw [e2] at hx; simp at hx
    | some L =>
      rw [e2] at hx
      exact List.all_eq_true.mp (List.all_eq_true.mp bytS_all L (List.mem_of_getElem? e2)) x hx
