/-! the class: its methods make no cell unless they throw; then one -/
def qiz_ {S : Type} (D : va_G) (W : va_W) (sz : Nat) (post : Int32 → S → Prop) (Wf : S → va_W) : Array Value → State → Outcome → State → Prop := va_Qi post (fun u t => (va_P D vwCl (Wf u) t.heap ∧ va_D (va_A W sz) (Wf u)) ∧ t.heap.size = sz) (va_A W sz)
def qvz_ {S : Type} (D : va_G) (W : va_W) (sz : Nat) (post : S → Prop) (Wf : S → va_W) : Array Value → State → Outcome → State → Prop := va_Qv post (fun u t => (va_P D vwCl (Wf u) t.heap ∧ va_D (va_A W sz) (Wf u)) ∧ t.heap.size = sz) (va_A W sz)
def qxc (D : va_G) (W0 : va_W) (sz : Nat) (Wx : MS → va_W) (px : MS → Prop) : String → State → State → Prop := vx_X px (fun E u t => E = "java/lang/IllegalStateException" ∧ va_P D vwCl (Wx u) t.heap ∧ va_D (va_A W0 sz) (Wx u)) (va_A W0 sz)
section CZB
variable {p : Program} {l : Launch} {e : Env} {R : Room} {s : State} {m : MethodId} {args : Array Value} {below : List Frame} {meth : Method} {c : Code} {H H0 : Heap} {locs : List Loc} {cells slots : Nat} {Q : State → Prop}
variable {cc bytes : ByteArray} {pc nL maxL mc ms n index ci b k0 : Nat} {ls : Array Slot} {rest st0 As fs : List Value} {D : va_G} {A : Nat → Prop} {tys : List (ClassId × FieldType)} {ws Wc : va_W} {own C : String} {y : MethodName} {ret : Option FieldType} {rm : Room} {q : vw_C} {S : Type} {tb : Nat → Nat} {isC : List Nat}
theorem W.shrink {g : JFrame} (hz : H.size = s.heap.size) (k : W p l e R s m args below meth c H locs 0 0 Q g) : W p l e R s m args below meth c H locs cells slots Q g := by
  intro T hT X
  refine k T hT ⟨X.admits, X.cas, X.clock, X.frames, X.room, X.hears, X.method, X.code, X.here, X.tail, X.warmed, X.limits, X.bytes, ?_⟩
  obtain ⟨a1, a2, a3, a4, a5, a6⟩ := X.same
  have hs : (T.setVm s.vm).heap.size = s.heap.size := by show T.heap.size = _; rw [hT]; exact hz
  have hd : (T.setVm s.vm).heap.toList.drop s.heap.size = [] := List.drop_eq_nil_of_le (by rw [Array.length_toList, hs]; exact Nat.le_refl _)
  refine ⟨a1, a2, by rw [hs]; exact Nat.le_refl _, a4, ?_, a6⟩
  rw [hd]; exact Nat.le_refl _
theorem cz_i {post : Int32 → S → Prop} {Wf : S → va_W} {a : Array Value} (hr : va_Run p l e R s m args below meth c H locs cells slots mc ms (F0 m pc ls st0) rest (qiz_ D ws H.size post Wf a) (va_A ws H.size)) (hP : va_P D vwCl ws H) (hD : va_D A ws) (hS : va_S A H0 H locs) (hA : ∀ q, H0.size ≤ q → A q)
    (kk : ∀ (r : Int32) (u : S) (H1 : Heap) (locs1 : List Loc), post r u → va_P D vwCl (Wf u) H1 → va_D A (Wf u) → va_S A H0 H1 locs1 → H1.size = H.size → W p l e R s m args below meth c H1 locs1 (cells + mc) (slots + ms) Q (F0 m (pc + 3) ls (.int r :: rest))) : W p l e R s m args below meth c H locs cells slots Q (F0 m pc ls st0) := by
  have hF := va_free hD hS hA (List.range ws.length) (rg_map ws)
  refine va_calli hr hS (fun q _ h => hF q h) hF (fun r u t H1 locs1 ht hvm hw hB hz hk hS1 => ?_)
  obtain ⟨⟨hP1, hD1⟩, hsz⟩ := hB
  rw [ht] at hP1 hsz
  obtain ⟨hP2, hD2⟩ := va_join (wr := []) (w1 := Wf u) hP hD (List.range ws.length) [] (rg_map ws) rfl rfl (fun i h => by simp at h) hk hF hP1 hD1
  exact kk r u H1 locs1 hw hP2 hD2 hS1 hsz
theorem cz_v {post : S → Prop} {Wf : S → va_W} {a : Array Value} (hr : va_Run p l e R s m args below meth c H locs cells slots mc ms (F0 m pc ls st0) rest (qvz_ D ws H.size post Wf a) (va_A ws H.size)) (hP : va_P D vwCl ws H) (hD : va_D A ws) (hS : va_S A H0 H locs) (hA : ∀ q, H0.size ≤ q → A q)
    (kk : ∀ (u : S) (H1 : Heap) (locs1 : List Loc), post u → va_P D vwCl (Wf u) H1 → va_D A (Wf u) → va_S A H0 H1 locs1 → H1.size = H.size → W p l e R s m args below meth c H1 locs1 (cells + mc) (slots + ms) Q (F0 m (pc + 3) ls rest)) : W p l e R s m args below meth c H locs cells slots Q (F0 m pc ls st0) := by
  have hF := va_free hD hS hA (List.range ws.length) (rg_map ws)
  refine va_callv hr hS (fun q _ h => hF q h) hF (fun u t H1 locs1 ht hvm hw hB hz hk hS1 => ?_)
  obtain ⟨⟨hP1, hD1⟩, hsz⟩ := hB
  rw [ht] at hP1 hsz
  obtain ⟨hP2, hD2⟩ := va_join (wr := []) (w1 := Wf u) hP hD (List.range ws.length) [] (rg_map ws) rfl rfl (fun i h => by simp at h) hk hF hP1 hD1
  exact kk u H1 locs1 hw hP2 hD2 hS1 hsz
theorem czx_i {post : Int32 → S → Prop} {Wf : S → va_W} {Wx : MS → va_W} {px : MS → Prop} {a : Array Value} (hr : vx_Run p l e R s m args below meth c H locs cells slots mc ms (F0 m pc ls st0) rest (qiz_ D ws H.size post Wf a) (qxc D ws H.size Wx px) (va_A ws H.size)) (hP : va_P D vwCl ws H) (hD : va_D A ws) (hS : va_S A H0 H locs) (hA : ∀ q, H0.size ≤ q → A q)
    (kx : ∀ (u : MS) (ce : Cell) (q9 : Addr) (H1 : Heap) (locs1 : List Loc), px u → va_P D vwCl (Wx u) H1 → va_D A (Wx u) → va_S A H0 H1 locs1 → H1[q9]? = some ce → ce.vm = .none → s.vm.findClass "java/lang/IllegalStateException" = some ce.cls → vx_W p l e R s m args below meth c H1 locs1 (cells + mc) (slots + ms) Q (F0 m pc ls rest) q9)
    (kk : ∀ (r : Int32) (u : S) (H1 : Heap) (locs1 : List Loc), post r u → va_P D vwCl (Wf u) H1 → va_D A (Wf u) → va_S A H0 H1 locs1 → H1.size = H.size → W p l e R s m args below meth c H1 locs1 (cells + mc) (slots + ms) Q (F0 m (pc + 3) ls (.int r :: rest))) : W p l e R s m args below meth c H locs cells slots Q (F0 m pc ls st0) := by
  have hF := va_free hD hS hA (List.range ws.length) (rg_map ws)
  refine vx_calli hr hS (fun q _ h => hF q h) hF (fun q _ h => hF q h) (fun E ce q9 u t H1 locs1 ht hvm hpx hB hz hk hS1 h1 h2 h3 => ?_) (fun r u t H1 locs1 ht hvm hw hB hz hk hS1 => ?_)
  · obtain ⟨rfl, hP1, hD1⟩ := hB
    rw [ht] at hP1
    obtain ⟨hP2, hD2⟩ := va_join (wr := []) (w1 := Wx u) hP hD (List.range ws.length) [] (rg_map ws) rfl rfl (fun i h => by simp at h) hk hF hP1 hD1
    exact kx u ce q9 H1 locs1 hpx hP2 hD2 hS1 h1 h2 h3
  · obtain ⟨⟨hP1, hD1⟩, hsz⟩ := hB
    rw [ht] at hP1 hsz
    obtain ⟨hP2, hD2⟩ := va_join (wr := []) (w1 := Wf u) hP hD (List.range ws.length) [] (rg_map ws) rfl rfl (fun i h => by simp at h) hk hF hP1 hD1
    exact kk r u H1 locs1 hw hP2 hD2 hS1 hsz
theorem czx_v {post : S → Prop} {Wf : S → va_W} {Wx : MS → va_W} {px : MS → Prop} {a : Array Value} (hr : vx_Run p l e R s m args below meth c H locs cells slots mc ms (F0 m pc ls st0) rest (qvz_ D ws H.size post Wf a) (qxc D ws H.size Wx px) (va_A ws H.size)) (hP : va_P D vwCl ws H) (hD : va_D A ws) (hS : va_S A H0 H locs) (hA : ∀ q, H0.size ≤ q → A q)
    (kx : ∀ (u : MS) (ce : Cell) (q9 : Addr) (H1 : Heap) (locs1 : List Loc), px u → va_P D vwCl (Wx u) H1 → va_D A (Wx u) → va_S A H0 H1 locs1 → H1[q9]? = some ce → ce.vm = .none → s.vm.findClass "java/lang/IllegalStateException" = some ce.cls → vx_W p l e R s m args below meth c H1 locs1 (cells + mc) (slots + ms) Q (F0 m pc ls rest) q9)
    (kk : ∀ (u : S) (H1 : Heap) (locs1 : List Loc), post u → va_P D vwCl (Wf u) H1 → va_D A (Wf u) → va_S A H0 H1 locs1 → H1.size = H.size → W p l e R s m args below meth c H1 locs1 (cells + mc) (slots + ms) Q (F0 m (pc + 3) ls rest)) : W p l e R s m args below meth c H locs cells slots Q (F0 m pc ls st0) := by
  have hF := va_free hD hS hA (List.range ws.length) (rg_map ws)
  refine vx_callv hr hS (fun q _ h => hF q h) hF (fun q _ h => hF q h) (fun E ce q9 u t H1 locs1 ht hvm hpx hB hz hk hS1 h1 h2 h3 => ?_) (fun u t H1 locs1 ht hvm hw hB hz hk hS1 => ?_)
  · obtain ⟨rfl, hP1, hD1⟩ := hB
    rw [ht] at hP1
    obtain ⟨hP2, hD2⟩ := va_join (wr := []) (w1 := Wx u) hP hD (List.range ws.length) [] (rg_map ws) rfl rfl (fun i h => by simp at h) hk hF hP1 hD1
    exact kx u ce q9 H1 locs1 hpx hP2 hD2 hS1 h1 h2 h3
  · obtain ⟨⟨hP1, hD1⟩, hsz⟩ := hB
    rw [ht] at hP1 hsz
    obtain ⟨hP2, hD2⟩ := va_join (wr := []) (w1 := Wf u) hP hD (List.range ws.length) [] (rg_map ws) rfl rfl (fun i h => by simp at h) hk hF hP1 hD1
    exact kk u H1 locs1 hw hP2 hD2 hS1 hsz
/-- calls whose receiver stands anywhere in the world -/
theorem rn_Vk {Qc : Array Value → State → Outcome → State → Prop} (hx : p.tables.exec = Jvm.exec) (hb : c.code = cc) (hml : c.maxLocals = nL) (hown : s.vm.findClass own = some m.cls) (ht : ∀ w ∈ tw_W, w.before args s = true) (hK : kk_ D tys tb s) (hF : fx_ tb A s s.heap) (hP : va_P D vwCl ws H) (hD : va_D A ws) (hS : va_S A s.heap H locs) (hA : ∀ q, s.heap.size ≤ q → A q)
    (hM : Met l y (Cond.code y bytes maxL ret :: tw_W) rm (pc_ D tys tb Wc H.size (.ref b :: As)) Qc mc ms (va_A Wc H.size)) (hcw : Cond.code y bytes maxL ret ∈ tw_W) (hws : ∀ w ∈ ([.methodLink own index y, .instanceMethod y, .selects C y y, .initialized C] : List Cond), w ∈ tw_W)
    (hd : y.cls = C ∧ y.cls ≠ "java/lang/invoke/MethodHandle" ∧ y.cls ≠ "java/lang/invoke/VarHandle" ∧ (parseMethodDescriptor y.desc).map (fun d => d.parameters.length) = some n) (hrc : rm.cells = mc) (hrs : rm.slots = ms) (hR : rm.frames + 1 ≤ R.frames ∧ 8 + (maxL + 11) + rm.locals ≤ R.locals)
    (isC : List Nat) (hC : isC.map (fun i => ws[i]?) = Wc.map some) (hnC : va_nd isC = true) (k0 : Nat) (hrecv : Wc[k0]? = some (b, .inr (ci, fs))) (hc : vwCl[ci]? = some q) (hq : q.1 = C)
    (hnA : As.length = n) (hls : ls.size = nL) (hst : st0 = As.reverse ++ .ref b :: rest) (hW : (rest.map fun v => v.category).sum ≤ 8) (hdg : decode cc pc = .ok (.invokevirtual index, 3)) (hf : cells + mc ≤ R.cells ∧ slots + ms ≤ R.slots) :
    va_Run p l e R s m args below meth c H locs cells slots mc ms (F0 m pc ls st0) rest (Qc (Value.ref b :: As).toArray) (va_A Wc H.size) := by
  subst hq
  exact va_runV ⟨hx, hb, hml, hown, ht⟩ hM (cwV n ht (tw_V hcw hws) rfl hrc hrs hd hR) ⟨pc_blind, va_recv hK.1 (hP.sub isC (is_fm hC)) hc hrecv, pc_at hK hF hP hD hS hA hnC hC⟩ rfl hnA hls hst (lv_room hW) hdg hf
theorem rx_Vk {Qc : Array Value → State → Outcome → State → Prop} {XC : String → State → State → Prop} (hx : p.tables.exec = Jvm.exec) (hb : c.code = cc) (hml : c.maxLocals = nL) (hown : s.vm.findClass own = some m.cls) (ht : ∀ w ∈ tw_W, w.before args s = true) (hK : kk_ D tys tb s) (hF : fx_ tb A s s.heap) (hP : va_P D vwCl ws H) (hD : va_D A ws) (hS : va_S A s.heap H locs) (hA : ∀ q, s.heap.size ≤ q → A q)
    (hM : vx_Met l y (Cond.code y bytes maxL ret :: tw_W) rm (pc_ D tys tb Wc H.size (.ref b :: As)) Qc XC mc ms (va_A Wc H.size)) (hcw : Cond.code y bytes maxL ret ∈ tw_W) (hws : ∀ w ∈ ([.methodLink own index y, .instanceMethod y, .selects C y y, .initialized C] : List Cond), w ∈ tw_W)
    (hd : y.cls = C ∧ y.cls ≠ "java/lang/invoke/MethodHandle" ∧ y.cls ≠ "java/lang/invoke/VarHandle" ∧ (parseMethodDescriptor y.desc).map (fun d => d.parameters.length) = some n) (hrc : rm.cells = mc) (hrs : rm.slots = ms) (hR : rm.frames + 1 ≤ R.frames ∧ 8 + (maxL + 11) + rm.locals ≤ R.locals)
    (isC : List Nat) (hC : isC.map (fun i => ws[i]?) = Wc.map some) (hnC : va_nd isC = true) (k0 : Nat) (hrecv : Wc[k0]? = some (b, .inr (ci, fs))) (hc : vwCl[ci]? = some q) (hq : q.1 = C)
    (hnA : As.length = n) (hls : ls.size = nL) (hst : st0 = As.reverse ++ .ref b :: rest) (hW : (rest.map fun v => v.category).sum ≤ 8) (hdg : decode cc pc = .ok (.invokevirtual index, 3)) (hf : cells + mc ≤ R.cells ∧ slots + ms ≤ R.slots) :
    vx_Run p l e R s m args below meth c H locs cells slots mc ms (F0 m pc ls st0) rest (Qc (Value.ref b :: As).toArray) XC (va_A Wc H.size) := by
  subst hq
  exact vx_runV ⟨hx, hb, hml, hown, ht⟩ hM (cwV n ht (tw_V hcw hws) rfl hrc hrs hd hR) ⟨pc_blind, va_recv hK.1 (hP.sub isC (is_fm hC)) hc hrecv, pc_at hK hF hP hD hS hA hnC hC⟩ rfl hnA hls hst (lv_room hW) hdg hf
/-- an array of arrays of ints is read -/
theorem va_alda {a : Nat} (hexec : p.tables.exec = Jvm.exec) (hb : c.code = cc) (hK : va_K D vwCl tys s) (hP : va_P D vwCl ws H) (q0 t0 : Nat) {cA : ClassId} {n : Nat} {f : Nat → Option Nat} (ha : ws[q0]? = some (a, .inl (cA, n, .inr (.inr (.inr (.inr f)))))) (ht : tys[t0]? = some (cA, .array .int)) {i : Int32} (hin : vp_in i n) (hdg : decode cc pc = .ok (.aaload, 1))
    (kk : W p l e R s m args below meth c H locs cells slots Q (F0 m (pc + 1) ls (va_rf (f i.toNatClampNeg) :: rest))) : W p l e R s m args below meth c H locs cells slots Q (F0 m pc ls (.int i :: .ref a :: rest)) := by
  have hlt : i.toNatClampNeg < n := Nat.not_le.mp fun q => hin (Or.inr q)
  exact W.aald (v := va_rf (f i.toNatClampNeg)) (ty := .array .int) hexec hb (hP q0 _ ha) ((hK.2 t0 _ ht).1 n (fun j => va_rf (f j))) rfl (fun q => by cases q) (by show ¬ (i < 0 ∨ (arrV _ _ _).slots.size ≤ _); rw [arrV_size]; exact hin) (by show (arrV _ _ _).slots[_]? = _; rw [arrV_read _ _ hlt]) rfl rfl hdg kk
end CZB
