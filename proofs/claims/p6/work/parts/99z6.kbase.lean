/-! the class's constructor: arrays of arrays are kept as lists of addresses behind the world -/
section KBA
variable {p : Program} {l : Launch} {e : Env} {R : Room} {s : State} {m : MethodId} {args : Array Value} {below : List Frame} {meth : Method} {c : Code} {H H0 : Heap} {locs : List Loc} {cells slots : Nat} {Q : State → Prop}
variable {cc bytes : ByteArray} {pc nL maxL mc ms n index ci b : Nat} {ls : Array Slot} {rest st0 As fs : List Value} {D : va_G} {A : Nat → Prop} {tys : List (ClassId × FieldType)} {ws X pl Wc wr : va_W} {own C : String} {y : MethodName} {ret : Option FieldType} {rm : Room} {q : vw_C} {isC isR : List Nat} {S : Type} {tb : Nat → Nat}
theorem va_mnK {cc : ByteArray} (hexec : p.tables.exec = Jvm.exec) (hb : c.code = cc) {own : String} {index : Nat} (hown : s.vm.findClass own = some m.cls) (hclink : (Cond.classLink own index ("[" ++ (FieldType.array .int).toString)).before args s = true) (harr : (Cond.arrayClass .int).before args s = true)
    (hKK : kk_ D tys tb s) {cI cR : ClassId} (t0 t4 : Nat) (ht0 : tys[t0]? = some (cI, .int)) (ht4 : tys[t4]? = some (cR, .array .int)) (hP : va_P D vwCl ws H) (hD : va_D A ws) (hS : va_S A H0 H locs) (hA : ∀ q, H0.size ≤ q → A q) {n k : Int32} {N' K' : Nat} (hn : ¬ n < 0) (hk : ¬ k < 0) (hN : n.toNatClampNeg = N') (hM : k.toNatClampNeg = K')
    (hb1 : N' * 4 ≤ 536870912) (hb2 : K' * 4 ≤ 536870912) (hcells : cells + (1 + N') ≤ R.cells) (hslots : slots + (N' + N' * K') ≤ R.slots) (hdg : decode cc pc = .ok (.multianewarray index 2, 4))
    (kk : ∀ (q : Nat) (L : List Nat) (H1 : Heap), L.length = N' → va_P D vwCl (ws ++ ((q, .inl (cR, N', .inr (.inr (.inr (.inr (fun i => L[i]?)))))) :: va_pl L (fun _ => .inl (cI, K', .inl (fun _ => 0))))) H1 → va_D A (ws ++ ((q, .inl (cR, N', .inr (.inr (.inr (.inr (fun i => L[i]?)))))) :: va_pl L (fun _ => .inl (cI, K', .inl (fun _ => 0))))) → va_S A H0 H1 locs → W p l e R s m args below meth c H1 locs (cells + 1 + N') (slots + N' + N' * K') Q (F0 m (pc + 4) ls (.ref q :: rest))) : W p l e R s m args below meth c H locs cells slots Q (F0 m pc ls (.int k :: .int n :: rest)) := by
  refine va_mna (X := ws) (L := []) (f := fun _ => .inl (cI, (0, .inl (fun _ => 0)))) (z := (K', .inl (fun _ => 0))) (cy := cI) hexec hb hown hclink hKK.2.1.1 harr ?_ hKK.1 (by rw [show va_pl [] (fun _ => (.inl (cI, (0, .inl (fun _ => 0))) : va_E)) = [] from rfl, List.append_nil]; exact hP) (by rw [show va_pl [] (fun _ => (.inl (cI, (0, .inl (fun _ => 0))) : va_E)) = [] from rfl, List.append_nil]; exact hD) hS hA hn hk hN hM hb1 hb2 (by omega) rfl rfl hcells hslots ?_ hdg (fun q r cA H1 _ _ hK1 hP1 hD1 hS1 => ?_)
  · exact (hKK.1.2 t0 _ ht0).2
  · intro c
    exact (arrV_new c K' _)
  · have h1 := (hK1.2 tys.length (cA, .array .int) (by simp)).2
    have h2 := (hKK.1.2 t4 _ ht4).2
    have hcA : cA = cR := Option.some.inj (h1.symm.trans h2)
    subst hcA
    have hL : (fun i => if i < N' then some (r i) else none) = fun i => ((List.range N').map r)[i]? := funext (fun i => by
      by_cases h : i < N'
      · simp [h]
      · simp [h])
    have hp : ∀ e : va_E, va_pl ([] ++ (List.range N').map r) (vr_up (fun _ => .inl (cI, (0, .inl (fun _ => 0)))) ((List.range N').map r) e) = va_pl ((List.range N').map r) (fun _ => e) := fun e => by
      rw [List.nil_append]
      unfold va_pl
      exact List.map_congr_left (fun a ha => by rw [vr_up_in ha])
    rw [hL, hp, List.append_assoc] at hP1 hD1
    exact kk q ((List.range N').map r) H1 (by simp) hP1 hD1 hS1
theorem ca_vQ {post : S → Prop} {Wf : S → va_W} {a : Array Value} (hr : va_Run p l e R s m args below meth c H locs cells slots mc ms (F0 m pc ls st0) rest (qv_ D Wc H.size post Wf a) (va_A Wc H.size)) (hP : va_P D vwCl (X ++ pl) H) (hD : va_D A (X ++ pl)) (hS : va_S A H0 H locs) (hA : ∀ q, H0.size ≤ q → A q)
    (hC : isC.map (fun i => X[i]?) = Wc.map some) (hR : isR.map (fun i => X[i]?) = wr.map some) (hn : va_nd isR = true) (hdis : ∀ i ∈ isR, i ∉ isC)
    (kk : ∀ (u : S) (H1 : Heap) (locs1 : List Loc), post u → va_P D vwCl ((wr ++ Wf u) ++ pl) H1 → va_D A ((wr ++ Wf u) ++ pl) → va_S A H0 H1 locs1 → W p l e R s m args below meth c H1 locs1 (cells + mc) (slots + ms) Q (F0 m (pc + 3) ls rest)) : W p l e R s m args below meth c H locs cells slots Q (F0 m pc ls st0) := by
  have hC2 : isC.map (fun i => (X ++ pl)[i]?) = Wc.map some := by
    rw [← hC]
    refine List.map_congr_left (fun i hi => ?_)
    have h : X[i]? ∈ Wc.map some := by rw [← hC]; exact List.mem_map.mpr ⟨i, hi, rfl⟩
    obtain ⟨z, -, e⟩ := List.mem_map.mp h
    rw [List.getElem?_append_left (List.getElem?_eq_some_iff.mp e.symm).1]
  have hF := va_free hD hS hA isC hC2
  refine va_callv hr hS (fun q _ h => hF q h) hF (fun u t H1 locs1 ht hvm hw hB hz hk hS1 => ?_)
  obtain ⟨hP1, hD1⟩ := hB
  rw [ht] at hP1
  obtain ⟨hP2, hD2⟩ := va_joinQ (wr := wr) (w1 := Wf u) hP hD isC isR hC hR hn hdis hk hF hP1 hD1
  exact kk u H1 locs1 hw hP2 hD2 hS1
end KBA
theorem pnw (X P : va_W) (x : Nat × va_E) : ((X ++ P) ++ [x]).Perm ((X ++ [x]) ++ P) := by
  rw [List.append_assoc, List.append_assoc]
  exact List.Perm.append_left X List.perm_append_comm
theorem pmn (X P : va_W) (o : Nat × va_E) (p : va_W) : ((X ++ P) ++ (o :: p)).Perm ((X ++ [o]) ++ (P ++ p)) := by
  rw [List.append_assoc, List.append_assoc]
  refine List.Perm.append_left X ?_
  exact List.perm_middle
theorem pcl (W1 E p P : va_W) : ((W1 ++ (E ++ p)) ++ P).Perm ((W1 ++ E) ++ (P ++ p)) := by
  rw [← List.append_assoc, List.append_assoc (W1 ++ E)]
  exact List.Perm.append_left _ List.perm_append_comm
theorem perm_ix {X X' : va_W} (is : List Nat) (h : is.Perm (List.range X.length)) (h2 : is.map (fun i => X[i]?) = X'.map some) : X.Perm X' := by
  have h3 : (X'.map some).Perm (X.map some) := by
    rw [← h2, ← rg_map X]
    exact h.map _
  have h4 := h3.symm.filterMap id
  have e : ∀ Y : va_W, (Y.map some).filterMap id = Y := fun Y => by induction Y with
    | nil => rfl
    | cons a t ih => simpa using ih
  rw [e, e] at h4
  exact h4
theorem pXp (x : Nat × va_E) (C O S p1 p2 p3 p4 : va_W) : ((x :: (C ++ (O ++ S))) ++ ((p1 ++ p2) ++ (p3 ++ p4))).Perm (x :: (((C ++ p1) ++ p2) ++ ((O ++ (p3 ++ p4)) ++ S))) := by
  simp only [List.append_assoc, List.cons_append]
  refine List.Perm.cons x (List.Perm.append_left C ?_)
  have h1 : (O ++ (S ++ (p1 ++ (p2 ++ (p3 ++ p4))))).Perm (O ++ ((p1 ++ (p2 ++ (p3 ++ p4))) ++ S)) := List.Perm.append_left O List.perm_append_comm
  refine h1.trans ?_
  simp only [List.append_assoc]
  have h2 := List.perm_append_comm_assoc O (p1 ++ p2) (p3 ++ (p4 ++ S))
  simp only [List.append_assoc] at h2
  exact h2
