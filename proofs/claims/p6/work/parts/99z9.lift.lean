/-! contracts in a larger world -/
theorem Met.map {l : Launch} {y : MethodName} {w : List Cond} {rm : Room} {Pc Pc' : Array Value → State → Prop} {Qc Qc' : Array Value → State → Outcome → State → Prop} {mc ms : Nat} {free free' : Addr → Prop} (hM : Met l y w rm Pc Qc mc ms free) (hp : ∀ a s, Pc' a s → Pc a s) (hq : ∀ a s o t, Pc' a s → Qc a s o t → Qc' a s o t) (hf : ∀ q, free q → free' q) : Met l y w rm Pc' Qc' mc ms free' := by
  intro p e ha hc hk s m args below hn happ hP hK
  obtain ⟨k, o, h1, h2, h3, hQ, L, hL, hfr⟩ := hM p e ha hc hk s m args below hn happ (hp _ _ hP) hK
  exact ⟨k, o, h1, h2, h3, hq _ _ _ _ hP hQ, L, hL, fun q hq => hf _ (hfr q hq)⟩
theorem vx_Met.map {l : Launch} {y : MethodName} {w : List Cond} {rm : Room} {Pc Pc' : Array Value → State → Prop} {Qc Qc' : Array Value → State → Outcome → State → Prop} {X X' : String → State → State → Prop} {mc ms : Nat} {free free' : Addr → Prop} (hM : vx_Met l y w rm Pc Qc X mc ms free) (hp : ∀ a s, Pc' a s → Pc a s) (hq : ∀ a s o t, Pc' a s → Qc a s o t → Qc' a s o t) (hx : ∀ a E s t, Pc' a s → X E s t → X' E s t) (hf : ∀ q, free q → free' q) : vx_Met l y w rm Pc' Qc' X' mc ms free' := by
  intro p e ha hc hk s m args below hn happ hP hK
  obtain ⟨k, o, h1, h2, h3, hQ⟩ := hM p e ha hc hk s m args below hn happ (hp _ _ hP) hK
  refine ⟨k, o, h1, h2, h3, ?_⟩
  rcases hQ with ⟨hQ, L, hL, hfr⟩ | ⟨q, ho, E, ce, L, hX, r1, r2, r3, r4, r5, r6⟩
  · exact Or.inl ⟨hq _ _ _ _ hP hQ, L, hL, fun q hq => hf _ (hfr q hq)⟩
  · exact Or.inr ⟨q, ho, E, ce, L, hx _ _ _ _ hP hX, r1, r2, r3, r4, r5, fun z hz => hf _ (r6 z hz)⟩
theorem va_A.mem {ws : va_W} {sz q : Nat} : va_A ws sz q ↔ (∃ e, (q, e) ∈ ws) ∨ sz ≤ q := by
  constructor
  · rintro (⟨k, e, h⟩ | h)
    · exact Or.inl ⟨e, List.mem_of_getElem? h⟩
    · exact Or.inr h
  · rintro (⟨e, h⟩ | h)
    · obtain ⟨k, hk⟩ := List.getElem?_of_mem h
      exact Or.inl ⟨k, e, hk⟩
    · exact Or.inr h
theorem va_A.sub {ws Wc R : va_W} {sz : Nat} (hp : ws.Perm (Wc ++ R)) : ∀ q, va_A Wc sz q → va_A ws sz q := fun q h => by
  rw [va_A.mem] at h ⊢
  rcases h with ⟨e, h⟩ | h
  · exact Or.inl ⟨e, hp.mem_iff.mpr (List.mem_append_left _ h)⟩
  · exact Or.inr h
theorem va_D.left {A : Nat → Prop} {X Y : va_W} (h : va_D A (X ++ Y)) : va_D A X := by
  have lift : ∀ (i : Nat) (p : Nat × va_E), X[i]? = some p → (X ++ Y)[i]? = some p := fun i p hi => by rw [List.getElem?_append_left (List.getElem?_eq_some_iff.mp hi).1]; exact hi
  exact ⟨fun i j p q hi hj e => h.1 i j p q (lift i p hi) (lift j q hj) e, fun k q hk => h.2 k q (lift k q hk)⟩
theorem pc_sub {D : va_G} {tys : List (ClassId × FieldType)} {tb : Nat → Nat} {ws Wc R : va_W} {sz : Nat} {av : List Value} {a : Array Value} {s : State} (hp : ws.Perm (Wc ++ R)) (h : pc_ D tys tb ws sz av a s) : pc_ D tys tb Wc sz av a s := by
  obtain ⟨h0, h1, hP, hK, hD, hF⟩ := h
  exact ⟨h0, h1, hP.mem (fun q hq => hp.mem_iff.mpr (List.mem_append_left _ hq)), hK, (hD.perm hp).left, hF.narrow (va_A.sub hp)⟩
theorem ixA_map (A0 Z : va_W) : (List.range A0.length).map (fun i => (A0 ++ Z)[i]?) = A0.map some := by
  refine List.ext_getElem (by simp) (fun i h1 h2 => ?_)
  have h : i < A0.length := by simpa using h1
  simp [List.getElem?_append_left h, h]
theorem ixB_map (A0 Z : va_W) : ((List.range Z.length).map (fun i => i + A0.length)).map (fun i => (A0 ++ Z)[i]?) = Z.map some := by
  rw [List.map_map]
  refine List.ext_getElem (by simp) (fun i h1 h2 => ?_)
  have h : i < Z.length := by simpa using h1
  simp [List.getElem?_append_right, h]
theorem ixB_nd (n z : Nat) : va_nd ((List.range z).map (fun i => i + n)) = true := nd_of (by
  unfold List.Nodup
  rw [List.pairwise_iff_getElem]
  intro i j hi hj hij e
  simp at e
  omega)
theorem ixB_dis (n z : Nat) : ∀ i ∈ (List.range z).map (fun i => i + n), i ∉ List.range n := fun i hi hc => by
  obtain ⟨j, -, rfl⟩ := List.mem_map.mp hi
  rw [List.mem_range] at hc
  omega
theorem lift_j {D : va_G} {ws Wc R w1 : va_W} {s t : State} (hp : ws.Perm (Wc ++ R)) (hP : va_P D vwCl ws s.heap) (hD : va_D (fun _ => True) ws) (hP1 : va_P D vwCl w1 t.heap) (hD1 : va_D (va_A Wc s.heap.size) w1) (hF : va_F (va_A Wc s.heap.size) s t) : va_P D vwCl (w1 ++ R) t.heap ∧ va_D (va_A ws s.heap.size) (w1 ++ R) := by
  obtain ⟨h1, h2⟩ := va_join (A0 := va_A ws s.heap.size) (ws := Wc ++ R) (wc := Wc) (wr := R) (w1 := w1) (H := s.heap) (H1 := t.heap) (hP.perm hp) ((hD.self (sz := s.heap.size)).perm hp) (List.range Wc.length) ((List.range R.length).map (fun i => i + Wc.length)) (ixA_map Wc R) (ixB_map Wc R) (ixB_nd _ _) (ixB_dis _ _) hF.2 (va_A.sub hp) hP1 hD1
  exact ⟨h1.perm List.perm_append_comm, h2.perm List.perm_append_comm⟩
section LFT
variable {l : Launch} {y : MethodName} {w : List Cond} {rm : Room} {D : va_G} {tys : List (ClassId × FieldType)} {tb : Nat → Nat} {ws Wc R : va_W} {sz mc ms : Nat} {av : List Value} {S : Type}
theorem Met.lift_i {post : Int32 → S → Prop} {Wf : S → va_W} (post' : Int32 → va_W → Prop) (hp : ws.Perm (Wc ++ R)) (hM : Met l y w rm (pc_ D tys tb Wc sz av) (qi_ D Wc sz post Wf) mc ms (va_A Wc sz)) (h : ∀ r u, post r u → post' r (Wf u ++ R)) : Met l y w rm (pc_ D tys tb ws sz av) (qi_ D ws sz post' (fun u => u)) mc ms (va_A ws sz) :=
  hM.map (fun _ _ => pc_sub hp) (fun a s o t hpc hq => by
    obtain ⟨h0, rfl, hP, hK, hD, hF⟩ := hpc
    obtain ⟨⟨r, u, ho, hpo, hP1, hD1⟩, hF1⟩ := hq
    obtain ⟨hP2, hD2⟩ := lift_j hp hP hD hP1 hD1 hF1
    exact ⟨⟨r, Wf u ++ R, ho, h r u hpo, hP2, hD2⟩, ⟨hF1.1, fun q h1 h2 => hF1.2 q h1 (fun h3 => h2 (va_A.sub hp q h3))⟩⟩) (va_A.sub hp)
theorem Met.lift_v {post : S → Prop} {Wf : S → va_W} (post' : va_W → Prop) (hp : ws.Perm (Wc ++ R)) (hM : Met l y w rm (pc_ D tys tb Wc sz av) (qv_ D Wc sz post Wf) mc ms (va_A Wc sz)) (h : ∀ u, post u → post' (Wf u ++ R)) : Met l y w rm (pc_ D tys tb ws sz av) (qv_ D ws sz post' (fun u => u)) mc ms (va_A ws sz) :=
  hM.map (fun _ _ => pc_sub hp) (fun a s o t hpc hq => by
    obtain ⟨h0, rfl, hP, hK, hD, hF⟩ := hpc
    obtain ⟨⟨u, ho, hpo, hP1, hD1⟩, hF1⟩ := hq
    obtain ⟨hP2, hD2⟩ := lift_j hp hP hD hP1 hD1 hF1
    exact ⟨⟨Wf u ++ R, ho, h u hpo, hP2, hD2⟩, ⟨hF1.1, fun q h1 h2 => hF1.2 q h1 (fun h3 => h2 (va_A.sub hp q h3))⟩⟩) (va_A.sub hp)
theorem qxp_lift {px : String → Prop} {s t : State} {E : String} (hp : ws.Perm (Wc ++ R)) (hP : va_P D vwCl ws s.heap) (hD : va_D (fun _ => True) ws) (hX : qxp D Wc s.heap.size px E s t) : qxp D ws s.heap.size px E s t := by
  obtain ⟨u, h0, ⟨hE, hP1, hD1⟩, hF1⟩ := hX
  obtain ⟨hP2, hD2⟩ := lift_j hp hP hD hP1 hD1 hF1
  exact ⟨u, h0, ⟨hE, hP2.perm hp.symm, hD2.perm hp.symm⟩, ⟨hF1.1, fun q h1 h2 => hF1.2 q h1 (fun h3 => h2 (va_A.sub hp q h3))⟩⟩
theorem vx_Met.lift_i {post : Int32 → S → Prop} {Wf : S → va_W} {px : String → Prop} (post' : Int32 → va_W → Prop) (hp : ws.Perm (Wc ++ R)) (hM : vx_Met l y w rm (pc_ D tys tb Wc sz av) (qi_ D Wc sz post Wf) (qxp D Wc sz px) mc ms (va_A Wc sz)) (h : ∀ r u, post r u → post' r (Wf u ++ R)) : vx_Met l y w rm (pc_ D tys tb ws sz av) (qi_ D ws sz post' (fun u => u)) (qxp D ws sz px) mc ms (va_A ws sz) :=
  hM.map (fun _ _ => pc_sub hp) (fun a s o t hpc hq => by
    obtain ⟨h0, rfl, hP, hK, hD, hF⟩ := hpc
    obtain ⟨⟨r, u, ho, hpo, hP1, hD1⟩, hF1⟩ := hq
    obtain ⟨hP2, hD2⟩ := lift_j hp hP hD hP1 hD1 hF1
    exact ⟨⟨r, Wf u ++ R, ho, h r u hpo, hP2, hD2⟩, ⟨hF1.1, fun q h1 h2 => hF1.2 q h1 (fun h3 => h2 (va_A.sub hp q h3))⟩⟩) (fun a E s t hpc hX => by
    obtain ⟨h0, rfl, hP, hK, hD, hF⟩ := hpc
    exact qxp_lift hp hP hD hX) (va_A.sub hp)
theorem vx_Met.lift_v {post : S → Prop} {Wf : S → va_W} {px : String → Prop} (post' : va_W → Prop) (hp : ws.Perm (Wc ++ R)) (hM : vx_Met l y w rm (pc_ D tys tb Wc sz av) (qv_ D Wc sz post Wf) (qxp D Wc sz px) mc ms (va_A Wc sz)) (h : ∀ u, post u → post' (Wf u ++ R)) : vx_Met l y w rm (pc_ D tys tb ws sz av) (qv_ D ws sz post' (fun u => u)) (qxp D ws sz px) mc ms (va_A ws sz) :=
  hM.map (fun _ _ => pc_sub hp) (fun a s o t hpc hq => by
    obtain ⟨h0, rfl, hP, hK, hD, hF⟩ := hpc
    obtain ⟨⟨u, ho, hpo, hP1, hD1⟩, hF1⟩ := hq
    obtain ⟨hP2, hD2⟩ := lift_j hp hP hD hP1 hD1 hF1
    exact ⟨⟨Wf u ++ R, ho, h u hpo, hP2, hD2⟩, ⟨hF1.1, fun q h1 h2 => hF1.2 q h1 (fun h3 => h2 (va_A.sub hp q h3))⟩⟩) (fun a E s t hpc hX => by
    obtain ⟨h0, rfl, hP, hK, hD, hF⟩ := hpc
    exact qxp_lift hp hP hD hX) (va_A.sub hp)
end LFT
