/-! the class PocketCompiler: its own cell before the world of its parts, what is not touched behind it -/
theorem va_P.mem {D : va_G} {cl : List vw_C} {ws ws' : va_W} {H : Heap} (h : va_P D cl ws H) (k : ∀ q ∈ ws', q ∈ ws) : va_P D cl ws' H := fun j q hj => by
  obtain ⟨i, hi⟩ := List.getElem?_of_mem (k q (List.mem_of_getElem? hj))
  exact h i q hi
theorem va_D.nd {A : Nat → Prop} {ws : va_W} (h : va_D A ws) : (ws.map Prod.fst).Nodup := by
  unfold List.Nodup
  rw [List.pairwise_iff_getElem]
  intro i j hi hj hij e
  have hi' : i < ws.length := by simpa using hi
  have hj' : j < ws.length := by simpa using hj
  have := h.1 i j ws[i] ws[j] (List.getElem?_eq_getElem hi') (List.getElem?_eq_getElem hj') (by simpa using e)
  omega
theorem va_D.of {A : Nat → Prop} {ws : va_W} (h : (ws.map Prod.fst).Nodup) (k : ∀ q ∈ ws, A q.1) : va_D A ws := by
  refine ⟨fun i j p q hi hj e => ?_, fun i q hi => k q (List.mem_of_getElem? hi)⟩
  obtain ⟨hi', rfl⟩ := List.getElem?_eq_some_iff.mp hi
  obtain ⟨hj', rfl⟩ := List.getElem?_eq_some_iff.mp hj
  unfold List.Nodup at h
  rw [List.pairwise_iff_getElem] at h
  rcases Nat.lt_trichotomy i j with c | c | c
  · exact absurd (by rw [List.getElem_map, List.getElem_map]; exact e) (h i j (by simpa using hi') (by simpa using hj') c)
  · exact c
  · exact absurd (by rw [List.getElem_map, List.getElem_map]; exact e.symm) (h j i (by simpa using hj') (by simpa using hi') c)
theorem va_D.perm {A : Nat → Prop} {ws ws' : va_W} (h : va_D A ws) (p : ws.Perm ws') : va_D A ws' := va_D.of ((p.map Prod.fst).nodup_iff.mp h.nd) (fun q hq => by
  obtain ⟨i, hi⟩ := List.getElem?_of_mem (p.mem_iff.mpr hq)
  exact h.2 i q hi)
theorem va_P.perm {D : va_G} {cl : List vw_C} {ws ws' : va_W} {H : Heap} (h : va_P D cl ws H) (p : ws.Perm ws') : va_P D cl ws' H := h.mem (fun q hq => p.mem_iff.mpr hq)
theorem nd_of {l : List Nat} (h : l.Nodup) : va_nd l = true := by
  induction l with
  | nil => rfl
  | cons a t ih => have := List.nodup_cons.mp h; unfold va_nd; simp [this.1, ih this.2]
def ixC (n : Nat) : List Nat := (List.range n).map (fun i => i + 1)
def ixR (n z : Nat) : List Nat := 0 :: (List.range z).map (fun i => i + n + 1)
theorem nd_mapadd (n k : Nat) : ((List.range n).map (fun i => i + k + 1)).Nodup := by
  unfold List.Nodup
  rw [List.pairwise_iff_getElem]
  intro i j hi hj hij e
  simp at e
  omega
theorem ixC_nd (n : Nat) : va_nd (ixC n) = true := nd_of (by have := nd_mapadd n 0; simpa [ixC] using this)
theorem ixR_nd (n z : Nat) : va_nd (ixR n z) = true := nd_of (by
  unfold ixR
  refine List.nodup_cons.mpr ⟨?_, nd_mapadd z n⟩
  simp)
theorem ixC_map (x : Nat × va_E) (A0 Z : va_W) : (ixC A0.length).map (fun i => (x :: (A0 ++ Z))[i]?) = A0.map some := by
  unfold ixC
  refine List.ext_getElem (by simp) (fun i h1 h2 => ?_)
  have h : i < A0.length := by simpa using h1
  simp [List.getElem?_append_left h, h]
theorem ixR_map (x : Nat × va_E) (A0 Z : va_W) : (ixR A0.length Z.length).map (fun i => (x :: (A0 ++ Z))[i]?) = (x :: Z).map some := by
  unfold ixR
  simp only [List.map_cons, List.getElem?_cons_zero, List.map_map]
  congr 1
  refine List.ext_getElem (by simp) (fun i h1 h2 => ?_)
  have h : i < Z.length := by simpa using h1
  simp [List.getElem?_append_right, h]
theorem ixR_dis (n z : Nat) : ∀ i ∈ ixR n z, i ∉ ixC n := by
  intro i hi hc
  unfold ixR at hi
  unfold ixC at hc
  obtain ⟨j, hj, rfl⟩ := List.mem_map.mp hc
  rw [List.mem_range] at hj
  rcases List.mem_cons.mp hi with h | h
  · omega
  · obtain ⟨k, hk, e⟩ := List.mem_map.mp h
    omega
theorem pcm (x : Nat × va_E) (Z W1 : va_W) : ((x :: Z) ++ W1).Perm (x :: (W1 ++ Z)) := List.Perm.cons x List.perm_append_comm
section CAB
variable {p : Program} {l : Launch} {e : Env} {R : Room} {s : State} {m : MethodId} {args : Array Value} {below : List Frame} {meth : Method} {c : Code} {H H0 : Heap} {locs : List Loc} {cells slots : Nat} {Q : State → Prop}
variable {cc bytes : ByteArray} {pc nL maxL mc ms n index ci b k0 : Nat} {ls : Array Slot} {rest st0 As fs : List Value} {D : va_G} {A : Nat → Prop} {tys : List (ClassId × FieldType)} {ws A0 Z : va_W} {own C : String} {y : MethodName} {ret : Option FieldType} {rm : Room} {q : vw_C} {S : Type} {tb : Nat → Nat} {x : Nat × va_E}
theorem cA_i {post : Int32 → S → Prop} {Wf : S → va_W} {a : Array Value} (hr : va_Run p l e R s m args below meth c H locs cells slots mc ms (F0 m pc ls st0) rest (qi_ D A0 H.size post Wf a) (va_A A0 H.size)) (hP : va_P D vwCl (x :: (A0 ++ Z)) H) (hD : va_D A (x :: (A0 ++ Z))) (hS : va_S A H0 H locs) (hA : ∀ q, H0.size ≤ q → A q)
    (kk : ∀ (r : Int32) (u : S) (H1 : Heap) (locs1 : List Loc), post r u → va_P D vwCl (x :: (Wf u ++ Z)) H1 → va_D A (x :: (Wf u ++ Z)) → va_S A H0 H1 locs1 → W p l e R s m args below meth c H1 locs1 (cells + mc) (slots + ms) Q (F0 m (pc + 3) ls (.int r :: rest))) : W p l e R s m args below meth c H locs cells slots Q (F0 m pc ls st0) :=
  ca_i (wr := x :: Z) hr hP hD hS hA (isC := ixC A0.length) (isR := ixR A0.length Z.length) (ixC_map x A0 Z) (ixR_map x A0 Z) (ixR_nd _ _) (ixR_dis _ _) (fun r u H1 locs1 hp h1 h2 h3 => kk r u H1 locs1 hp (h1.perm (pcm x Z _)) (h2.perm (pcm x Z _)) h3)
theorem cA_v {post : S → Prop} {Wf : S → va_W} {a : Array Value} (hr : va_Run p l e R s m args below meth c H locs cells slots mc ms (F0 m pc ls st0) rest (qv_ D A0 H.size post Wf a) (va_A A0 H.size)) (hP : va_P D vwCl (x :: (A0 ++ Z)) H) (hD : va_D A (x :: (A0 ++ Z))) (hS : va_S A H0 H locs) (hA : ∀ q, H0.size ≤ q → A q)
    (kk : ∀ (u : S) (H1 : Heap) (locs1 : List Loc), post u → va_P D vwCl (x :: (Wf u ++ Z)) H1 → va_D A (x :: (Wf u ++ Z)) → va_S A H0 H1 locs1 → W p l e R s m args below meth c H1 locs1 (cells + mc) (slots + ms) Q (F0 m (pc + 3) ls rest)) : W p l e R s m args below meth c H locs cells slots Q (F0 m pc ls st0) :=
  ca_v (wr := x :: Z) hr hP hD hS hA (isC := ixC A0.length) (isR := ixR A0.length Z.length) (ixC_map x A0 Z) (ixR_map x A0 Z) (ixR_nd _ _) (ixR_dis _ _) (fun u H1 locs1 hp h1 h2 h3 => kk u H1 locs1 hp (h1.perm (pcm x Z _)) (h2.perm (pcm x Z _)) h3)
theorem cAx_v {post : S → Prop} {Wf : S → va_W} {Wx : MS → va_W} {px : MS → Prop} {a : Array Value} (hr : vx_Run p l e R s m args below meth c H locs cells slots mc ms (F0 m pc ls st0) rest (qvz_ D A0 H.size post Wf a) (qxc D A0 H.size Wx px) (va_A A0 H.size)) (hP : va_P D vwCl (x :: (A0 ++ Z)) H) (hD : va_D A (x :: (A0 ++ Z))) (hS : va_S A H0 H locs) (hA : ∀ q, H0.size ≤ q → A q)
    (kx : ∀ (u : MS) (ce : Cell) (q9 : Addr) (H1 : Heap) (locs1 : List Loc), px u → va_P D vwCl (x :: (Wx u ++ Z)) H1 → va_D A (x :: (Wx u ++ Z)) → va_S A H0 H1 locs1 → H1[q9]? = some ce → ce.vm = .none → s.vm.findClass "java/lang/IllegalStateException" = some ce.cls → vx_W p l e R s m args below meth c H1 locs1 (cells + mc) (slots + ms) Q (F0 m pc ls rest) q9)
    (kk : ∀ (u : S) (H1 : Heap) (locs1 : List Loc), post u → va_P D vwCl (x :: (Wf u ++ Z)) H1 → va_D A (x :: (Wf u ++ Z)) → va_S A H0 H1 locs1 → W p l e R s m args below meth c H1 locs1 (cells + mc) (slots + ms) Q (F0 m (pc + 3) ls rest)) : W p l e R s m args below meth c H locs cells slots Q (F0 m pc ls st0) := by
  have hF := va_free hD hS hA (ixC A0.length) (ixC_map x A0 Z)
  refine vx_callv hr hS (fun q _ h => hF q h) hF (fun q _ h => hF q h) (fun E ce q9 u t H1 locs1 ht hvm hpx hB hz hk hS1 h1 h2 h3 => ?_) (fun u t H1 locs1 ht hvm hw hB hz hk hS1 => ?_)
  · obtain ⟨rfl, hP1, hD1⟩ := hB
    rw [ht] at hP1
    obtain ⟨hP2, hD2⟩ := va_join (wr := x :: Z) (w1 := Wx u) hP hD (ixC A0.length) (ixR A0.length Z.length) (ixC_map x A0 Z) (ixR_map x A0 Z) (ixR_nd _ _) (ixR_dis _ _) hk hF hP1 hD1
    exact kx u ce q9 H1 locs1 hpx (hP2.perm (pcm x Z _)) (hD2.perm (pcm x Z _)) hS1 h1 h2 h3
  · obtain ⟨⟨hP1, hD1⟩, hsz⟩ := hB
    rw [ht] at hP1 hsz
    obtain ⟨hP2, hD2⟩ := va_join (wr := x :: Z) (w1 := Wf u) hP hD (ixC A0.length) (ixR A0.length Z.length) (ixC_map x A0 Z) (ixR_map x A0 Z) (ixR_nd _ _) (ixR_dis _ _) hk hF hP1 hD1
    exact kk u H1 locs1 hw (hP2.perm (pcm x Z _)) (hD2.perm (pcm x Z _)) hS1
/-- what a method that throws before it has changed anything leaves -/
def qxp (D : va_G) (W0 : va_W) (sz : Nat) (px : String → Prop) : String → State → State → Prop := vx_X (fun (_ : Unit) => True) (fun E _ t => px E ∧ va_P D vwCl W0 t.heap ∧ va_D (va_A W0 sz) W0) (va_A W0 sz)
theorem cpx_v {post : S → Prop} {Wf : S → va_W} {px : String → Prop} {a : Array Value} (hr : vx_Run p l e R s m args below meth c H locs cells slots mc ms (F0 m pc ls st0) rest (qv_ D ws H.size post Wf a) (qxp D ws H.size px) (va_A ws H.size)) (hP : va_P D vwCl ws H) (hD : va_D A ws) (hS : va_S A H0 H locs) (hA : ∀ q, H0.size ≤ q → A q)
    (kx : ∀ (E : String) (ce : Cell) (q9 : Addr) (H1 : Heap) (locs1 : List Loc), px E → va_P D vwCl ws H1 → va_D A ws → va_S A H0 H1 locs1 → H1[q9]? = some ce → ce.vm = .none → s.vm.findClass E = some ce.cls → vx_W p l e R s m args below meth c H1 locs1 (cells + mc) (slots + ms) Q (F0 m pc ls rest) q9)
    (kk : ∀ (u : S) (H1 : Heap) (locs1 : List Loc), post u → va_P D vwCl (Wf u) H1 → va_D A (Wf u) → va_S A H0 H1 locs1 → W p l e R s m args below meth c H1 locs1 (cells + mc) (slots + ms) Q (F0 m (pc + 3) ls rest)) : W p l e R s m args below meth c H locs cells slots Q (F0 m pc ls st0) := by
  have hF := va_free hD hS hA (List.range ws.length) (rg_map ws)
  refine vx_callv hr hS (fun q _ h => hF q h) hF (fun q _ h => hF q h) (fun E ce q9 u t H1 locs1 ht hvm hpx hB hz hk hS1 h1 h2 h3 => ?_) (fun u t H1 locs1 ht hvm hw hB hz hk hS1 => ?_)
  · obtain ⟨hE, hP1, hD1⟩ := hB
    rw [ht] at hP1
    obtain ⟨hP2, hD2⟩ := va_join (wr := []) (w1 := ws) hP hD (List.range ws.length) [] (rg_map ws) rfl rfl (fun i h => by simp at h) hk hF hP1 hD1
    exact kx E ce q9 H1 locs1 hE hP2 hD2 hS1 h1 h2 h3
  · obtain ⟨hP1, hD1⟩ := hB
    rw [ht] at hP1
    obtain ⟨hP2, hD2⟩ := va_join (wr := []) (w1 := Wf u) hP hD (List.range ws.length) [] (rg_map ws) rfl rfl (fun i h => by simp at h) hk hF hP1 hD1
    exact kk u H1 locs1 hw hP2 hD2 hS1
theorem cpx_i {post : Int32 → S → Prop} {Wf : S → va_W} {px : String → Prop} {a : Array Value} (hr : vx_Run p l e R s m args below meth c H locs cells slots mc ms (F0 m pc ls st0) rest (qi_ D ws H.size post Wf a) (qxp D ws H.size px) (va_A ws H.size)) (hP : va_P D vwCl ws H) (hD : va_D A ws) (hS : va_S A H0 H locs) (hA : ∀ q, H0.size ≤ q → A q)
    (kx : ∀ (E : String) (ce : Cell) (q9 : Addr) (H1 : Heap) (locs1 : List Loc), px E → va_P D vwCl ws H1 → va_D A ws → va_S A H0 H1 locs1 → H1[q9]? = some ce → ce.vm = .none → s.vm.findClass E = some ce.cls → vx_W p l e R s m args below meth c H1 locs1 (cells + mc) (slots + ms) Q (F0 m pc ls rest) q9)
    (kk : ∀ (r : Int32) (u : S) (H1 : Heap) (locs1 : List Loc), post r u → va_P D vwCl (Wf u) H1 → va_D A (Wf u) → va_S A H0 H1 locs1 → W p l e R s m args below meth c H1 locs1 (cells + mc) (slots + ms) Q (F0 m (pc + 3) ls (.int r :: rest))) : W p l e R s m args below meth c H locs cells slots Q (F0 m pc ls st0) := by
  have hF := va_free hD hS hA (List.range ws.length) (rg_map ws)
  refine vx_calli hr hS (fun q _ h => hF q h) hF (fun q _ h => hF q h) (fun E ce q9 u t H1 locs1 ht hvm hpx hB hz hk hS1 h1 h2 h3 => ?_) (fun r u t H1 locs1 ht hvm hw hB hz hk hS1 => ?_)
  · obtain ⟨hE, hP1, hD1⟩ := hB
    rw [ht] at hP1
    obtain ⟨hP2, hD2⟩ := va_join (wr := []) (w1 := ws) hP hD (List.range ws.length) [] (rg_map ws) rfl rfl (fun i h => by simp at h) hk hF hP1 hD1
    exact kx E ce q9 H1 locs1 hE hP2 hD2 hS1 h1 h2 h3
  · obtain ⟨hP1, hD1⟩ := hB
    rw [ht] at hP1
    obtain ⟨hP2, hD2⟩ := va_join (wr := []) (w1 := Wf u) hP hD (List.range ws.length) [] (rg_map ws) rfl rfl (fun i h => by simp at h) hk hF hP1 hD1
    exact kk r u H1 locs1 hw hP2 hD2 hS1
end CAB
/-- a whole array -/
def wF (v : MS) (a : Nat) (f : Nat → Int32) : MS := (fun b => if b = a then f else v.1 b, v.2)
theorem rowF {cI : ClassId} {n : Nat} {v : MS} {b : Nat} {f : Nat → Int32} (h : b < 5000) : rw1 cI n (wF v b f) = rw1 cI n v := funext (fun a => by
  unfold rw1
  rw [show (wF v b f).1 (5000 + a) = v.1 (5000 + a) from if_neg (by omega)])
theorem FC.wf {al : List Nat} (v : MS) {b : Nat} (f : Nat → Int32) (hb : b ∈ al) (h0 : b ≠ 0 ∧ b < 5000) : FC [] al v (wF v b f) := by
  refine ⟨fun q a => ?_, fun j hj => ?_, fun a ha => ?_⟩
  · rw [show (wF v b f).1 (5000 + a) = v.1 (5000 + a) from if_neg (by omega)]; exact q a
  · show (if (0 : Nat) = b then f else v.1 0) j = v.1 0 j
    rw [if_neg (fun q => h0.1 q.symm)]
  · show (if a = b then f else v.1 a) = v.1 a
    exact if_neg (fun (q : a = b) => ha.2 (by rw [q]; exact hb))
