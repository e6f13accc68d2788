/-! the reference throws its one Halt -/
def qxm (D : va_G) (W0 : va_W) (sz : Nat) (Wx : MS → va_W) (px : MS → Prop) : String → State → State → Prop := vx_X px (fun E u t => E = "PocketCompilerModel$Halt" ∧ va_P D vwCl (Wx u) t.heap ∧ va_D (va_A W0 sz) (Wx u)) (va_A W0 sz)
section UMX
variable {p : Program} {l : Launch} {e : Env} {R : Room} {s : State} {m : MethodId} {args : Array Value} {below : List Frame} {meth : Method} {c : Code} {H H0 : Heap} {locs : List Loc} {cells slots : Nat} {Q : State → Prop}
variable {cc bytes : ByteArray} {pc nL maxL mc ms n index ci b : Nat} {ls : Array Slot} {rest st0 As fs : List Value} {D : va_G} {A : Nat → Prop} {tys : List (ClassId × FieldType)} {ws : va_W} {own C : String} {y : MethodName} {ret : Option FieldType} {rm : Room} {q : vw_C} {S : Type} {tb : Nat → Nat}
theorem um_athrow (hexec : p.tables.exec = Jvm.exec) (hb : c.code = cc) {q : Nat} (hdg : decode cc pc = .ok (.athrow, 1)) (k : vx_W p l e R s m args below meth c H locs cells slots Q (F0 m pc ls rest) q) : W p l e R s m args below meth c H locs cells slots Q (F0 m pc ls (.ref q :: rest)) := by
  intro T hT X
  obtain ⟨t, h1, h2⟩ := k T hT X
  refine ⟨t, ?_, h2⟩
  jvm_step X.here [X.here.top, hexec, hb, hdg]
  exact h1
theorem halt_at {ad : Nat → Nat} {N : Nat} {cI cZ cJ : ClassId} {v : MS} (hK : va_K D vwCl tys s) (hP : va_P D vwCl (mW ad N cI cZ cJ v) H) : ∃ ce : Cell, H[ad 46]? = some ce ∧ ce.vm = .none ∧ s.vm.findClass "PocketCompilerModel$Halt" = some ce.cls := by
  obtain ⟨q', h1, cell, g1, g2, g3, -⟩ := hP 62 _ rfl
  exact ⟨cell, g1, g3, by rw [g2]; exact (hK.1 15 _ rfl).2.1⟩
theorem cux_i {post : Int32 → S → Prop} {Wf : S → va_W} {Wx : MS → va_W} {px : MS → Prop} {a : Array Value} (hr : vx_Run p l e R s m args below meth c H locs cells slots mc ms (F0 m pc ls st0) rest (qi_ D ws H.size post Wf a) (qxm D ws H.size Wx px) (va_A ws H.size)) (hP : va_P D vwCl ws H) (hD : va_D A ws) (hS : va_S A H0 H locs) (hA : ∀ q, H0.size ≤ q → A q)
    (kx : ∀ (u : MS) (ce : Cell) (q9 : Addr) (H1 : Heap) (locs1 : List Loc), px u → va_P D vwCl (Wx u) H1 → va_D A (Wx u) → va_S A H0 H1 locs1 → H1[q9]? = some ce → ce.vm = .none → s.vm.findClass "PocketCompilerModel$Halt" = some ce.cls → vx_W p l e R s m args below meth c H1 locs1 (cells + mc) (slots + ms) Q (F0 m pc ls rest) q9)
    (kk : ∀ (r : Int32) (u : S) (H1 : Heap) (locs1 : List Loc), post r u → va_P D vwCl (Wf u) H1 → va_D A (Wf u) → va_S A H0 H1 locs1 → W p l e R s m args below meth c H1 locs1 (cells + mc) (slots + ms) Q (F0 m (pc + 3) ls (.int r :: rest))) : W p l e R s m args below meth c H locs cells slots Q (F0 m pc ls st0) := by
  have hF := va_free hD hS hA (List.range ws.length) (rg_map ws)
  refine vx_calli hr hS (fun q _ h => hF q h) hF (fun q _ h => hF q h) (fun E ce q9 u t H1 locs1 ht hvm hpx hB hz hk hS1 h1 h2 h3 => ?_) (fun r u t H1 locs1 ht hvm hw hB hz hk hS1 => ?_)
  · obtain ⟨rfl, hP1, hD1⟩ := hB
    rw [ht] at hP1
    obtain ⟨hP2, hD2⟩ := va_join (wr := []) (w1 := Wx u) hP hD (List.range ws.length) [] (rg_map ws) rfl rfl (fun i h => by simp at h) hk hF hP1 hD1
    exact kx u ce q9 H1 locs1 hpx hP2 hD2 hS1 h1 h2 h3
  · obtain ⟨hP1, hD1⟩ := hB
    rw [ht] at hP1
    obtain ⟨hP2, hD2⟩ := va_join (wr := []) (w1 := Wf u) hP hD (List.range ws.length) [] (rg_map ws) rfl rfl (fun i h => by simp at h) hk hF hP1 hD1
    exact kk r u H1 locs1 hw hP2 hD2 hS1
theorem cux_v {post : S → Prop} {Wf : S → va_W} {Wx : MS → va_W} {px : MS → Prop} {a : Array Value} (hr : vx_Run p l e R s m args below meth c H locs cells slots mc ms (F0 m pc ls st0) rest (qv_ D ws H.size post Wf a) (qxm D ws H.size Wx px) (va_A ws H.size)) (hP : va_P D vwCl ws H) (hD : va_D A ws) (hS : va_S A H0 H locs) (hA : ∀ q, H0.size ≤ q → A q)
    (kx : ∀ (u : MS) (ce : Cell) (q9 : Addr) (H1 : Heap) (locs1 : List Loc), px u → va_P D vwCl (Wx u) H1 → va_D A (Wx u) → va_S A H0 H1 locs1 → H1[q9]? = some ce → ce.vm = .none → s.vm.findClass "PocketCompilerModel$Halt" = some ce.cls → vx_W p l e R s m args below meth c H1 locs1 (cells + mc) (slots + ms) Q (F0 m pc ls rest) q9)
    (kk : ∀ (u : S) (H1 : Heap) (locs1 : List Loc), post u → va_P D vwCl (Wf u) H1 → va_D A (Wf u) → va_S A H0 H1 locs1 → W p l e R s m args below meth c H1 locs1 (cells + mc) (slots + ms) Q (F0 m (pc + 3) ls rest)) : W p l e R s m args below meth c H locs cells slots Q (F0 m pc ls st0) := by
  have hF := va_free hD hS hA (List.range ws.length) (rg_map ws)
  refine vx_callv hr hS (fun q _ h => hF q h) hF (fun q _ h => hF q h) (fun E ce q9 u t H1 locs1 ht hvm hpx hB hz hk hS1 h1 h2 h3 => ?_) (fun u t H1 locs1 ht hvm hw hB hz hk hS1 => ?_)
  · obtain ⟨rfl, hP1, hD1⟩ := hB
    rw [ht] at hP1
    obtain ⟨hP2, hD2⟩ := va_join (wr := []) (w1 := Wx u) hP hD (List.range ws.length) [] (rg_map ws) rfl rfl (fun i h => by simp at h) hk hF hP1 hD1
    exact kx u ce q9 H1 locs1 hpx hP2 hD2 hS1 h1 h2 h3
  · obtain ⟨hP1, hD1⟩ := hB
    rw [ht] at hP1
    obtain ⟨hP2, hD2⟩ := va_join (wr := []) (w1 := Wf u) hP hD (List.range ws.length) [] (rg_map ws) rfl rfl (fun i h => by simp at h) hk hF hP1 hD1
    exact kk u H1 locs1 hw hP2 hD2 hS1
theorem cu_r {post : S → Prop} {ra : S → Nat} {Wf : S → va_W} {a : Array Value} (hr : va_Run p l e R s m args below meth c H locs cells slots mc ms (F0 m pc ls st0) rest (qr_ D ws H.size post ra Wf a) (va_A ws H.size)) (hP : va_P D vwCl ws H) (hD : va_D A ws) (hS : va_S A H0 H locs) (hA : ∀ q, H0.size ≤ q → A q)
    (kk : ∀ (u : S) (H1 : Heap) (locs1 : List Loc), post u → va_P D vwCl (Wf u) H1 → va_D A (Wf u) → va_S A H0 H1 locs1 → W p l e R s m args below meth c H1 locs1 (cells + mc) (slots + ms) Q (F0 m (pc + 3) ls (.ref (ra u) :: rest))) : W p l e R s m args below meth c H locs cells slots Q (F0 m pc ls st0) :=
  ca_r (wr := []) hr hP hD hS hA (isC := List.range ws.length) (isR := []) (rg_map ws) rfl rfl (fun i h => by simp at h) kk
/-- a loop with a measure -/
theorem lpm_ {X : Type} {P : X → Heap → List Loc → Array Slot → Prop} (μ : X → Nat) (pc2 : Nat) (hs : ∀ x H locs ls, P x H locs ls → (∀ x' H' locs' ls', μ x' < μ x → P x' H' locs' ls' → W p l e R s m args below meth c H' locs' cells slots Q (F0 m pc2 ls' [])) → W p l e R s m args below meth c H locs cells slots Q (F0 m pc2 ls [])) : ∀ x H locs ls, P x H locs ls → W p l e R s m args below meth c H locs cells slots Q (F0 m pc2 ls []) := by
  intro x
  generalize hk : μ x = k
  induction k using Nat.strongRecOn generalizing x with
  | ind k ih =>
    intro H locs ls hp
    exact hs x H locs ls hp (fun x' H' locs' ls' hm hp' => ih (μ x') (hk ▸ hm) x' rfl H' locs' ls' hp')
/-- a join: the rest behind pc2 is told once -/
theorem lpj_ {X : Type} {P : X → Heap → List Loc → Array Slot → Prop} {g : JFrame} (pc2 : Nat) (h1 : ∀ x H locs ls, P x H locs ls → W p l e R s m args below meth c H locs cells slots Q (F0 m pc2 ls [])) (h2 : (∀ x H locs ls, P x H locs ls → W p l e R s m args below meth c H locs cells slots Q (F0 m pc2 ls [])) → W p l e R s m args below meth c H0 locs cells slots Q g) : W p l e R s m args below meth c H0 locs cells slots Q g := h2 h1
theorem wS_ (v : MS) (k : Nat) : wA v 0 k (v.1 0 k) = v := by
  obtain ⟨f, g⟩ := v
  show ((fun b => if b = 0 then upd (f 0) k (f 0 k) else f b), g) = (f, g)
  congr 1
  funext b
  by_cases h : b = 0
  · subst h
    rw [if_pos rfl]
    funext j
    by_cases q : j = k
    · subst q; exact pk_us
    · exact pk_un q
  · rw [if_neg h]
end UMX
theorem b01_ {r : Int32} (h : r = 0 ∨ r = 1) : 0 ≤ r.toInt ∧ r.toInt ≤ 1 := by rcases h with h | h <;> rw [h] <;> decide
/-! what reading a text may change, and nothing else -/
def pfl : List Nat := [5, 12, 15, 22, 27, 28, 30, 31, 32, 33, 34, 39, 43, 44, 45, 47, 48, 49, 50, 51, 52, 53, 54, 55, 56, 57, 58, 59, 60, 67, 68, 69]
def pal : List Nat := [0, 11, 13, 14, 16, 17, 18, 19, 20, 21, 23, 24, 25, 26, 29, 35, 36, 37, 38, 40, 41, 42, 61, 62, 63, 64, 65, 66]
def FG (fl al : List Nat) (v u : MS) : Prop := u.2 = v.2 ∧ (∀ k, k ∉ fl → u.1 0 k = v.1 0 k) ∧ ∀ a, a ∉ al → u.1 a = v.1 a
abbrev Fr (v u : MS) : Prop := FG pfl pal v u
theorem FG.rf {fl al : List Nat} (v : MS) : FG fl al v v := ⟨rfl, fun _ _ => rfl, fun _ _ => rfl⟩
theorem FG.tr {fl al : List Nat} {v u w : MS} (h : FG fl al v u) (k : FG fl al u w) : FG fl al v w := ⟨k.1.trans h.1, fun j hj => (k.2.1 j hj).trans (h.2.1 j hj), fun a ha => (k.2.2 a ha).trans (h.2.2 a ha)⟩
theorem FG.up {fl al fl' al' : List Nat} {v u : MS} (h : FG fl al v u) (h1 : ∀ k ∈ fl, k ∈ fl') (h2 : ∀ k ∈ al, k ∈ al') : FG fl' al' v u := ⟨h.1, fun k hk => h.2.1 k (fun q => hk (h1 k q)), fun k hk => h.2.2 k (fun q => hk (h2 k q))⟩
theorem FG.f {fl al : List Nat} {v u : MS} (h : FG fl al v u) {k : Nat} (x : Int32) (hk : k ∈ fl ∧ 0 ∈ al) : FG fl al v (wA u 0 k x) := by
  refine ⟨h.1, fun j hj => ?_, fun a ha => ?_⟩
  · have e : j ≠ k := fun q => hj (q ▸ hk.1)
    show (if (0 : Nat) = 0 then upd (u.1 0) k x else u.1 0) j = v.1 0 j
    rw [if_pos rfl, pk_un e]
    exact h.2.1 j hj
  · have e : a ≠ 0 := fun q => ha (q ▸ hk.2)
    show (if a = 0 then upd (u.1 0) k x else u.1 a) = v.1 a
    rw [if_neg e]
    exact h.2.2 a ha
theorem FG.a {fl al : List Nat} {v u : MS} (h : FG fl al v u) {b : Nat} (i : Nat) (x : Int32) (hb : b ∈ al) (h0 : b ≠ 0) : FG fl al v (wA u b i x) := by
  refine ⟨h.1, fun j hj => ?_, fun a ha => ?_⟩
  · show (if (0 : Nat) = b then upd (u.1 b) i x else u.1 0) j = v.1 0 j
    rw [if_neg (fun q => h0 q.symm)]
    exact h.2.1 j hj
  · have e : a ≠ b := fun q => ha (q ▸ hb)
    show (if a = b then upd (u.1 b) i x else u.1 a) = v.1 a
    rw [if_neg e]
    exact h.2.2 a ha
/-- the tokens' places lie in the text -/
def TI (v : MS) : Prop := ∀ j : Nat, 0 ≤ (v.1 7 j).toInt ∧ (v.1 7 j).toInt ≤ 4000 ∧ 0 ≤ (v.1 8 j).toInt ∧ (v.1 8 j).toInt ≤ 4000
theorem FG.ti {fl al : List Nat} {v u : MS} (h : FG fl al v u) (h7 : 7 ∉ al) (h8 : 8 ∉ al) (k : TI v) : TI u := fun j => by rw [h.2.2 7 h7, h.2.2 8 h8]; exact k j
/-- what an array's numbers lie between -/
def AR (a : Nat) (lo hi : Int) (v : MS) : Prop := ∀ j : Nat, lo ≤ (v.1 a j).toInt ∧ (v.1 a j).toInt ≤ hi
theorem AR.w {a : Nat} {lo hi : Int} {v : MS} {i : Nat} {x : Int32} (h : AR a lo hi v) (hx : lo ≤ x.toInt ∧ x.toInt ≤ hi) : AR a lo hi (wA v a i x) := fun j => by
  show lo ≤ ((if a = a then upd (v.1 a) i x else v.1 a) j).toInt ∧ ((if a = a then upd (v.1 a) i x else v.1 a) j).toInt ≤ hi
  rw [if_pos rfl]
  by_cases q : j = i
  · rw [q, pk_us]; exact hx
  · rw [pk_un q]; exact h j
theorem AR.fr {fl al : List Nat} {a : Nat} {lo hi : Int} {v u : MS} (h : FG fl al v u) (ha : a ∉ al) (k : AR a lo hi v) : AR a lo hi u := fun j => by rw [h.2.2 a ha]; exact k j
/-- what the words to be mended speak of -/
def FX (v : MS) : Prop := ∀ j : Nat, (v.1 42 j).toInt = 5 ∨ (0 ≤ (v.1 41 j).toInt ∧ (v.1 41 j).toInt < 60)
theorem FX.fr {fl al : List Nat} {v u : MS} (h : FG fl al v u) (h1 : 41 ∉ al) (h2 : 42 ∉ al) (k : FX v) : FX u := fun j => by rw [h.2.2 41 h1, h.2.2 42 h2]; exact k j
theorem FX.w {v : MS} {i : Nat} {b c : Int32} (h : FX v) (hx : c.toInt = 5 ∨ (0 ≤ b.toInt ∧ b.toInt < 60)) : FX (wA (wA v 41 i b) 42 i c) := fun j => by
  show (upd (v.1 42) i c j).toInt = 5 ∨ (0 ≤ (upd (v.1 41) i b j).toInt ∧ (upd (v.1 41) i b j).toInt < 60)
  by_cases q : j = i
  · rw [q, pk_us, pk_us]; exact hx
  · rw [pk_un q, pk_un q]; exact h j
