/-! the class's state as a state of the reading -/
def lst (f : Nat → Int32) (n : Int32) : List Int32 := (List.range n.toNatClampNeg).map f
abbrev GH : Type := Bool × Bool × Bool × (Int32 × (Int → Int32)) × List Nat
def dsz (d x : Int32) : Int32 := if d = 0 then 9 else if d = 1 then 4 else if d = 2 then nsz x else if d = 5 ∨ d = 6 ∨ d = 9 ∨ d = 11 ∨ d = 16 ∨ d = 17 ∨ d = 22 ∨ d = 23 then 2 else if d = 7 then 8 else if d = 18 then 3 else if d = 20 then 1 + opz x else if d = 24 then 0 else 1
def dvd (d x : Int32) : Bool := (decide (1 ≤ d.toInt) && decide (d.toInt ≤ 24)) && (decide (d ≠ 20) || (decide (53 ≤ x.toInt) && decide (x.toInt ≤ 68)))
def dsy (p : Int → Int32) (d x : Int32) : Int32 := if d = 21 then 1 + p x.toInt else if d = 0 then 9 + p (1099511627776 + x.toInt) else if dvd d x = true then dsz d x else dsz d x + p 2199023255552
def dsum (p : Int → Int32) (f g : Nat → Int32) : Nat → Int32
  | 0 => 0
  | n + 1 => dsum p f g n + dsy p (f n) (g n)
def csum (p : Int → Int32) (O : List Nat) (f : Nat → Int32) : Nat → Int32
  | 0 => 0
  | n + 1 => csum p O f n + (if n ∈ O then 0 else (if f n = 0 then 0 else 1) - p (n : Int))
def dhas (p : Int32 → Bool) (f g : Nat → Int32) : Nat → Bool
  | 0 => false
  | n + 1 => dhas p f g n || (decide (f n = 20) && p (g n))
def cas (O : List Nat) (f g h : Nat → Int32) (n : Nat) : CA := (List.range n).map (fun c => (f c, g c, if c ∈ O then 0 else h c))
def ovC (v : MS) : Bool := decide ((501 : Int) ≤ (v.1 0 321).toInt)
def nD (v : MS) : Nat := (v.1 0 381).toNatClampNeg
def nC (v : MS) : Nat := (v.1 0 321).toNatClampNeg
def isT (x : Int32) : Bool := decide (x = 55)
def isD (x : Int32) : Bool := decide (x = 56 ∨ x = 57)
def wdC (G : GH) (v : MS) : Int32 := if ovC v = true then 0 else G.2.2.2.1.1 + dsum G.2.2.2.1.2 (v.1 378) (v.1 379) (nD v) + csum G.2.2.2.1.2 G.2.2.2.2 (v.1 320) (nC v)
def caC (G : GH) (v : MS) : CA := if ovC v = true then [] else cas G.2.2.2.2 (v.1 318) (v.1 319) (v.1 320) (nC v)
def aC (G : GH) (v : MS) : PS := mkP (v.1 0 305) (v.1 0 306) (decide (v.1 0 307 = v.1 0 305)) (v.1 0 313) (v.1 0 314) (if v.1 0 307 = v.1 0 305 then 0 else v.1 0 315) (G.1 || dhas isT (v.1 378) (v.1 379) (nD v)) (G.2.1 || dhas isD (v.1 378) (v.1 379) (nD v)) G.2.2.1 (ovC v) (wdC G v) (v.1 0 312) (lst (v.1 311) (v.1 0 312)) (caC G v)
def gls (L2 : List Nat) (v : MS) : List (Int32 × Int32) := (List.range (v.1 0 377).toNatClampNeg).map (fun g => (v.1 (5000 + rowA L2 g) 4, v.1 (5000 + rowA L2 g) 2))
def eC (L2 : List Nat) (v : MS) : PE := (fun i => if i.toInt < (v.1 0 304).toInt then v.1 301 i.toNatClampNeg else 0, fun i => if i.toInt < (v.1 0 304).toInt then v.1 303 i.toNatClampNeg else 0, fun i => if i.toInt < (v.1 0 304).toInt then v.1 302 i.toNatClampNeg else v.1 0 373, gls L2 v)
theorem eC_of {L2 : List Nat} {v u : MS} (h1 : u.1 301 = v.1 301) (h2 : u.1 302 = v.1 302) (h3 : u.1 303 = v.1 303) (h4 : u.1 0 304 = v.1 0 304) (h5 : u.1 0 373 = v.1 0 373) (h6 : u.1 0 377 = v.1 0 377) (h : RS v u) : eC L2 u = eC L2 v := by
  unfold eC gls
  rw [h1, h2, h3, h4, h5, h6]
  simp only [Prod.mk.injEq, true_and]
  refine List.map_congr_left (fun g _ => ?_)
  rw [h.1 (5000 + rowA L2 g) (by omega)]
/-- what stands there, what is due lies at the token or before it -/
def JC (L2 : List Nat) (e : PE) (v : MS) : Prop := eC L2 v = e ∧ (v.1 0 307).toInt ≤ (v.1 0 305).toInt ∧ (0 ≤ (v.1 0 377).toInt ∧ (v.1 0 377).toInt ≤ 60)
theorem JC.fr {L2 : List Nat} {e : PE} {v u : MS} {fl al : List Nat} (J : JC L2 e v) (f : FC fl al v u) (r : RS v u) (h1 : 301 ∉ al ∧ 302 ∉ al ∧ 303 ∉ al) (h2 : 304 ∉ fl ∧ 373 ∉ fl ∧ 377 ∉ fl) (h3 : (u.1 0 307).toInt ≤ (u.1 0 305).toInt) : JC L2 e u :=
  ⟨(eC_of (f.2.2 301 ⟨by decide, h1.1⟩) (f.2.2 302 ⟨by decide, h1.2.1⟩) (f.2.2 303 ⟨by decide, h1.2.2⟩) (f.2.1 304 h2.1) (f.2.1 373 h2.2.1) (f.2.1 377 h2.2.2) r).trans J.1, h3, by rw [f.2.1 377 h2.2.2]; exact J.2.2⟩
/-- signs that wait and numbers of arguments are kept -/
def KP (v u : MS) : Prop := u.1 0 326 = v.1 0 326 ∧ (∀ j : Nat, (j : Int) < (v.1 0 326).toInt → u.1 324 j = v.1 324 j ∧ u.1 325 j = v.1 325 j) ∧ (v.1 0 321).toInt ≤ (u.1 0 321).toInt ∧ ∀ c : Nat, c < 500 → (c : Int) < (v.1 0 321).toInt → u.1 320 c = v.1 320 c
theorem KP.rf {v : MS} : KP v v := ⟨rfl, fun _ _ => ⟨rfl, rfl⟩, Int.le_refl _, fun _ _ _ => rfl⟩
theorem KP.tr {v u x : MS} (a : KP v u) (b : KP u x) : KP v x :=
  ⟨b.1.trans a.1, fun j h => ⟨((b.2.1 j (by rw [a.1]; exact h)).1).trans (a.2.1 j h).1, ((b.2.1 j (by rw [a.1]; exact h)).2).trans (a.2.1 j h).2⟩, Int.le_trans a.2.2.1 b.2.2.1, fun c h1 h2 => (b.2.2.2 c h1 (Int.lt_of_lt_of_le h2 a.2.2.1)).trans (a.2.2.2 c h1 h2)⟩
theorem KP.of {v u : MS} (h1 : u.1 0 326 = v.1 0 326) (h2 : u.1 324 = v.1 324) (h3 : u.1 325 = v.1 325) (h4 : u.1 0 321 = v.1 0 321) (h5 : u.1 320 = v.1 320) : KP v u :=
  ⟨h1, fun j _ => ⟨congrFun h2 j, congrFun h3 j⟩, by rw [h4]; exact Int.le_refl _, fun c _ _ => congrFun h5 c⟩
theorem KP.fr {v u : MS} {fl al : List Nat} (f : FC fl al v u) (h1 : 326 ∉ fl ∧ 321 ∉ fl) (h2 : 324 ∉ al ∧ 325 ∉ al ∧ 320 ∉ al) : KP v u :=
  KP.of (f.2.1 326 h1.1) (f.2.2 324 ⟨by decide, h2.1⟩) (f.2.2 325 ⟨by decide, h2.2.1⟩) (f.2.1 321 h1.2) (f.2.2 320 ⟨by decide, h2.2.2⟩)
/-- a step of the class is a step of the reading -/
def OKC (G : GH) (L2 : List Nat) (e : PE) (f : PS → PX PS) (v : MS) (t : Bool) (u : MS) : Prop := (t = false ∧ f (aC G v) = .ok (aC G u) ∧ JC L2 e u ∧ KP v u) ∨ (t = true ∧ f (aC G v) = .error (u.1 0 308, u.1 0 309))
def OKB (G : GH) (L2 : List Nat) (e : PE) (f : PS → PX (Bool × PS)) (v : MS) (t : Bool) (r : Int32) (u : MS) : Prop := (t = false ∧ f (aC G v) = .ok (decide (r.toInt ≠ 0), aC G u) ∧ JC L2 e u ∧ KP v u) ∨ (t = true ∧ f (aC G v) = .error (u.1 0 308, u.1 0 309))
section OKS
variable {G : GH} {L2 : List Nat} {e : PE} {f g : PS → PX PS} {v u x : MS} {t : Bool} {r : Int32}
theorem OKC.bx (h : OKC G L2 e f v true u) : OKC G L2 e (fun s => bd (f s) g) v true u := by
  rcases h with ⟨h, _⟩ | ⟨_, h⟩
  · cases h
  · exact Or.inr ⟨rfl, by simp only [h, bd_er]⟩
theorem OKC.bo (h : OKC G L2 e f v false u) (k : OKC G L2 e g u t x) : OKC G L2 e (fun s => bd (f s) g) v t x := by
  rcases h with ⟨_, h, _, p⟩ | ⟨h, _⟩
  · rcases k with ⟨k0, k, j, q⟩ | ⟨k0, k⟩
    · exact Or.inl ⟨k0, by simp only [h, bd_ok]; exact k, j, p.tr q⟩
    · exact Or.inr ⟨k0, by simp only [h, bd_ok]; exact k⟩
  · cases h
theorem OKC.cg {f' : PS → PX PS} (h : f (aC G v) = f' (aC G v)) (k : OKC G L2 e f' v t u) : OKC G L2 e f v t u := by
  unfold OKC at k ⊢
  rw [h]
  exact k
theorem OKC.st {q : PS → PS} (ha : aC G u = q (aC G v)) (hk : KP v u) (k : OKC G L2 e f u t x) : OKC G L2 e (fun s => f (q s)) v t x := by
  rcases k with ⟨k0, k, j, p⟩ | ⟨k0, k⟩
  · exact Or.inl ⟨k0, by simp only [← ha]; exact k, j, hk.tr p⟩
  · exact Or.inr ⟨k0, by simp only [← ha]; exact k⟩
theorem OKC.rt {q : PS → PS} (ha : aC G u = q (aC G v)) (hk : KP v u) (j : JC L2 e u) : OKC G L2 e (fun s => .ok (q s)) v false u := Or.inl ⟨rfl, by simp only [ha], j, hk⟩
theorem OKC.id (j : JC L2 e v) : OKC G L2 e (fun s => .ok s) v false v := Or.inl ⟨rfl, rfl, j, KP.rf⟩
theorem OKC.jj (h : OKC G L2 e f v false u) : JC L2 e u := by
  rcases h with h | ⟨h, _⟩
  · exact h.2.2.1
  · cases h
theorem OKC.kk (h : OKC G L2 e f v false u) : KP v u := by
  rcases h with h | ⟨h, _⟩
  · exact h.2.2.2
  · cases h
theorem OKC.eo (h : OKC G L2 e f v false u) : f (aC G v) = .ok (aC G u) := by
  rcases h with h | ⟨h, _⟩
  · exact h.2.1
  · cases h
theorem OKC.ex (h : OKC G L2 e f v true u) : f (aC G v) = .error (u.1 0 308, u.1 0 309) := by
  rcases h with ⟨h, _⟩ | h
  · cases h
  · exact h.2
end OKS
