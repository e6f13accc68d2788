/-! the datum that class and reference have in common; snapshots of both -/
/-- the shown text, the tape's bytes, the last fault and its place, what is loaded, the numbers given, the class's state after the last load or work with its rows, the reference's -/
abbrev ZG : Type := List Int32 × (Nat → Int32) × (Int32 × Int32) × DT × (Nat → Int32) × (MS × List Nat × List Nat) × MS
def ZG.sx (z : ZG) : List Int32 := z.1
def ZG.tb (z : ZG) : Nat → Int32 := z.2.1
def ZG.fa (z : ZG) : Int32 := z.2.2.1.1
def ZG.fp (z : ZG) : Int32 := z.2.2.1.2
def ZG.dt (z : ZG) : DT := z.2.2.2.1
def ZG.gv (z : ZG) : Nat → Int32 := z.2.2.2.2.1
def ZG.cs (z : ZG) : MS × List Nat × List Nat := z.2.2.2.2.2.1
def ZG.ms (z : ZG) : MS := z.2.2.2.2.2.2
def ZG.sh (z : ZG) (t : List Int32) : ZG := (t, z.2)
def ZG.fd (z : ZG) (tz : Int) (a b c d e : Int32) : ZG := (z.1, if tz + 20 ≤ 4000 then fd5 z.tb tz.toNat a b c d e else z.tb, z.2.2)
def ZG.gi (z : ZG) (gz : Int) (pa : Int32) : ZG := (z.1, z.2.1, z.2.2.1, z.2.2.2.1, if gz < 64 then upd z.gv gz.toNat pa else z.gv, z.2.2.2.2.2)
def ZG.cw (z : ZG) (c : MS × List Nat × List Nat) (m : MS) : ZG := (z.1, z.2.1, z.2.2.1, z.2.2.2.1, z.2.2.2.2.1, c, m)
def ZG.ld (z : ZG) (fa fp : Int32) (d : DT) (c : MS × List Nat × List Nat) (m : MS) : ZG := (z.1, z.2.1, (fa, fp), d, z.2.2.2.2.1, c, m)
def ZG.bg (c : MS × List Nat × List Nat) (m : MS) : ZG := ([], fun _ => 0, (0, -1), d0, fun _ => 0, c, m)
def ldC (z : ZG) (tz : Int) (L1 L2 : List Nat) (u : MS) (r : Int32) (m : MS) : ZG := z.ld (u.1 0 396) (u.1 0 397) (if r.toInt = 0 then dC L1 L2 z.tb tz.toNat u else z.dt) (if r.toInt = 0 then (u, L1, L2) else z.cs) m
def ldM (z : ZG) (tz : Int) (u : MS) (r : Int32) (c : MS × List Nat × List Nat) : ZG := z.ld (u.1 0 91) (u.1 0 92) (if r.toInt = 0 then dM z.tb tz.toNat u else z.dt) c (if r.toInt = 0 then u else z.ms)
/-! a program is kept -/
def KPz (v u : MS) : Prop := (∀ k ∈ [375, 377, 381, 383, 384], u.1 0 k = v.1 0 k) ∧ (∀ a ∈ [378, 379, 380, 382], u.1 a = v.1 a) ∧ RS0 v u
def MPz (w u : MS) : Prop := (∀ k ∈ [73, 74, 75, 76, 77], u.1 0 k = w.1 0 k) ∧ ∀ a ∈ [70, 71, 72, 78, 79, 81, 82, 85, 86], u.1 a = w.1 a
/-- what the class keeps of its snapshot -/
def KAz (c : MS × List Nat × List Nat) (L1 L2 : List Nat) (v : MS) : Prop := (c.2.1 = L1 ∧ c.2.2 = L2) ∧ KPz c.1 v ∧ (∀ k ∈ [361, 362, 363, 368, 369, 370, 371], v.1 0 k = c.1.1 0 k) ∧ ∀ a ∈ [359, 360], v.1 a = c.1.1 a
def MAz (m v : MS) : Prop := MPz m v ∧ (∀ k ∈ [113, 116, 119, 120, 121, 122, 123], v.1 0 k = m.1 0 k) ∧ ∀ a ∈ [117, 118], v.1 a = m.1 a
def KEz (N : Nat) (gz : Int) (z : ZG) (L1 L2 : List Nat) (v : MS) : Prop := KAz z.cs L1 L2 v ∧ (v.1 0 357).toInt = 4 * (N : Int) ∧ ∀ j : Nat, (j : Int) < gz → v.1 343 j = z.gv j
def MEz (gz : Int) (z : ZG) (v : MS) : Prop := MAz z.ms v ∧ ∀ j : Nat, (j : Int) < gz → v.1 93 j = z.gv j
section ZAG
variable {N : Nat} {gz g2 tz : Int} {z : ZG} {L1 L2 L3 L4 : List Nat} {v u w x y : MS} {c : MS × List Nat × List Nat} {pa pb pc1 pd ps r r' : Int32}
theorem KPz.rf : KPz v v := ⟨fun _ _ => rfl, fun _ _ => rfl, fun _ _ => rfl⟩
theorem MPz.rf : MPz v v := ⟨fun _ _ => rfl, fun _ _ => rfl⟩
theorem KPz.tr (h : KPz v u) (k : KPz u w) : KPz v w := ⟨fun i hi => (k.1 i hi).trans (h.1 i hi), fun i hi => (k.2.1 i hi).trans (h.2.1 i hi), fun a ha => (k.2.2 a ha).trans (h.2.2 a ha)⟩
theorem MPz.tr (h : MPz v u) (k : MPz u w) : MPz v w := ⟨fun i hi => (k.1 i hi).trans (h.1 i hi), fun i hi => (k.2 i hi).trans (h.2 i hi)⟩
theorem KAz.rf : KAz (v, L1, L2) L1 L2 v := ⟨⟨rfl, rfl⟩, KPz.rf, fun _ _ => rfl, fun _ _ => rfl⟩
theorem MAz.rf : MAz v v := ⟨MPz.rf, fun _ _ => rfl, fun _ _ => rfl⟩
theorem KEz.fr (h : KEz N gz z L1 L2 v) (hg : g2 ≤ gz) (e : ∀ k ∈ [357, 361, 362, 363, 368, 369, 370, 371, 375, 377, 381, 383, 384], u.1 0 k = v.1 0 k) (e2 : ∀ a ∈ [343, 359, 360, 378, 379, 380, 382], u.1 a = v.1 a) (rs : RS0 v u) : KEz N g2 z L1 L2 u := by
  obtain ⟨⟨h1, h2, h3, h4⟩, h5, h6⟩ := h
  refine ⟨⟨h1, h2.tr ⟨fun k hk => e k (by revert k; decide), fun a ha => e2 a (by revert a; decide), rs⟩, fun k hk => (e k (by revert k; decide)).trans (h3 k hk), fun a ha => (e2 a (by revert a; decide)).trans (h4 a ha)⟩, ?_, fun j hj => ?_⟩
  · rw [e 357 (by decide)]
    exact h5
  · rw [e2 343 (by decide)]
    exact h6 j (by omega)
theorem MEz.fr (h : MEz gz z v) (hg : g2 ≤ gz) (e : ∀ k ∈ [73, 74, 75, 76, 77, 113, 116, 119, 120, 121, 122, 123], u.1 0 k = v.1 0 k) (e2 : ∀ a ∈ [70, 71, 72, 78, 79, 81, 82, 85, 86, 93, 117, 118], u.1 a = v.1 a) : MEz g2 z u := by
  obtain ⟨⟨h2, h3, h4⟩, h6⟩ := h
  refine ⟨⟨h2.tr ⟨fun k hk => e k (by revert k; decide), fun a ha => e2 a (by revert a; decide)⟩, fun k hk => (e k (by revert k; decide)).trans (h3 k hk), fun a ha => (e2 a (by revert a; decide)).trans (h4 a ha)⟩, fun j hj => ?_⟩
  rw [e2 93 (by decide)]
  exact h6 j (by omega)
/-- with another snapshot -/
theorem KEz.cw (h : KEz N gz z L1 L2 v) (h2 : KAz c L1 L2 u) (e : u.1 0 357 = v.1 0 357) (e2 : u.1 343 = v.1 343) {m : MS} : KEz N gz (z.cw c m) L1 L2 u := ⟨h2, by rw [e]; exact h.2.1, fun j hj => by rw [e2]; exact h.2.2 j hj⟩
theorem MEz.cw (h : MEz gz z v) (h2 : MAz x u) (e2 : u.1 93 = v.1 93) : MEz gz (z.cw c x) u := ⟨h2, fun j hj => by rw [e2]; exact h.2 j hj⟩
/-! a number given -/
theorem gi_at {gv f : Nat → Int32} {n : Nat} (h : ∀ j : Nat, (j : Int) < (n : Int) → f j = gv j) {j : Nat} (hj : (j : Int) < (n : Int) + 1) : upd f n pa j = upd gv n pa j := by
  by_cases e : j = n
  · rw [e, updS, updS]
  · rw [updN_ e, updN_ e]
    exact h j (by omega)
theorem ZG.gi_gv (h : gz < 64) : (z.gi gz pa).gv = upd z.gv gz.toNat pa := if_pos h
theorem ZG.gi_no (h : ¬ gz < 64) : (z.gi gz pa).gv = z.gv := if_neg h
end ZAG
