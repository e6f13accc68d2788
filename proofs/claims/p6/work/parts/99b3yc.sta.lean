/-! both meanings side by side: one state -/
/-- what both count and hold; ng: how many numbers of globals -/
def CNT (ng ka : Int) (v w : MS) : Prop := (v.1 0 368 = w.1 0 113 ∧ v.1 0 369 = w.1 0 116 ∧ v.1 0 370 = w.1 0 119 ∧ v.1 0 371 = w.1 0 120) ∧ (0 ≤ (w.1 0 119).toInt ∧ (w.1 0 119).toInt ≤ ka ∧ 0 ≤ (w.1 0 120).toInt ∧ (w.1 0 120).toInt ≤ ka) ∧ (∀ j : Nat, (j : Int) < ng → v.1 359 j = w.1 117 j) ∧ (∀ j : Nat, (j : Int) < (w.1 0 119).toInt → j < 200 → v.1 360 j = w.1 118 j)
def STA (g : GC) (N : Nat) (ng lim ka : Int) (v w : MS) (f k B b : Nat) (p : Int) (s : ST3) : Prop :=
  (v.1 0 362 = -1 ∧ w.1 0 121 = -1) ∧ ((v.1 0 365).toInt = B ∧ (v.1 0 366).toInt = (B : Int) + 2 + zMm g f) ∧ ((w.1 0 111).toInt = b ∧ (w.1 0 110).toInt = (k : Int) + 1) ∧ (4 * ((B : Int) + 2 + zMm g f) + 8 ≤ 4 * (N : Int) - lim ∧ b ≤ 2 * B ∧ 2 * k ≤ B) ∧ (w.1 0 115).toInt = 4 * ((B : Int) + 2 + zMm g f) ∧ SKf g (v.1 358) (w.1 105) (w.1 107) (w.1 108) (w.1 109) k f B b p ∧ COR (v.1 358) (w.1 105) (v.1 0 363) B b (zMm g f) (zLo g f) s (w.1 0 106).toInt ∧ CNT ng ka v w
/-- the frame's registers are as they were -/
def CSm (v u : MS) : Prop := u.1 0 362 = v.1 0 362 ∧ u.1 0 365 = v.1 0 365 ∧ u.1 0 366 = v.1 0 366
def MSm (w y : MS) : Prop := y.1 0 121 = w.1 0 121 ∧ y.1 0 111 = w.1 0 111 ∧ y.1 0 110 = w.1 0 110 ∧ y.1 0 115 = w.1 0 115 ∧ y.1 107 = w.1 107 ∧ y.1 108 = w.1 108 ∧ y.1 109 = w.1 109
section YCS
variable {g : GC} {N : Nat} {ng lim ka ka' : Int} {v w u y : MS} {f k B b kc pb hh sl : Nat} {p : Int} {s t : ST3} {x : Int32}
theorem CSm.rf : CSm v v := ⟨rfl, rfl, rfl⟩
theorem MSm.rf : MSm w w := ⟨rfl, rfl, rfl, rfl, rfl, rfl, rfl⟩
theorem CNT.up (h : CNT ng ka v w) (l : ka ≤ ka') : CNT ng ka' v w := ⟨h.1, ⟨h.2.1.1, by have := h.2.1.2.1; omega, h.2.1.2.2.1, by have := h.2.1.2.2.2; omega⟩, h.2.2⟩
/-- nothing counted -/
theorem CNT.sm (h : CNT ng ka v w) (l : ka ≤ ka') (c : u.1 0 368 = v.1 0 368 ∧ u.1 0 369 = v.1 0 369 ∧ u.1 0 370 = v.1 0 370 ∧ u.1 0 371 = v.1 0 371 ∧ u.1 359 = v.1 359 ∧ u.1 360 = v.1 360) (m : y.1 0 113 = w.1 0 113 ∧ y.1 0 116 = w.1 0 116 ∧ y.1 0 119 = w.1 0 119 ∧ y.1 0 120 = w.1 0 120 ∧ y.1 117 = w.1 117 ∧ y.1 118 = w.1 118) : CNT ng ka' u y := by
  obtain ⟨c1, c2, c3, c4, c5, c6⟩ := c
  obtain ⟨m1, m2, m3, m4, m5, m6⟩ := m
  unfold CNT
  rw [c1, c2, c3, c4, c5, c6, m1, m2, m3, m4, m5, m6]
  exact h.up l
theorem STA.go (h : STA g N ng lim ka v w f k B b p s) (c : CSm v u) (m : MSm w y) (hF : ∀ j, j < B + 2 → u.1 358 j = v.1 358 j) (hP : ∀ j, j < b → y.1 105 j = w.1 105 j) (r : COR (u.1 358) (y.1 105) (u.1 0 363) B b (zMm g f) (zLo g f) t (y.1 0 106).toInt) (n : CNT ng ka' u y) : STA g N ng lim ka' u y f k B b p t := by
  obtain ⟨⟨h1, h1'⟩, h2, h3, h4, h5, h6, h7, h8⟩ := h
  obtain ⟨c1, c2, c3⟩ := c
  obtain ⟨m1, m2, m3, m4, m5, m6, m7⟩ := m
  refine ⟨⟨c1.trans h1, m1.trans h1'⟩, by rw [c2, c3]; exact h2, by rw [m2, m3]; exact h3, h4, by rw [m4]; exact h5, ?_, r, n⟩
  rw [m5, m6, m7]
  exact SKf.keep k f B b p h6 hF hP (fun j _ => ⟨rfl, rfl, rfl⟩)
theorem STA.le (h : STA g N ng lim ka v w f k B b p s) (l : le3 s t) : STA g N ng lim ka v w f k B b p t := by
  obtain ⟨h1, h2, h3, h4, h5, h6, h7, h8⟩ := h
  exact ⟨h1, h2, h3, h4, h5, h6, h7.le l, h8⟩
theorem STA.cor (h : STA g N ng lim ka v w f k B b p s) : COR (v.1 358) (w.1 105) (v.1 0 363) B b (zMm g f) (zLo g f) s (w.1 0 106).toInt := h.2.2.2.2.2.2.1
theorem STA.cnt (h : STA g N ng lim ka v w f k B b p s) : CNT ng ka v w := h.2.2.2.2.2.2.2
/-- where the pile ends -/
theorem STA.pi1 (h : STA g N ng lim ka v w f k B b p (kc, pb, 1)) : (w.1 0 106).toInt = (b : Int) + zLo g f + pb + 1 ∧ (w.1 0 106 - 1).toInt = (w.1 0 106).toInt - 1 ∧ (w.1 0 106 - 1).toNatClampNeg = b + (zLo g f + pb) ∧ v.1 0 363 = w.1 105 (b + (zLo g f + pb)) := by
  obtain ⟨c1, c2⟩ := h.cor.hd
  have e : (w.1 0 106 - 1).toInt = (w.1 0 106).toInt - 1 := sub_z rfl (by decide) (by omega) (by have := Int32.toInt_lt (w.1 0 106); omega)
  exact ⟨c1, e, natC (by omega), c2⟩
theorem STA.pi0 (h : STA g N ng lim ka v w f k B b p (kc, pb, hh)) (h1 : hh ≠ 1) : (w.1 0 106).toInt = (b : Int) + zLo g f + pb ∧ (w.1 0 106).toNatClampNeg = b + (zLo g f + pb) := by
  have c := h.cor.2.2.2.1
  have c : (w.1 0 106).toInt = (b : Int) + zLo g f + pb + (if hh = 1 then 1 else 0) := c
  rw [if_neg h1] at c
  exact ⟨by omega, natC (by omega)⟩
theorem STA.push (h : STA g N ng lim ka v w f k B b p (kc, pb, hh)) (h1 : hh ≠ 1) (b8 : (w.1 0 106).toInt ≤ 8192) (c : CSm v u) (m : MSm w y) (eF : u.1 358 = v.1 358) (eP : y.1 105 = upd (w.1 105) (w.1 0 106).toNatClampNeg x) (eh : u.1 0 363 = x) (ep : y.1 0 106 = w.1 0 106 + 1) (n : CNT ng ka' u y) : STA g N ng lim ka' u y f k B b p (kc, pb, 1) := by
  obtain ⟨p1, p2⟩ := h.pi0 h1
  have e : (w.1 0 106 + 1).toInt = (w.1 0 106).toInt + 1 := add_z rfl (by decide) (by omega) (by omega)
  refine h.go c m (fun j _ => by rw [eF]) (fun j hj => ?_) ?_ n
  · rw [eP, p2, updN_ (by omega)]
  · rw [eF, eP, p2, eh, ep, e]
    exact h.cor.push h1 rfl
theorem STA.top (h : STA g N ng lim ka v w f k B b p (kc, pb, 1)) (c : CSm v u) (m : MSm w y) (eF : u.1 358 = v.1 358) (eP : y.1 105 = upd (w.1 105) (w.1 0 106 - 1).toNatClampNeg x) (eh : u.1 0 363 = x) (ep : y.1 0 106 = w.1 0 106 - 1 + 1) (n : CNT ng ka' u y) : STA g N ng lim ka' u y f k B b p (kc, pb, 1) := by
  obtain ⟨p1, p2, p3, p4⟩ := h.pi1
  refine h.go c m (fun j _ => by rw [eF]) (fun j hj => ?_) ?_ n
  · rw [eP, p3, updN_ (by omega)]
  · rw [eF, eP, p3, eh, ep, Int32.sub_add_cancel]
    exact h.cor.top
theorem STA.same (h : STA g N ng lim ka v w f k B b p s) (c : CSm v u) (m : MSm w y) (eF : u.1 358 = v.1 358) (eP : y.1 105 = w.1 105) (eh : u.1 0 363 = v.1 0 363) (ep : y.1 0 106 = w.1 0 106) (n : CNT ng ka' u y) : STA g N ng lim ka' u y f k B b p s := by
  refine h.go c m (fun j _ => by rw [eF]) (fun j hj => by rw [eP]) ?_ n
  rw [eF, eP, eh, ep]
  exact h.cor
theorem STA.pop (h : STA g N ng lim ka v w f k B b p (kc, pb, 1)) (c : CSm v u) (m : MSm w y) (eF : u.1 358 = v.1 358) (eP : y.1 105 = w.1 105) (ep : y.1 0 106 = w.1 0 106 - 1) (n : CNT ng ka' u y) : STA g N ng lim ka' u y f k B b p (kc, pb, 0) := by
  obtain ⟨p1, p2, p3, p4⟩ := h.pi1
  refine h.go c m (fun j _ => by rw [eF]) (fun j hj => by rw [eP]) ?_ n
  rw [eF, eP, ep]
  exact h.cor.pop p2
/-- slots are words of the frame -/
theorem STA.slot (h : STA g N ng lim ka v w f k B b p s) (l0 : 0 ≤ lim) (hs : sl < zMm g f) : B + 2 + sl < N := by
  have := h.2.2.2.1.1
  omega
theorem STA.by0 (h : STA g N ng lim ka v w f k B b p (kc, pb, 1)) (h2 : hh = 0 ∨ hh = 2) (hs : kc + pb < zMm g f) (c : CSm v u) (eF : u.1 358 = upd (v.1 358) (B + 2 + (kc + pb)) (v.1 0 363)) (eh : u.1 0 363 = v.1 0 363) (n : CNT ng ka' u w) : STA g N ng lim ka' u w f k B b p (kc, pb + 1, hh) := by
  refine h.go c MSm.rf (fun j hj => ?_) (fun j _ => rfl) ?_ n
  · rw [eF, updN_ (by omega)]
  · rw [eF, eh]
    exact h.cor.by0 h2 hs
theorem STA.set (h : STA g N ng lim ka v w f k B b p (kc, pb, 1)) (hs : sl < kc) (c : CSm v u) (m : MSm w y) (eF : u.1 358 = upd (v.1 358) (B + 2 + sl) (v.1 0 363)) (eP : y.1 105 = upd (w.1 105) (b + sl) (w.1 105 (w.1 0 106 - 1).toNatClampNeg)) (eh : u.1 0 363 = v.1 0 363) (ep : y.1 0 106 = w.1 0 106) (n : CNT ng ka' u y) : STA g N ng lim ka' u y f k B b p (kc, pb, 1) := by
  obtain ⟨p1, p2, p3, p4⟩ := h.pi1
  refine h.go c m (fun j hj => ?_) (fun j hj => ?_) ?_ n
  · rw [eF, updN_ (by omega)]
  · rw [eP, updN_ (by omega)]
  · rw [eF, eP, eh, ep, p3, ← p4]
    exact h.cor.set hs
theorem STA.new (h : STA g N ng lim ka v w f k B b p (kc, 0, 1)) (hl : kc < zLo g f) (hm : zLo g f ≤ zMm g f) (c : CSm v u) (m : MSm w y) (eF : u.1 358 = upd (v.1 358) (B + 2 + kc) (v.1 0 363)) (eP : y.1 105 = upd (w.1 105) (b + kc) (w.1 105 (w.1 0 106 - 1).toNatClampNeg)) (eh : u.1 0 363 = v.1 0 363) (ep : y.1 0 106 = w.1 0 106) (n : CNT ng ka' u y) : STA g N ng lim ka' u y f k B b p (kc + 1, 0, 1) := by
  obtain ⟨p1, p2, p3, p4⟩ := h.pi1
  refine h.go c m (fun j hj => ?_) (fun j hj => ?_) ?_ n
  · rw [eF, updN_ (by omega)]
  · rw [eP, updN_ (by omega)]
  · rw [eF, eP, eh, ep, p3, ← p4]
    exact h.cor.new hl hm
/-- two become one -/
theorem STA.two (h : STA g N ng lim ka v w f k B b p (kc, pb, 1)) (h1 : 1 ≤ pb) (c : CSm v u) (m : MSm w y) (eF : u.1 358 = v.1 358) (eP : y.1 105 = upd (w.1 105) (w.1 0 106 - 1 - 1).toNatClampNeg x) (eh : u.1 0 363 = x) (ep : y.1 0 106 = w.1 0 106 - 1 - 1 + 1) (n : CNT ng ka' u y) : STA g N ng lim ka' u y f k B b p (kc, pb - 1, 1) := by
  obtain ⟨p1, p2, p3, p4⟩ := h.pi1
  have e2 : (w.1 0 106 - 1 - 1).toInt = (w.1 0 106).toInt - 2 := (sub_z p2 (by decide) (by omega) (by have := Int32.toInt_lt (w.1 0 106); omega) : (w.1 0 106 - 1 - 1).toInt = (w.1 0 106).toInt - 1 - 1).trans (by omega)
  have n2 : (w.1 0 106 - 1 - 1).toNatClampNeg = b + (zLo g f + (pb - 1)) := natC (by omega)
  refine h.go c m (fun j _ => by rw [eF]) (fun j hj => ?_) ?_ n
  · rw [eP, n2, updN_ (by omega)]
  · rw [eF, eP, n2, eh, ep, Int32.sub_add_cancel]
    exact h.cor.two h1 p2
/-- the one below the top -/
theorem STA.snd (h : STA g N ng lim ka v w f k B b p (kc, pb, 1)) (h1 : 1 ≤ pb) : w.1 105 (w.1 0 106 - 1 - 1).toNatClampNeg = v.1 358 (B + 2 + (kc + (pb - 1))) ∧ (w.1 0 106 - 1 - 1).toInt = (w.1 0 106).toInt - 2 := by
  obtain ⟨p1, p2, p3, p4⟩ := h.pi1
  have e2 : (w.1 0 106 - 1 - 1).toInt = (w.1 0 106).toInt - 2 := (sub_z p2 (by decide) (by omega) (by have := Int32.toInt_lt (w.1 0 106); omega) : (w.1 0 106 - 1 - 1).toInt = (w.1 0 106).toInt - 1 - 1).trans (by omega)
  have n2 : (w.1 0 106 - 1 - 1).toNatClampNeg = b + (zLo g f + (pb - 1)) := natC (by omega)
  rw [n2]
  exact ⟨(h.cor.2.1 (pb - 1) (by show pb - 1 < pb; omega)).symm, e2⟩
end YCS
/-! slots and cells of the class -/
section YCC
variable {L1 L2 : List Nat} {N : Nat} {v u : MS} {pa pb r : Int32} {B sl : Nat}
theorem nIN (h : N ≤ 4096) : (nI N).toInt = (N : Int) := nI_Z (by omega)
theorem slA (hB : (v.1 0 365).toInt = B) (hs : pa.toInt = sl) (hN : N ≤ 4096) (hl : B + 2 + sl < N) (h : Q_x_X10_placeOfSlot L1 L2 v pa r) : r.toInt = ((B + 2 + sl : Nat) : Int) := by
  have h : r = v.1 0 365 + 2 + pa := h
  have e1 : (v.1 0 365 + 2).toInt = (B : Int) + 2 := add_z hB (by decide) (by omega) (by omega)
  rw [h]
  have : (v.1 0 365 + 2 + pa).toInt = (B : Int) + 2 + sl := add_z e1 hs (by omega) (by omega)
  omega
theorem fwR {n : Nat} (hN : N ≤ 4096) (hn : pa.toInt = n) (hl : n < N) (h : Q_x_X10_frameWord L1 L2 N v pa r) : r = v.1 358 n := by
  have e := nIN hN
  rcases h with ⟨c, -⟩ | ⟨-, ⟨c, -⟩ | ⟨-, h⟩⟩
  · omega
  · omega
  · rw [h, natC hn]
theorem fwW {n : Nat} (hN : N ≤ 4096) (hn : pa.toInt = n) (hl : n < N) (h : Q_x_X10_changeFrameWord L1 L2 N v pa pb u) : u = wA v 358 n pb := by
  have e := nIN hN
  rcases h with ⟨c, -⟩ | ⟨-, ⟨c, -⟩ | ⟨-, h⟩⟩
  · omega
  · omega
  · rw [h, natC hn]
theorem slR (hB : (v.1 0 365).toInt = B) (hs : pa.toInt = sl) (hN : N ≤ 4096) (hl : B + 2 + sl < N) (h : Q_x_X10_slotAt L1 L2 N v pa r) : r = v.1 358 (B + 2 + sl) := by
  obtain ⟨r3, h3, r6, h6, h⟩ := h
  rw [h]
  exact fwR hN (slA hB hs hN hl h3) hl h6
theorem slW (hB : (v.1 0 365).toInt = B) (hs : pa.toInt = sl) (hN : N ≤ 4096) (hl : B + 2 + sl < N) (h : Q_x_X10_changeSlot L1 L2 N v pa pb u) : u = wA v 358 (B + 2 + sl) pb := by
  obtain ⟨r3, h3, u5, h5, -, h⟩ := h
  rw [h]
  exact fwW hN (slA hB hs hN hl h3) hl h5
theorem ceR {n : Nat} (hN : N ≤ 4096) (hn : pa.toInt = n) (hl : n < N) (h : Q_x_X10_cellAt L1 L2 N v pa r) : r = v.1 359 n := by
  have e := nIN hN
  rcases h with ⟨c, -⟩ | ⟨-, ⟨c, -⟩ | ⟨-, h⟩⟩
  · omega
  · omega
  · rw [h, natC hn]
theorem ceW {n : Nat} (hN : N ≤ 4096) (hn : pa.toInt = n) (hl : n < N) (h : Q_x_X10_changeCell L1 L2 N v pa pb u) : u = wA v 359 n pb := by
  have e := nIN hN
  rcases h with ⟨c, -⟩ | ⟨-, ⟨c, -⟩ | ⟨-, h⟩⟩
  · omega
  · omega
  · rw [h, natC hn]
end YCC
