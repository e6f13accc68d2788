/-! the class: which words a deed gets -/
/-- words are written one behind the other -/
def EMc (N : Nat) (v u : MS) (ws : List Int32) : Prop := ((u.1 0 337).toInt = (v.1 0 337).toInt + ws.length ∧ 0 ≤ (v.1 0 337).toInt) ∧ ((v.1 0 338).toInt ≠ 0 → (v.1 0 337).toInt + ws.length ≤ N → (∀ (j : Nat) (x : Int32), ws[j]? = some x → u.1 382 ((v.1 0 337).toNatClampNeg + j) = x) ∧ ∀ j : Nat, j < (v.1 0 337).toNatClampNeg → u.1 382 j = v.1 382 j)
def EMs (N : Nat) (v u : MS) (ws : List Int32) : Prop := EMc N v u ws ∧ FC [337] [0, 382] v u ∧ RS0 v u
def iW (pa pb pc1 pd : Int32) : Int32 := (((pa ||| (pb <<< ((7 : Int32) &&& 31))) ||| (pc1 <<< ((15 : Int32) &&& 31))) ||| (pd <<< ((20 : Int32) &&& 31)))
def sW (pa pb pc1 : Int32) : Int32 := (((((8227 : Int32) ||| ((pb &&& (31 : Int32)) <<< ((7 : Int32) &&& 31))) ||| (pc1 <<< ((15 : Int32) &&& 31))) ||| (pa <<< ((20 : Int32) &&& 31))) ||| ((pb >>> ((5 : Int32) &&& 31)) <<< ((25 : Int32) &&& 31)))
def bW (pa pb pc1 pd : Int32) : Int32 := ((((((pa ||| (((pd >>> ((11 : Int32) &&& 31)) &&& (1 : Int32)) <<< ((7 : Int32) &&& 31))) ||| (((pd >>> ((1 : Int32) &&& 31)) &&& (15 : Int32)) <<< ((8 : Int32) &&& 31))) ||| (pb <<< ((15 : Int32) &&& 31))) ||| (pc1 <<< ((20 : Int32) &&& 31))) ||| (((pd >>> ((5 : Int32) &&& 31)) &&& (63 : Int32)) <<< ((25 : Int32) &&& 31))) ||| ((pd >>> ((12 : Int32) &&& 31)) <<< ((31 : Int32) &&& 31)))
def hiW (pa : Int32) : Int32 := (((pa + (2048 : Int32)).toUInt32 >>> ((12 : Int32).toUInt32 &&& Int32.toUInt32 31)).toInt32)
def loW (pa : Int32) : Int32 := pa - (hiW pa <<< ((12 : Int32) &&& 31))
def uW (pa pb : Int32) : Int32 := (((55 : Int32) ||| (pa <<< ((7 : Int32) &&& 31))) ||| (hiW pb <<< ((12 : Int32) &&& 31)))
def jW (pa n : Int32) : Int32 := ((((((111 : Int32) ||| (pa <<< ((7 : Int32) &&& 31))) ||| (((n >>> ((12 : Int32) &&& 31)) &&& (255 : Int32)) <<< ((12 : Int32) &&& 31))) ||| (((n >>> ((11 : Int32) &&& 31)) &&& (1 : Int32)) <<< ((20 : Int32) &&& 31))) ||| (((n >>> ((1 : Int32) &&& 31)) &&& (1023 : Int32)) <<< ((21 : Int32) &&& 31))) ||| ((n >>> ((20 : Int32) &&& 31)) <<< ((31 : Int32) &&& 31)))
def fW (k : Int32) : Int32 := (((-12) : Int32) - ((4 : Int32) * k))
section ZWA
variable {L1 L2 : List Nat} {N : Nat} {v u w x : MS} {pa pb pc1 pd r : Int32} {a b : List Int32}
theorem EMc.rf (h : 0 ≤ (v.1 0 337).toInt) : EMc N v v [] := ⟨⟨(Int.add_zero _).symm, h⟩, fun _ _ => ⟨fun j x q => by simp at q, fun _ _ => rfl⟩⟩
theorem EMc.tr (h : EMc N v u a) (e : u.1 0 338 = v.1 0 338) (k : EMc N u w b) : EMc N v w (a ++ b) := by
  obtain ⟨⟨h1, h2⟩, h3⟩ := h
  obtain ⟨⟨k1, k2⟩, k3⟩ := k
  have n1 := natI h2
  have n2 := natI k2
  refine ⟨⟨by rw [List.length_append]; omega, h2⟩, fun g1 g2 => ?_⟩
  rw [List.length_append] at g2
  obtain ⟨h4, h5⟩ := h3 g1 (by omega)
  obtain ⟨k4, k5⟩ := k3 (by rw [e]; exact g1) (by omega)
  refine ⟨fun j y q => ?_, fun j hj => ?_⟩
  · by_cases c : j < a.length
    · rw [List.getElem?_append_left c] at q
      rw [k5 _ (by omega)]
      exact h4 j y q
    · rw [List.getElem?_append_right (by omega)] at q
      have := k4 (j - a.length) y q
      rw [show (v.1 0 337).toNatClampNeg + j = (u.1 0 337).toNatClampNeg + (j - a.length) by omega]
      exact this
  · rw [k5 j (by omega)]
    exact h5 j hj
theorem FC.t2 {al fl : List Nat} (h : FC fl al v u) (k : FC fl al u w) : FC fl al v w := ⟨fun q => k.1 (h.1 q), fun i hi => (k.2.1 i hi).trans (h.2.1 i hi), fun i hi => (k.2.2 i hi).trans (h.2.2 i hi)⟩
theorem EMs.tr (h : EMs N v u a) (k : EMs N u w b) : EMs N v w (a ++ b) := ⟨h.1.tr (h.2.1.2.1 338 (by decide)) k.1, h.2.1.t2 k.2.1, fun i hi => (k.2.2 i hi).trans (h.2.2 i hi)⟩
theorem wEmit (hN : N ≤ 4096) (h : Q_x_X0_emit L1 L2 N v pa u) (k : K_x_X0_emit v pa u) : EMs N v u [pa] := by
  obtain ⟨k1, k2, k3⟩ := k
  obtain ⟨h0, h⟩ := h
  have n1 := natI h0.1
  refine ⟨⟨⟨k2, h0.1⟩, fun g1 g2 => ?_⟩, k1, k3.1⟩
  have g2 : (v.1 0 337).toInt + ((1 : Nat) : Int) ≤ N := g2
  have e : u.1 382 = upd (v.1 382) (v.1 0 337).toNatClampNeg pa := by
    rcases h with ⟨c, -⟩ | ⟨-, ⟨c, -⟩ | ⟨-, e⟩⟩
    · exact absurd c g1
    · rw [nI_Z (by omega)] at c
      omega
    · rw [e]
      rfl
  refine ⟨fun j y q => ?_, fun j hj => ?_⟩
  · match j, q with
    | 0, q =>
      rw [e, Nat.add_zero, updS]
      exact Option.some.inj q
    | j + 1, q => simp at q
  · rw [e, updN_ (by omega)]
theorem wImm (hN : N ≤ 4096) (h : Q_x_X0_immediate L1 L2 N v pa pb pc1 pd u) : EMs N v u [iW pa pb pc1 pd] := by
  obtain ⟨-, u2, h, k, e⟩ := h
  rw [e]
  exact wEmit hN h k
theorem wThr (hN : N ≤ 4096) (h : Q_x_X0_three L1 L2 N v pa pb pc1 pd u) : EMs N v u [iW pa pb pc1 pd] := by
  obtain ⟨-, u2, h, k, e⟩ := h
  rw [e]
  exact wEmit hN h k
theorem wSto (hN : N ≤ 4096) (h : Q_x_X0_storeWord L1 L2 N v pa pb pc1 u) : EMs N v u [sW pa pb pc1] := by
  obtain ⟨-, u2, h, k, e⟩ := h
  rw [e]
  exact wEmit hN h k
theorem wBra (hN : N ≤ 4096) (h : Q_x_X0_branch L1 L2 N v pa pb pc1 pd u) : EMs N v u [bW pa pb pc1 pd] := by
  obtain ⟨-, u2, h, k, e⟩ := h
  rw [e]
  exact wEmit hN h k
theorem wUpp (hN : N ≤ 4096) (h : Q_x_X0_upper L1 L2 N v pa pb u) : EMs N v u [uW pa pb] := by
  obtain ⟨-, r3, h3, u2, h, k, e⟩ := h
  have h3 : r3 = hiW pb := h3
  rw [h3] at h k
  rw [e]
  exact wEmit hN h k
theorem wJmp (hN : N ≤ 4096) (h : Q_x_X0_jump L1 L2 N v pa pb u) : EMs N v u [jW pa (pb - (4 : Int32) * v.1 0 337)] := by
  obtain ⟨-, u2, h, k, e⟩ := h
  rw [e]
  exact wEmit hN h k
theorem wLow (h : Q_x_X0_low pa r) : r = loW pa := by
  obtain ⟨r3, h3, e⟩ := h
  have h3 : r3 = hiW pa := h3
  rw [e, h3]
  rfl
theorem wHalt (hN : N ≤ 4096) (h : Q_x_X0_halt L1 L2 N v pa u) : EMs N v u [iW 19 17 0 pa, 1048691] := by
  obtain ⟨-, u2, h, -, u5, h5, k5, e⟩ := h
  rw [e]
  exact (wImm hN h).tr (wEmit hN h5 k5)
theorem wOut (hN : N ≤ 4096) (h : Q_x_X0_outside L1 L2 N v pa u) : EMs N v u [iW 19 17 0 pa, 115] := by
  obtain ⟨-, u2, h, -, u5, h5, k5, e⟩ := h
  rw [e]
  exact (wImm hN h).tr (wEmit hN h5 k5)
theorem wLSl (hN : N ≤ 4096) (h : Q_x_X0_loadSlot L1 L2 N v pa pb u) : EMs N v u [iW 8195 pa 8 (fW pb)] := by
  obtain ⟨-, r3, h3, u5, h, -, e⟩ := h
  have h3 : r3 = fW pb := h3
  rw [e, ← h3]
  exact wImm hN h
theorem wSSl (hN : N ≤ 4096) (h : Q_x_X0_storeSlot L1 L2 N v pa u) : EMs N v u [sW 10 (fW pa) 8] := by
  obtain ⟨-, r3, h3, u5, h, -, e⟩ := h
  have h3 : r3 = fW pa := h3
  rw [e, ← h3]
  exact wSto hN h
theorem wLeave (hN : N ≤ 4096) (h : Q_x_X0_layLeave L1 L2 N v u) : EMs N v u [iW 8195 1 8 (-4), iW 19 2 8 0, iW 8195 8 8 (-8), iW 103 0 1 0] := by
  obtain ⟨-, u2, h2, -, u5, h5, -, u8, h8, -, u11, h11, -, e⟩ := h
  rw [e]
  exact (wImm hN h2).tr ((wImm hN h5).tr ((wImm hN h8).tr (wImm hN h11)))
def nuW (pa : Int32) : List Int32 := if -2048 ≤ pa.toInt ∧ pa.toInt ≤ 2047 then [iW 19 10 0 pa] else [uW 10 pa, iW 19 10 10 (loW pa)]
theorem wNum (hN : N ≤ 4096) (h : Q_x_X0_layNumber L1 L2 N v pa u) : EMs N v u (nuW pa) := by
  obtain ⟨-, h⟩ := h
  unfold nuW
  rcases h with ⟨a, u4, h4, -, r8, h8, u10, h10, -, e⟩ | ⟨a, ⟨b, u4, h4, -, r8, h8, u10, h10, -, e⟩ | ⟨b, u26, h26, -, e⟩⟩
  · rw [if_neg (by omega), e, ← wLow h8]
    exact (wUpp hN h4).tr (wImm hN h10)
  · rw [if_neg (by omega), e, ← wLow h8]
    exact (wUpp hN h4).tr (wImm hN h10)
  · rw [if_pos ⟨a, b⟩, e]
    exact wImm hN h26
def inW (n ad : Int32) : List Int32 := [uW 6 n, iW 19 6 6 (loW n), bW 24675 10 6 12, iW 19 17 0 3, 1048691, iW 4115 10 10 2, uW 6 ad, iW 51 10 10 6]
theorem wIndex (hN : N ≤ 4096) (h : Q_x_X0_layIndex L1 L2 N v pa pb u) : EMs N v u (inW pa pb) := by
  obtain ⟨-, u2, h2, -, r6, h6, u8, h8, -, u11, h11, -, u14, h14, -, u17, h17, k17, u20, h20, -, u23, h23, -, u26, h26, -, e⟩ := h
  rw [wLow h6] at h8
  rw [e]
  exact (wUpp hN h2).tr ((wImm hN h8).tr ((wBra hN h11).tr ((wImm hN h14).tr ((wEmit hN h17 k17).tr ((wImm hN h20).tr ((wUpp hN h23).tr (wThr hN h26)))))))
end ZWA
