/-! the class: which words a deed gets, II (written by gzb.py) -/
def EMt (N : Nat) (v u : MS) (ws : List Int32) : Prop := EMc N v u ws ∧ FC [337, 339, 340] [0, 382] v u ∧ RS0 v u
/-- a function's fact, a global's, a deed's address -/
def fF (L1 : List Nat) (v : MS) (f : Int32) (k : Nat) : Int32 := if 0 ≤ f.toInt ∧ f.toInt < (v.1 0 375).toInt ∧ f.toInt < 40 then rF L1 v f.toNatClampNeg k else -1
def gF (L2 : List Nat) (v : MS) (g : Int32) (k : Nat) : Int32 := if 0 ≤ g.toInt ∧ g.toInt < (v.1 0 377).toInt ∧ g.toInt < 60 then rF L2 v g.toNatClampNeg k else -1
def adW (f : Nat → Int32) (pb : Int32) : Int32 := if 0 ≤ pb.toInt ∧ pb.toInt < 3009 then f pb.toNatClampNeg else 0
def jpW (pa t n : Int32) : List Int32 := if pa.toInt = 16 then [bW 4195 10 0 8, jW 0 (t - (4 : Int32) * (n + 1))] else if pa.toInt = 17 then [bW 99 10 0 8, jW 0 (t - (4 : Int32) * (n + 1))] else if pa.toInt = 18 then [bW 99 10 0 12, iW 19 10 0 1, jW 0 (t - (4 : Int32) * (n + 2))] else [jW 0 (t - (4 : Int32) * n)]
def caW (p0 a1 y n : Int32) : List Int32 := if p0.toInt ≤ 0 then [jW 1 (a1 - (4 : Int32) * n)] else [iW 19 5 8 (fW y), jW 1 (a1 - (4 : Int32) * (n + 1))]
section ZWB
variable {L1 L2 : List Nat} {N : Nat} {v u w x : MS} {pa pb pc1 pd r : Int32} {a b : List Int32} {k : Nat}
theorem EMs.t (h : EMs N v u a) : EMt N v u a := ⟨h.1, ⟨h.2.1.1, fun i hi => h.2.1.2.1 i (fun q => hi (by simp only [List.mem_cons, List.not_mem_nil, or_false] at q ⊢; exact Or.inl q)), h.2.1.2.2⟩, h.2.2⟩
theorem EMt.tr (h : EMt N v u a) (k : EMt N u w b) : EMt N v w (a ++ b) := ⟨h.1.tr (h.2.1.2.1 338 (by decide)) k.1, h.2.1.t2 k.2.1, fun i hi => (k.2.2 i hi).trans (h.2.2 i hi)⟩
theorem EMs.n1 {y : Int32} (h : EMs N v u [y]) : u.1 0 337 = v.1 0 337 + 1 := i32_of h.1.1.1 (show (1 : Int32).toInt = ((1 : Nat) : Int) by decide)
theorem EMs.n2 {y z : Int32} (h : EMs N v u [y, z]) : u.1 0 337 = v.1 0 337 + 2 := i32_of h.1.1.1 (show (2 : Int32).toInt = ((2 : Nat) : Int) by decide)
theorem wFF (h0 : 0 ≤ pb.toInt ∧ pb.toInt < 6) (hk : pb.toNatClampNeg = k) (h : Q_x_X7_functionFact L1 L2 v pa pb r) : r = fF L1 v pa k := by
  unfold fF
  rcases h with ⟨c, e⟩ | ⟨c, ⟨c1, e⟩ | ⟨c1, ⟨c2, ⟨c3, e⟩ | ⟨c3, ⟨c4, e⟩ | ⟨c4, e⟩⟩⟩ | ⟨c2, e⟩⟩⟩
  · rw [e, if_neg (by omega)]
  · rw [e, if_neg (by omega)]
  · omega
  · omega
  · rw [e, if_pos ⟨c, c1, c2⟩, hk]
    rfl
  · rw [e, if_neg (by omega)]
theorem wGF (h0 : 0 ≤ pb.toInt ∧ pb.toInt < 5) (hk : pb.toNatClampNeg = k) (h : Q_x_X7_globalFact L1 L2 v pa pb r) : r = gF L2 v pa k := by
  unfold gF
  rcases h with ⟨c, e⟩ | ⟨c, ⟨c1, e⟩ | ⟨c1, ⟨c2, ⟨c3, e⟩ | ⟨c3, ⟨c4, e⟩ | ⟨c4, e⟩⟩⟩ | ⟨c2, e⟩⟩⟩
  · rw [e, if_neg (by omega)]
  · rw [e, if_neg (by omega)]
  · omega
  · omega
  · rw [e, if_pos ⟨c, c1, c2⟩, hk]
    rfl
  · rw [e, if_neg (by omega)]
theorem fF_fr (h5 : u.1 0 375 = v.1 0 375) (hr : RS0 v u) : fF L1 u pa k = fF L1 v pa k := by
  unfold fF rF
  rw [h5, hr _ (by omega)]
theorem wADe (h : Q_x_X0_addressOfDeed L1 L2 v pa r) : r = adW (v.1 336) pa := by
  unfold adW
  rcases h with ⟨c, e⟩ | ⟨c, ⟨c1, e⟩ | ⟨c1, e⟩⟩
  · rw [e, if_neg (by omega)]
  · rw [e, if_neg (by omega)]
  · rw [e, if_pos ⟨c, c1⟩]
theorem wJump (hN : N ≤ 4096) (h : Q_x_X0_layJump L1 L2 N v pa pb u) : EMs N v u (jpW pa (adW (v.1 336) pb) (v.1 0 337)) := by
  obtain ⟨-, h⟩ := h
  unfold jpW
  rcases h with ⟨a, ⟨b, ⟨c, r9, h9, u11, h11, -, e⟩ | ⟨c, u15, h15, -, u18, h18, -, r22, h22, u24, h24, -, e⟩⟩ | ⟨b, u28, h28, -, r32, h32, u34, h34, -, e⟩⟩ | ⟨a, u38, h38, -, r42, h42, u44, h44, -, e⟩
  · rw [if_neg a, if_neg b, if_neg c, e, ← wADe h9]
    exact wJmp hN h11
  · have E := (wBra hN h15).tr (wImm hN h18)
    have n := E.n2
    rw [if_neg (by omega), if_neg (by omega), if_pos c, e, ← n]
    have z := wADe h22
    rw [E.2.1.2.2 336 (by decide)] at z
    rw [← z]
    exact E.tr (wJmp hN h24)
  · have E := wBra hN h28
    rw [if_neg (by omega), if_pos b, e, ← E.n1]
    have z := wADe h32
    rw [E.2.1.2.2 336 (by decide)] at z
    rw [← z]
    exact E.tr (wJmp hN h34)
  · have E := wBra hN h38
    rw [if_pos a, e, ← E.n1]
    have z := wADe h42
    rw [E.2.1.2.2 336 (by decide)] at z
    rw [← z]
    exact E.tr (wJmp hN h44)
theorem wCall (hN : N ≤ 4096) (h : Q_x_X0_layCall L1 L2 N v pa pb u) : EMs N v u (caW (fF L1 v pa 0) (fF L1 v pa 1) pb (v.1 0 337)) := by
  obtain ⟨-, r3, h3, -, h⟩ := h
  have e3 := wFF (k := 0) (by decide) (by decide) h3
  unfold caW
  rw [← e3]
  rcases h with ⟨c, r8, h8, -, u10, h10, -, e⟩ | ⟨c, r15, h15, u17, h17, -, r21, h21, -, u23, h23, -, e⟩
  · rw [if_pos c, e, ← wFF (k := 1) (by decide) (by decide) h8]
    exact wJmp hN h10
  · have h15 : r15 = fW pb := h15
    have E := wImm hN h17
    have z := wFF (k := 1) (by decide) (by decide) h21
    rw [fF_fr (E.2.1.2.1 375 (by decide)) E.2.2] at z
    rw [if_neg (by omega), e, ← E.n1, ← h15, ← z]
    exact E.tr (wJmp hN h23)
def cmW (s : Int32) : List Int32 := if s = 63 then [iW 1073741875 10 5 10, iW 12307 10 10 1] else if s = 64 then [iW 1073741875 10 5 10, iW 12339 10 0 10] else if s = 65 then [iW 8243 10 5 10] else if s = 66 then [iW 8243 10 10 5, iW 16403 10 10 1] else if s = 67 then [iW 8243 10 10 5] else if s = 68 then [iW 8243 10 5 10, iW 16403 10 10 1] else []
theorem wCmp (hN : N ≤ 4096) (h : Q_x_X0_layComparison L1 L2 N v pa u) : EMs N v u (cmW pa) := by
  obtain ⟨h0, h⟩ := h
  unfold cmW
  rcases h with ⟨c, u3, h3, -, u6, h6, -, e⟩ | ⟨c63, h⟩
  · rw [if_pos c, e]
    exact (wThr hN h3).tr (wImm hN h6)
  rcases h with ⟨c, u3, h3, -, u6, h6, -, e⟩ | ⟨c64, h⟩
  · rw [if_neg c63, if_pos c, e]
    exact (wThr hN h3).tr (wThr hN h6)
  rcases h with ⟨c, u3, h3, -, e⟩ | ⟨c65, h⟩
  · rw [if_neg c63, if_neg c64, if_pos c, e]
    exact wThr hN h3
  rcases h with ⟨c, u3, h3, -, u6, h6, -, e⟩ | ⟨c66, h⟩
  · rw [if_neg c63, if_neg c64, if_neg c65, if_pos c, e]
    exact (wThr hN h3).tr (wImm hN h6)
  rcases h with ⟨c, u3, h3, -, e⟩ | ⟨c67, h⟩
  · rw [if_neg c63, if_neg c64, if_neg c65, if_neg c66, if_pos c, e]
    exact wThr hN h3
  rcases h with ⟨c, u3, h3, -, u6, h6, -, e⟩ | ⟨c68, e⟩
  · rw [if_neg c63, if_neg c64, if_neg c65, if_neg c66, if_neg c67, if_pos c, e]
    exact (wThr hN h3).tr (wImm hN h6)
  rw [if_neg c63, if_neg c64, if_neg c65, if_neg c66, if_neg c67, if_neg c68,  e]
  exact ⟨EMc.rf h0.1, FC.rf v, fun _ _ => rfl⟩
def sgW (ti ov n s : Int32) : List Int32 := if s = 53 then [iW 51 10 5 10] else if s = 54 then [iW 1073741875 10 5 10] else if s = 55 then [jW 28 (ti - (4 : Int32) * n)] else if s = 56 then [jW 28 (ov - (4 : Int32) * n)] else if s = 57 then [jW 28 (ov - (4 : Int32) * n), iW 19 10 6 0] else if s = 58 then [iW 28723 10 5 10] else if s = 59 then [iW 24627 10 5 10] else if s = 60 then [iW 16435 10 5 10] else if s = 61 then [iW 4147 10 5 10] else if s = 62 then [iW 1073762355 10 5 10] else cmW s
theorem EMc.w0 {i : Nat} {y : Int32} (hi : i ≠ 337 ∧ i ≠ 338) (h : EMc N (wA v 0 i y) u a) : EMc N v u a := by
  have e : ∀ k : Nat, k ≠ i → (wA v 0 i y).1 0 k = v.1 0 k := fun k hk => by
    show upd (v.1 0) i y k = _
    rw [updN_ hk]
  unfold EMc at h ⊢
  rw [e 337 (fun q => hi.1 q.symm), e 338 (fun q => hi.2 q.symm)] at h
  exact h
theorem FC.w0 {i : Nat} {y : Int32} (hi : i ∈ [337, 339, 340]) (h : FC [337] [0, 382] (wA v 0 i y) u) : FC [337, 339, 340] [0, 382] v u := by
  refine ⟨fun q => h.1 (RP.o q (by decide)), fun k hk => ?_, fun k hk => ?_⟩
  · rw [h.2.1 k (fun q => hk (by simp only [List.mem_cons, List.not_mem_nil, or_false] at q ⊢; exact Or.inl q))]
    show upd (v.1 0) i y k = _
    rw [updN_ (fun q => hk (by rw [q]; exact hi))]
  · rw [h.2.2 k hk]
    have : k ≠ 0 := fun q => hk.2 (by rw [q]; decide)
    show (if k = 0 then _ else v.1 k) = _
    rw [if_neg this]
theorem RS0.w0 {i : Nat} {y : Int32} (h : RS0 (wA v 0 i y) u) : RS0 v u := fun k hk => by
  rw [h k hk]
  have : k ≠ 0 := by omega
  show (if k = 0 then _ else v.1 k) = _
  rw [if_neg this]
theorem EMs.w0 {i : Nat} {y : Int32} (hi : i = 339 ∨ i = 340) (h : EMs N (wA v 0 i y) u a) : EMt N v u a := ⟨h.1.w0 (by omega), h.2.1.w0 (by rcases hi with rfl | rfl <;> decide), h.2.2.w0⟩
theorem wSign (hN : N ≤ 4096) (h : Q_x_X0_laySign L1 L2 N v pa u) : EMt N v u (sgW (v.1 0 341) (v.1 0 342) (v.1 0 337) pa) := by
  obtain ⟨h0, h⟩ := h
  unfold sgW
  rcases h with ⟨c, u3, h3, -, e⟩ | ⟨c53, h⟩
  · rw [if_pos c, e]
    exact (wThr hN h3).t
  rcases h with ⟨c, u3, h3, -, e⟩ | ⟨c54, h⟩
  · rw [if_neg c53, if_pos c, e]
    exact (wThr hN h3).t
  rcases h with ⟨c, u3, h3, -, e⟩ | ⟨c55, h⟩
  · rw [if_neg c53, if_neg c54, if_pos c, e]
    exact (wJmp hN h3).w0 (Or.inl rfl)
  rcases h with ⟨c, u3, h3, -, e⟩ | ⟨c56, h⟩
  · rw [if_neg c53, if_neg c54, if_neg c55, if_pos c, e]
    exact (wJmp hN h3).w0 (Or.inr rfl)
  rcases h with ⟨c, u19, h19, -, u22, h22, -, e⟩ | ⟨c57, h⟩
  · rw [if_neg c53, if_neg c54, if_neg c55, if_neg c56, if_pos c, e]
    exact ((wJmp hN h19).tr (wImm hN h22)).w0 (Or.inr rfl)
  rcases h with ⟨c, u3, h3, -, e⟩ | ⟨c58, h⟩
  · rw [if_neg c53, if_neg c54, if_neg c55, if_neg c56, if_neg c57, if_pos c, e]
    exact (wThr hN h3).t
  rcases h with ⟨c, u3, h3, -, e⟩ | ⟨c59, h⟩
  · rw [if_neg c53, if_neg c54, if_neg c55, if_neg c56, if_neg c57, if_neg c58, if_pos c, e]
    exact (wThr hN h3).t
  rcases h with ⟨c, u3, h3, -, e⟩ | ⟨c60, h⟩
  · rw [if_neg c53, if_neg c54, if_neg c55, if_neg c56, if_neg c57, if_neg c58, if_neg c59, if_pos c, e]
    exact (wThr hN h3).t
  rcases h with ⟨c, u3, h3, -, e⟩ | ⟨c61, h⟩
  · rw [if_neg c53, if_neg c54, if_neg c55, if_neg c56, if_neg c57, if_neg c58, if_neg c59, if_neg c60, if_pos c, e]
    exact (wThr hN h3).t
  rcases h with ⟨c, u3, h3, -, e⟩ | ⟨c62, h⟩
  · rw [if_neg c53, if_neg c54, if_neg c55, if_neg c56, if_neg c57, if_neg c58, if_neg c59, if_neg c60, if_neg c61, if_pos c, e]
    exact (wThr hN h3).t
  obtain ⟨u45, h45, -, e⟩ := h
  rw [if_neg c53, if_neg c54, if_neg c55, if_neg c56, if_neg c57, if_neg c58, if_neg c59, if_neg c60, if_neg c61, if_neg c62,  e]
  exact (wCmp hN h45).t
def plW (ad sz d x y : Int32) : List Int32 := if d = 5 then [uW 6 ad, iW 8195 10 6 (loW ad)] else if d = 6 then [uW 6 ad, sW 10 (loW ad) 6] else if d = 7 then inW sz ad else if d = 8 then [iW 8195 10 10 (loW ad)] else if d = 9 then [iW 19 10 10 (loW ad), sW 10 (fW y) 8] else if d = 10 then [iW 8195 10 10 0] else if d = 11 then [iW 8195 6 8 (fW x), sW 10 0 6] else []
theorem wPlace (hN : N ≤ 4096) (h : Q_x_X0_layPlace L1 L2 N v pa pb pc1 u) : EMs N v u (plW (gF L2 v pb 1) (gF L2 v pb 0) pa pb pc1) := by
  obtain ⟨h0, r3, h3, h⟩ := h
  obtain ⟨r9, h3, -, e3⟩ := h3
  have e3 : r3 = gF L2 v pb 1 := e3.trans (wGF (k := 1) (by decide) (by decide) h3)
  unfold plW
  rw [← e3]
  rcases h with ⟨c, u6, h6, -, r11, h11, u13, h13, -, e⟩ | ⟨c5, h⟩
  · rw [if_pos c, e, ← wLow h11]
    exact (wUpp hN h6).tr (wImm hN h13)
  rcases h with ⟨c, u17, h17, -, r21, h21, u23, h23, -, e⟩ | ⟨c6, h⟩
  · rw [if_neg c5, if_pos c, e, ← wLow h21]
    exact (wUpp hN h17).tr (wSto hN h23)
  rcases h with ⟨c, r28, h28, -, u30, h30, -, e⟩ | ⟨c7, h⟩
  · rw [if_neg c5, if_neg c6, if_pos c, e, ← wGF (k := 0) (by decide) (by decide) h28]
    exact wIndex hN h30
  rcases h with ⟨c, r35, h35, u37, h37, -, e⟩ | ⟨c8, h⟩
  · rw [if_neg c5, if_neg c6, if_neg c7, if_pos c, e, ← wLow h35]
    exact wImm hN h37
  rcases h with ⟨c, r42, h42, u44, h44, -, u47, h47, -, e⟩ | ⟨c9, h⟩
  · rw [if_neg c5, if_neg c6, if_neg c7, if_neg c8, if_pos c, e, ← wLow h42]
    exact (wImm hN h44).tr (wSSl hN h47)
  rcases h with ⟨c, u51, h51, -, e⟩ | ⟨c10, h⟩
  · rw [if_neg c5, if_neg c6, if_neg c7, if_neg c8, if_neg c9, if_pos c, e]
    exact wImm hN h51
  rcases h with ⟨c, u55, h55, -, u58, h58, -, e⟩ | ⟨c11, e⟩
  · rw [if_neg c5, if_neg c6, if_neg c7, if_neg c8, if_neg c9, if_neg c10, if_pos c, e]
    exact (wLSl hN h55).tr (wSto hN h58)
  rw [if_neg c5, if_neg c6, if_neg c7, if_neg c8, if_neg c9, if_neg c10, if_neg c11, e]
  exact ⟨EMc.rf h0.1, FC.rf v, fun _ _ => rfl⟩
theorem tjm (n : Int32) : (4 : Int32) * n - (4 : Int32) * (n + 6) = -24 := by
  rw [Int32.mul_add]
  generalize (4 : Int32) * n = m
  rw [Int32.sub_eq_add_neg, Int32.neg_add, Int32.sub_eq_add_neg, ← Int32.add_assoc, Int32.add_comm m, Int32.add_left_neg, Int32.zero_add]
  decide
def tmW : List Int32 := [iW 19 6 0 0, bW 99 10 0 28, iW 28691 7 10 1, bW 99 7 0 8, iW 51 6 6 5, iW 4115 5 5 1, iW 20499 10 10 1, jW 0 (-24), iW 19 10 6 0, iW 103 0 28 0]
theorem wTimes (hN : N ≤ 4096) (h : Q_x_X0_layTimes L1 L2 N v u) : EMs N v u tmW := by
  obtain ⟨-, u2, h2, -, u6, h6, -, u10, h10, -, u13, h13, -, u16, h16, -, u19, h19, -, u22, h22, -, u25, h25, -, u28, h28, -, u31, h31, -, e⟩ := h
  rw [e]
  have E1 := wImm hN h2
  have E2 := ((wBra hN h6).tr ((wImm hN h10).tr ((wBra hN h13).tr ((wThr hN h16).tr ((wImm hN h19).tr (wImm hN h22))))))
  have n2 : u22.1 0 337 = u2.1 0 337 + 6 := i32_of E2.1.1.1 (by decide)
  have J := wJmp hN h25
  rw [n2, tjm (u2.1 0 337)] at J
  exact E1.tr (E2.tr (J.tr ((wImm hN h28).tr (wImm hN h31))))
def ovW : List Int32 := [bW 4195 10 0 12, iW 19 17 0 2, 1048691, iW 16435 29 5 10, iW 19 30 5 0, bW 20579 5 0 8, iW 1073741875 5 0 5, bW 20579 10 0 8, iW 1073741875 10 0 10, iW 19 6 0 0, iW 19 7 0 32, iW 20499 31 5 31, iW 4115 5 5 1, iW 4115 6 6 1, iW 24627 6 6 31, bW 24675 6 10 12, iW 1073741875 6 6 10, iW 24595 5 5 1, iW 19 7 7 (-1), bW 4195 7 0 (-32), iW 19 10 5 0, bW 20579 29 0 8, iW 1073741875 10 0 10, bW 20579 30 0 8, iW 1073741875 6 0 6, iW 103 0 28 0]
theorem wOver (hN : N ≤ 4096) (h : Q_x_X0_layOver L1 L2 N v u) : EMs N v u ovW := by
  obtain ⟨-, u2, h2, -, u5, h5, -, u8, h8, -, u11, h11, -, u14, h14, -, u17, h17, -, u20, h20, -, u23, h23, -, u26, h26, -, u29, h29, -, u32, h32, -, u35, h35, -, u38, h38, -, u41, h41, -, u44, h44, -, u47, h47, -, u50, h50, -, u53, h53, -, u56, h56, -, u59, h59, -, u62, h62, -, u65, h65, -, u68, h68, -, u71, h71, -, u74, h74, -, e⟩ := h
  rw [e]
  exact ((wBra hN h2).tr ((wHalt hN h5).tr ((wThr hN h8).tr ((wImm hN h11).tr ((wBra hN h14).tr ((wThr hN h17).tr ((wBra hN h20).tr ((wThr hN h23).tr ((wImm hN h26).tr ((wImm hN h29).tr ((wImm hN h32).tr ((wImm hN h35).tr ((wImm hN h38).tr ((wThr hN h41).tr ((wBra hN h44).tr ((wThr hN h47).tr ((wImm hN h50).tr ((wImm hN h53).tr ((wBra hN h56).tr ((wImm hN h59).tr ((wBra hN h62).tr ((wThr hN h65).tr ((wBra hN h68).tr ((wThr hN h71).tr (wImm hN h74)))))))))))))))))))))))))
end ZWB
