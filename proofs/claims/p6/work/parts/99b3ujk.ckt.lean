/-! the class: signs that wait are kept -/
def KT (v u : MS) : Prop := u.1 0 326 = v.1 0 326 ∧ ∀ j : Nat, (j : Int) < (v.1 0 326).toInt → u.1 324 j = v.1 324 j ∧ u.1 325 j = v.1 325 j
def XK (R : RE1) : Prop := ∀ (v : MS) (st : Int32) (u : MS), R v st false u → KT v u
def XKo (R : RO1) : Prop := ∀ (v : MS) (st r : Int32) (u : MS), R v st false r u → KT v u
section URK
variable {L1 L2 : List Nat} {v u w x z : MS} {pa pb pc1 pd r : Int32} {c : RE1} {o : RO1}
theorem KT.rf : KT v v := ⟨rfl, fun _ _ => ⟨rfl, rfl⟩⟩
theorem KT.tr (h : KT v u) (k : KT u w) : KT v w := ⟨k.1.trans h.1, fun j hj => ⟨(k.2 j (by rw [h.1]; exact hj)).1.trans (h.2 j hj).1, (k.2 j (by rw [h.1]; exact hj)).2.trans (h.2 j hj).2⟩⟩
theorem KT.fc {fl al : List Nat} (f : FC fl al v u) (h1 : 326 ∉ fl := by decide) (h2 : 324 ∉ al ∧ 325 ∉ al := by decide) : KT v u := ⟨f.2.1 326 h1, fun j _ => ⟨congrFun (f.2.2 324 ⟨by decide, h2.1⟩) j, congrFun (f.2.2 325 ⟨by decide, h2.2⟩) j⟩⟩
theorem KT.wr (x : Int32) : KT v (wA v 0 314 x) := ⟨rfl, fun _ _ => ⟨rfl, rfl⟩⟩
theorem kIndexK (hE : XK c) (h : Q_x_X2_index L1 L2 c v pa false u) : KT v u := by
  obtain ⟨-, -, -, -, -, -, -, -, -, -, h⟩ := h
  rcases h with ⟨u9, -, q, -⟩ | ⟨u2, h2, k2, ⟨u9, -, q, -⟩ | ⟨u15, h15, k15, ⟨u9, -, q, -⟩ | ⟨u20, h20, k20, u24, h24, k24, u29, h29, k29, -, e9⟩⟩⟩
  · cases q
  · cases q
  · cases q
  rw [e9]
  exact ((((KT.fc k2.1).tr (hE _ _ _ h15)).tr (KT.fc k20.1)).tr (KT.fc k24.1)).tr (KT.fc k29.1)
theorem kArgK (hE : XK c) (h : Q_x_X2_argument L1 L2 c v pa pb false u) : KT v u := by
  obtain ⟨-, -, -, -, -, -, -, -, -, -, r3, u2, h2, k2, h⟩ := h
  rcases h with ⟨-, u8, h8, k8, u11, h11, k11, ⟨u9, -, q, -⟩ | ⟨u40, h40, k40, r45, h45, u47, h47, k47, -, e9⟩⟩ | ⟨-, ⟨-, u58, h58, k58, ⟨u9, -, q, -⟩ | ⟨u79, h79, k79, r84, h84, u86, h86, k86, -, e9⟩⟩ | ⟨-, u8, h8, k8, u11, h11, k11, ⟨u9, -, q, -⟩ | ⟨u40, h40, k40, r45, h45, u47, h47, k47, -, e9⟩⟩⟩
  · cases q
  · rw [e9]
    exact (((((KT.fc k2.1).tr (KT.fc k8.1)).tr (KT.fc k11.1)).tr (hE _ _ _ h40)).tr (KT.fc k47.1)).tr (KT.wr _)
  · cases q
  · rw [e9]
    exact ((((KT.fc k2.1).tr (KT.fc k58.1)).tr (hE _ _ _ h79)).tr (KT.fc k86.1)).tr (KT.wr _)
  · cases q
  · rw [e9]
    exact (((((KT.fc k2.1).tr (KT.fc k8.1)).tr (KT.fc k11.1)).tr (hE _ _ _ h40)).tr (KT.fc k47.1)).tr (KT.wr _)
theorem kChgByK (hE : XK c) (h : Q_x_X2_changeBy L1 L2 c v pa pb pc1 pd false u) : KT v u := by
  obtain ⟨-, -, -, -, -, -, -, -, -, -, h⟩ := h
  rcases h with ⟨c0, u4, h4, k4, r9, h9, u13, h13, k13, ⟨u9, -, q, -⟩ | ⟨u29, h29, k29, u32, h32, k32, -, e9⟩⟩ | ⟨c0, u4, h4, k4, r9, h9, u13, h13, k13, ⟨u9, -, q, -⟩ | ⟨u29, h29, k29, u32, h32, k32, -, e9⟩⟩
  · cases q
  · rw [e9]
    exact (((((KT.fc k4.1).tr (KT.fc k13.1)).tr (KT.wr _)).tr (hE _ _ _ h29)).tr (KT.wr _)).tr (KT.fc k32.1)
  · cases q
  · rw [e9]
    exact (((((KT.fc k4.1).tr (KT.fc k13.1)).tr (KT.wr _)).tr (hE _ _ _ h29)).tr (KT.wr _)).tr (KT.fc k32.1)
theorem kChangeK (hE : XK c) (h : Q_x_X2_change L1 L2 c v pa pb pc1 false u) : KT v u := by
  obtain ⟨-, -, -, -, -, -, -, -, -, -, -, r3, hk, h⟩ := h
  rcases h with ⟨k42, ⟨c0, r11, u10, h10, k10, ⟨-, ⟨u9, -, q, -⟩ | ⟨u19, h19, k19, r25, h25, -, ⟨u9, -, q, -⟩ | ⟨u42, h42, k42', -, hx⟩⟩⟩ | ⟨-, r89, -, u9, -, q, -⟩⟩ | ⟨c0, r11, u10, h10, k10, ⟨-, ⟨u9, -, q, -⟩ | ⟨u19, h19, k19, r25, h25, -, u118, h118, k118, ⟨u9, -, q, -⟩ | ⟨u42, h42, k42', -, x, hx, kx, y, hy, ky, -, e9⟩⟩⟩ | ⟨-, r89, -, u9, -, q, -⟩⟩⟩ | ⟨k42, ⟨c0, r11, u10, h10, k10, ⟨-, ⟨u9, -, q, -⟩ | ⟨u19, h19, k19, r25, h25, -, ⟨u9, -, q, -⟩ | ⟨u42, h42, k42', -, hx⟩⟩⟩ | ⟨-, r89, -, u9, -, q, -⟩⟩ | ⟨c0, r11, u10, h10, k10, ⟨-, ⟨u9, -, q, -⟩ | ⟨u19, h19, k19, r25, h25, -, u118, h118, k118, ⟨u9, -, q, -⟩ | ⟨u42, h42, k42', -, x, hx, kx, y, hy, ky, -, e9⟩⟩⟩ | ⟨-, r89, -, u9, -, q, -⟩⟩⟩
  · cases q
  · cases q
  · have a := ((KT.fc k10.1).tr (KT.fc k19.1)).tr (kChgByK hE h42)
    rcases hx with ⟨-, x, hx, kx, y, hy, ky, -, e9⟩ | ⟨-, x, hx, kx, y, hy, ky, -, e9⟩ <;> (rw [e9]; exact (a.tr (KT.fc kx.1)).tr (KT.fc ky.1))
  · cases q
  · cases q
  · cases q
  · rw [e9]
    exact (((((((KT.fc k10.1).tr (KT.fc k19.1)).tr (KT.fc k118.1)).tr (KT.wr _)).tr (kChgByK hE h42)).tr (KT.wr _)).tr (KT.fc kx.1)).tr (KT.fc ky.1)
  · cases q
  · cases q
  · cases q
  · have a := ((KT.fc k10.1).tr (KT.fc k19.1)).tr (hE _ _ _ h42)
    rcases hx with ⟨-, x, hx, kx, y, hy, ky, -, e9⟩ | ⟨-, x, hx, kx, y, hy, ky, -, e9⟩ <;> (rw [e9]; exact (a.tr (KT.fc kx.1)).tr (KT.fc ky.1))
  · cases q
  · cases q
  · cases q
  · rw [e9]
    exact (((((((KT.fc k10.1).tr (KT.fc k19.1)).tr (KT.fc k118.1)).tr (KT.wr _)).tr (hE _ _ _ h42)).tr (KT.wr _)).tr (KT.fc kx.1)).tr (KT.fc ky.1)
  · cases q
theorem kCallK (hE : XK c) (h : Q_x_X2_callFunction L1 L2 c v false u) : KT v u := by
  obtain ⟨-, -, -, -, -, -, -, -, -, -, r3, h3, r6, h6, r9, u8, h8, k8, r13, h13, h⟩ := h
  have fin : ∀ {x y z u : MS} {m : Int32}, KT v x → K_x_X9_expect x 31 y → K_x_X9_close y z → K_x_X1_add (wA z 0 314 (z.1 0 314 - m)) 21 r9 r13 u → KT v u := fun {x y z u m} a k1 k2 k3 => (((a.tr (KT.fc k1.1)).tr (KT.fc k2.1)).tr (KT.wr _)).tr (KT.fc k3.1)
  rcases h with ⟨u9, -, q, -⟩ | ⟨u18, h18, k18, ⟨u9, -, q, -⟩ | ⟨u25, h25, k25, r30, h30, ⟨c31, ⟨u9, -, q, -⟩ | ⟨u35, h35, k35, u39, h39, k39, u47, h47, k47, -, e9⟩⟩ | ⟨c31, ⟨u9, -, q, -⟩ | ⟨u87, h87, k87, ar, ka, w70, hr, f70, b1, b2, b3, b4, b5, b6, b7, b8, b9, b10, b11, h⟩⟩⟩⟩
  · cases q
  · cases q
  · cases q
  · rw [e9]
    exact fin (((KT.fc k8.1).tr (KT.fc k18.1)).tr (KT.fc k25.1)) k35 k39 k47
  · cases q
  · have a87 : KT v u87 := (((KT.fc k8.1).tr (KT.fc k18.1)).tr (KT.fc k25.1)).tr (kArgK hE h87)
    have i70 : KT v w70 := by
      refine RT.ind (fun (y : Int32 × Int32 × MS) => KT v y.2.2) hr a87 ?_
      intro a b _ g hb
      obtain ⟨-, -, -, -, -, -, -, -, -, -, -, -, -, r121, -, -, u152, h152, k152, u166, h166, -, rfl⟩ := hb
      exact (KT.tr g (KT.fc k152.1)).tr (kArgK hE h166)
    rcases h with ⟨-, ⟨u9, -, q, -⟩ | ⟨u94, h94, k94, u98, h98, k98, u103, h103, k103, -, e9⟩⟩ | ⟨-, r121, -, ⟨-, ⟨u9, -, q, -⟩ | ⟨u94, h94, k94, u98, h98, k98, u103, h103, k103, -, e9⟩⟩ | ⟨-, ⟨u9, -, q, -⟩ | ⟨u152, -, -, u9, -, q, -⟩⟩⟩
    · cases q
    · rw [e9]
      exact fin i70 k94 k98 k103
    · cases q
    · rw [e9]
      exact fin i70 k94 k98 k103
    · cases q
    · cases q
theorem kNamedK (hM : XK c) (h : Q_x_X2_named L1 L2 c v pa false r u) : KT v u := by
  obtain ⟨-, -, -, -, -, -, -, -, -, -, r3, h1, r6, h2, r9, h3, k3, h⟩ := h
  have tail : ∀ {x : MS} {s9 g9 p9 : Int32} {Rd Kd : MS → Prop}, (∀ y, Kd y → KT x y) → (((pa.toInt = (0 : Int)) ∧ ∃ y, Rd y ∧ Kd y ∧ false = false ∧ r = 0 ∧ u = y) ∨ ((pa.toInt ≠ (0 : Int)) ∧ ∃ r49, Q_x_X9_kind L1 L2 x r49 ∧ ∃ r52, Q_x_X9_isSet r49 r52 ∧ K_x_X9_isSet r49 r52 ∧ (((r52.toInt = (0 : Int)) ∧ ∃ y, Rd y ∧ Kd y ∧ false = false ∧ r = 0 ∧ u = y) ∨ ((r52.toInt ≠ (0 : Int)) ∧ ((∃ u9, Q_x_X2_change L1 L2 c x s9 g9 p9 true u9 ∧ false = true ∧ r = 0 ∧ u = u9) ∨ (∃ y, Q_x_X2_change L1 L2 c x s9 g9 p9 false y ∧ K_x_X2_change x s9 g9 p9 y ∧ false = false ∧ r = 1 ∧ u = y)))))) → KT x u := fun hk h => by
    rcases h with ⟨-, y, h1, h2, -, -, eu⟩ | ⟨-, r49, -, r52, -, -, ⟨-, y, h1, h2, -, -, eu⟩ | ⟨-, ⟨u9, -, f, -⟩ | ⟨y, h1, h2, -, -, eu⟩⟩⟩
    · rw [eu]; exact hk y h2
    · rw [eu]; exact hk y h2
    · cases f
    · rw [eu]; exact kChangeK hM h1
  rcases h with ⟨q9, -, h⟩ | ⟨q9, r164, h4, r167, h5, -, h⟩
  · rcases h with ⟨c30, r18, h6, -, h⟩ | ⟨-, r84, -, u9, -, f, -⟩
    · rcases h with ⟨-, ⟨-, ⟨u9, -, f, -⟩ | ⟨u26, h7, k7, h⟩⟩ | ⟨-, r84, -, u9, -, f, -⟩⟩ | ⟨-, ⟨-, r84, -, u9, -, f, -⟩ | ⟨-, ⟨u9, -, f, -⟩ | ⟨u26, h7, k7, ⟨u9, -, f, -⟩ | ⟨u30, h30, k30, h⟩⟩⟩⟩
      · cases f
      · exact (KT.fc k7.1).tr (tail (Rd := fun y => Q_x_X2_read L1 L2 u26 r9 (-1) y) (Kd := fun y => K_x_X2_read u26 r9 (-1) y) (fun y k => KT.fc k.1) h)
      · cases f
      · cases f
      · cases f
      · cases f
      · exact ((KT.fc k7.1).tr (kIndexK hM h30)).tr (tail (Rd := fun y => Q_x_X1_add L1 L2 u30 8 (-1) 0 y) (Kd := fun y => K_x_X1_add u30 8 (-1) 0 y) (fun y k => KT.fc k.1) h)
    · cases f
  · rcases h with ⟨q7, h⟩ | ⟨q7, h⟩
    · rcases h with ⟨-, r18, -, -, ⟨-, r84, -, u9, -, f, -⟩ | ⟨-, r84, -, u9, -, f, -⟩⟩ | ⟨c30, ⟨u9, -, f, -⟩ | ⟨u198, h7, k7, -, er, eu⟩⟩
      · cases f
      · cases f
      · cases f
      · rw [eu]; exact kCallK hM h7
    · rcases h with ⟨c30, r18, h6, -, h⟩ | ⟨-, r84, -, u9, -, f, -⟩
      · rcases h with ⟨-, ⟨-, ⟨u9, -, f, -⟩ | ⟨u26, h7, k7, h⟩⟩ | ⟨-, r84, -, u9, -, f, -⟩⟩ | ⟨-, ⟨-, r84, -, u9, -, f, -⟩ | ⟨-, ⟨u9, -, f, -⟩ | ⟨u26, h7, k7, ⟨u9, -, f, -⟩ | ⟨u30, h30, k30, h⟩⟩⟩⟩
        · cases f
        · exact (KT.fc k7.1).tr (tail (Rd := fun y => Q_x_X2_read L1 L2 u26 r9 r167 y) (Kd := fun y => K_x_X2_read u26 r9 r167 y) (fun y k => KT.fc k.1) h)
        · cases f
        · cases f
        · cases f
        · cases f
        · exact ((KT.fc k7.1).tr (kIndexK hM h30)).tr (tail (Rd := fun y => Q_x_X1_add L1 L2 u30 8 r167 0 y) (Kd := fun y => K_x_X1_add u30 8 r167 0 y) (fun y k => KT.fc k.1) h)
      · cases f
theorem kUnaryK (hO : XKo o) (h : Q_x_X2_unary L1 L2 o v pa false u) : KT v u := by
  obtain ⟨-, -, -, -, -, -, -, -, -, -, h⟩ := h
  rcases h with ⟨u9, -, f, -⟩ | ⟨u2, h2, k2, ⟨u9, -, f, -⟩ | ⟨r16, u15, h15, k15, u18, h18, k18, u22, h22, k22, -, eu⟩⟩
  · cases f
  · cases f
  · rw [eu]
    exact (((KT.fc k2.1).tr (hO _ _ _ _ h15)).tr (KT.fc k18.1)).tr (KT.fc k22.1)
theorem kChoiceK (hM : XK c) (h : Q_x_X2_choice L1 L2 c v false u) : KT v u := by
  obtain ⟨-, -, -, -, -, -, -, -, -, -, r3, u2, h2, k2, r7, u6, h6, k6, h⟩ := h
  rcases h with ⟨u9, -, f, -⟩ | ⟨u17, h17, k17, u23, h23, k23, ⟨u9, -, f, -⟩ | ⟨u48, h48, k48, ⟨u9, -, f, -⟩ | ⟨u53, h53, k53, u57, h57, k57, u60, h60, k60, ⟨u9, -, f, -⟩ | ⟨u90, h90, k90, u93, h93, k93, u97, h97, k97, -, eu⟩⟩⟩⟩
  · cases f
  · cases f
  · cases f
  · cases f
  · rw [eu]
    exact ((((((((((KT.fc k2.1).tr (KT.fc k6.1)).tr (KT.fc k17.1)).tr (KT.fc k23.1)).tr (hM _ _ _ h48)).tr (KT.fc k53.1)).tr (KT.fc k57.1)).tr (KT.fc k60.1)).tr (hM _ _ _ h90)).tr (KT.fc k93.1)).tr (KT.fc k97.1)
theorem kOperandK (hM : XK c) (hO : XKo o) (h : Q_x_X2_operand L1 L2 c o v pa false r u) : KT v u := by
  obtain ⟨-, -, -, -, -, -, -, -, -, -, r3, hk, h⟩ := h
  rcases h with ⟨c2, ⟨u9, -, f, -⟩ | ⟨r7, u6, h1, k1, -, er, eu⟩⟩ | ⟨c2, h⟩
  · cases f
  · rw [eu]; exact kNamedK hM h1
  rcases h with ⟨c3, r11, h1, u13, h2, k2, ⟨u9, -, f, -⟩ | ⟨u19, h3, k3, -, er, eu⟩⟩ | ⟨c3, h⟩
  · cases f
  · rw [eu]; exact (KT.fc k2.1).tr (KT.fc k3.1)
  rcases h with ⟨c4, r33, -, u9, -, f, -⟩ | ⟨c4, h⟩
  · cases f
  rcases h with ⟨c5, r11, h1, u13, h2, k2, ⟨u9, -, f, -⟩ | ⟨u19, h3, k3, -, er, eu⟩⟩ | ⟨c5, h⟩
  · cases f
  · rw [eu]; exact (KT.fc k2.1).tr (KT.fc k3.1)
  rcases h with ⟨c20, ⟨u9, -, f, -⟩ | ⟨u61, h1, k1, ⟨u9, -, f, -⟩ | ⟨u66, h2, k2, ⟨u9, -, f, -⟩ | ⟨u74, h3, k3, ⟨u9, -, f, -⟩ | ⟨u79, h4, k4, u83, h5, k5, u91, h6, k6, -, er, eu⟩⟩⟩⟩⟩ | ⟨c20, h⟩
  · cases f
  · cases f
  · cases f
  · cases f
  · have e66 : u66 = u61 := by
      obtain ⟨-, -, -, r3', hk', h2⟩ := h2
      rcases h2 with ⟨c, -, e9⟩ | ⟨-, r9, -, ⟨-, r14, -, u9, -, f, -⟩ | ⟨-, r14, -, u9, -, f, -⟩⟩
      · exact e9
      · cases f
      · cases f
    rw [e66] at k3
    rw [eu]
    exact ((((KT.fc k1.1).tr (KT.fc k3.1)).tr (KT.fc k4.1)).tr (KT.fc k5.1)).tr (KT.fc k6.1)
  rcases h with ⟨c30, ⟨u9, -, f, -⟩ | ⟨u116, h1, k1, ⟨u9, -, f, -⟩ | ⟨u128, h2, k2, ⟨u9, -, f, -⟩ | ⟨u133, h3, k3, u137, h4, k4, -, er, eu⟩⟩⟩⟩ | ⟨c30, h⟩
  · cases f
  · cases f
  · cases f
  · rw [eu]
    exact (((KT.fc k1.1).tr (hM _ _ _ h2)).tr (KT.fc k3.1)).tr (KT.fc k4.1)
  rcases h with ⟨c40, ⟨u9, -, f, -⟩ | ⟨u150, h1, k1, -, er, eu⟩⟩ | ⟨c40, h⟩
  · cases f
  · rw [eu]; exact kUnaryK hO h1
  rcases h with ⟨c41, ⟨u9, -, f, -⟩ | ⟨u150, h1, k1, -, er, eu⟩⟩ | ⟨c41, h⟩
  · cases f
  · rw [eu]; exact kUnaryK hO h1
  rcases h with ⟨c54, ⟨u9, -, f, -⟩ | ⟨u150, h1, k1, -, er, eu⟩⟩ | ⟨c54, u9, -, f, -⟩
  · cases f
  · rw [eu]; exact kUnaryK hO h1
  · cases f
end URK
