/-! the class: calls never become fewer -/
def XM (R : RE1) : Prop := ∀ (v : MS) (st : Int32) (u : MS), R v st false u → (v.1 0 321).toInt ≤ (u.1 0 321).toInt
def XMo (R : RO1) : Prop := ∀ (v : MS) (st r : Int32) (u : MS), R v st false r u → (v.1 0 321).toInt ≤ (u.1 0 321).toInt
section UJM
variable {L1 L2 : List Nat} {v u w x z : MS} {pa pb pc1 pd r : Int32} {c : RE1} {o : RO1}
theorem fc21 {fl al : List Nat} (f : FC fl al v u) (h : 321 ∉ fl := by decide) : (u.1 0 321).toInt = (v.1 0 321).toInt := congrArg Int32.toInt (f.2.1 321 h)
theorem mIndexM (hE : XM c) (h : Q_x_X2_index L1 L2 c v pa false u) : (v.1 0 321).toInt ≤ (u.1 0 321).toInt := by
  obtain ⟨-, -, -, -, -, -, -, -, -, -, h⟩ := h
  rcases h with ⟨u9, -, q, -⟩ | ⟨u2, h2, k2, ⟨u9, -, q, -⟩ | ⟨u15, h15, k15, ⟨u9, -, q, -⟩ | ⟨u20, h20, k20, u24, h24, k24, u29, h29, k29, -, e9⟩⟩⟩
  · cases q
  · cases q
  · cases q
  have a := hE _ _ _ h15
  have := fc21 k2.1
  have := fc21 k20.1
  have := fc21 k24.1
  have := fc21 k29.1
  rw [e9]
  omega
theorem mArgM (hE : XM c) (h : Q_x_X2_argument L1 L2 c v pa pb false u) : (v.1 0 321).toInt ≤ (u.1 0 321).toInt := by
  obtain ⟨-, -, -, -, -, -, -, -, -, -, r3, u2, h2, k2, h⟩ := h
  have b2 := fc21 k2.1
  rcases h with ⟨-, u8, h8, k8, u11, h11, k11, ⟨u9, -, q, -⟩ | ⟨u40, h40, k40, r45, h45, u47, h47, k47, -, e9⟩⟩ | ⟨-, ⟨-, u58, h58, k58, ⟨u9, -, q, -⟩ | ⟨u79, h79, k79, r84, h84, u86, h86, k86, -, e9⟩⟩ | ⟨-, u8, h8, k8, u11, h11, k11, ⟨u9, -, q, -⟩ | ⟨u40, h40, k40, r45, h45, u47, h47, k47, -, e9⟩⟩⟩
  · cases q
  · have a := hE _ _ _ h40
    have := fc21 k8.1
    have := fc21 k11.1
    have := fc21 k47.1
    rw [e9]
    show (v.1 0 321).toInt ≤ (u47.1 0 321).toInt
    omega
  · cases q
  · have a := hE _ _ _ h79
    have := fc21 k58.1
    have := fc21 k86.1
    rw [e9]
    show (v.1 0 321).toInt ≤ (u86.1 0 321).toInt
    omega
  · cases q
  · have a := hE _ _ _ h40
    have := fc21 k8.1
    have := fc21 k11.1
    have := fc21 k47.1
    rw [e9]
    show (v.1 0 321).toInt ≤ (u47.1 0 321).toInt
    omega
theorem mChgByM (hE : XM c) (h : Q_x_X2_changeBy L1 L2 c v pa pb pc1 pd false u) : (v.1 0 321).toInt ≤ (u.1 0 321).toInt := by
  obtain ⟨-, -, -, -, -, -, -, -, -, -, h⟩ := h
  rcases h with ⟨c0, u4, h4, k4, r9, h9, u13, h13, k13, ⟨u9, -, q, -⟩ | ⟨u29, h29, k29, u32, h32, k32, -, e9⟩⟩ | ⟨c0, u4, h4, k4, r9, h9, u13, h13, k13, ⟨u9, -, q, -⟩ | ⟨u29, h29, k29, u32, h32, k32, -, e9⟩⟩
  · cases q
  · have a0 := hE _ _ _ h29
    have a : (u13.1 0 321).toInt ≤ (u29.1 0 321).toInt := a0
    have := fc21 k4.1
    have := fc21 k13.1
    have f0 := fc21 k32.1
    have : (u32.1 0 321).toInt = (u29.1 0 321).toInt := f0
    rw [e9]
    omega
  · cases q
  · have a0 := hE _ _ _ h29
    have a : (u13.1 0 321).toInt ≤ (u29.1 0 321).toInt := a0
    have := fc21 k4.1
    have := fc21 k13.1
    have f0 := fc21 k32.1
    have : (u32.1 0 321).toInt = (u29.1 0 321).toInt := f0
    rw [e9]
    omega
theorem mChangeM (hE : XM c) (h : Q_x_X2_change L1 L2 c v pa pb pc1 false u) : (v.1 0 321).toInt ≤ (u.1 0 321).toInt := by
  obtain ⟨-, -, -, -, -, -, -, -, -, -, -, r3, hk, h⟩ := h
  rcases h with ⟨k42, ⟨c0, r11, u10, h10, k10, ⟨-, ⟨u9, -, q, -⟩ | ⟨u19, h19, k19, r25, h25, -, ⟨u9, -, q, -⟩ | ⟨u42, h42, k42', -, hx⟩⟩⟩ | ⟨-, r89, -, u9, -, q, -⟩⟩ | ⟨c0, r11, u10, h10, k10, ⟨-, ⟨u9, -, q, -⟩ | ⟨u19, h19, k19, r25, h25, -, u118, h118, k118, ⟨u9, -, q, -⟩ | ⟨u42, h42, k42', -, x, hx, kx, y, hy, ky, -, e9⟩⟩⟩ | ⟨-, r89, -, u9, -, q, -⟩⟩⟩ | ⟨k42, ⟨c0, r11, u10, h10, k10, ⟨-, ⟨u9, -, q, -⟩ | ⟨u19, h19, k19, r25, h25, -, ⟨u9, -, q, -⟩ | ⟨u42, h42, k42', -, hx⟩⟩⟩ | ⟨-, r89, -, u9, -, q, -⟩⟩ | ⟨c0, r11, u10, h10, k10, ⟨-, ⟨u9, -, q, -⟩ | ⟨u19, h19, k19, r25, h25, -, u118, h118, k118, ⟨u9, -, q, -⟩ | ⟨u42, h42, k42', -, x, hx, kx, y, hy, ky, -, e9⟩⟩⟩ | ⟨-, r89, -, u9, -, q, -⟩⟩⟩
  · cases q
  · cases q
  · have a := mChgByM hE h42
    have := fc21 k10.1
    have := fc21 k19.1
    rcases hx with ⟨-, x, hx, kx, y, hy, ky, -, e9⟩ | ⟨-, x, hx, kx, y, hy, ky, -, e9⟩ <;> (have := fc21 kx.1; have := fc21 ky.1; rw [e9]; omega)
  · cases q
  · cases q
  · cases q
  · have a0 := mChgByM hE h42
    have a : (u118.1 0 321).toInt ≤ (u42.1 0 321).toInt := a0
    have := fc21 k10.1
    have := fc21 k19.1
    have := fc21 k118.1
    have f0 := fc21 kx.1
    have : (x.1 0 321).toInt = (u42.1 0 321).toInt := f0
    have := fc21 ky.1
    rw [e9]
    omega
  · cases q
  · cases q
  · cases q
  · have a := hE _ _ _ h42
    have := fc21 k10.1
    have := fc21 k19.1
    rcases hx with ⟨-, x, hx, kx, y, hy, ky, -, e9⟩ | ⟨-, x, hx, kx, y, hy, ky, -, e9⟩ <;> (have := fc21 kx.1; have := fc21 ky.1; rw [e9]; omega)
  · cases q
  · cases q
  · cases q
  · have a0 := hE _ _ _ h42
    have a : (u118.1 0 321).toInt ≤ (u42.1 0 321).toInt := a0
    have := fc21 k10.1
    have := fc21 k19.1
    have := fc21 k118.1
    have f0 := fc21 kx.1
    have : (x.1 0 321).toInt = (u42.1 0 321).toInt := f0
    have := fc21 ky.1
    rw [e9]
    omega
  · cases q
theorem mAddCall (h : Q_x_X1_addCall L1 L2 v pa pb r u) : (v.1 0 321).toInt ≤ (u.1 0 321).toInt := by
  obtain ⟨-, h⟩ := h
  rcases h with ⟨-, -, rfl⟩ | ⟨c, -, rfl⟩
  · exact Int.le_refl _
  · show _ ≤ ((v.1 0 321) + (1 : Int32)).toInt
    have := incq (x := v.1 0 321) (y := 501) (by have : (501 : Int32).toInt = 501 := (by decide); omega)
    omega
theorem mCallM (hE : XM c) (h : Q_x_X2_callFunction L1 L2 c v false u) : (v.1 0 321).toInt ≤ (u.1 0 321).toInt := by
  obtain ⟨-, -, -, -, -, -, -, -, -, -, r3, h3, r6, h6, r9, u8, h8, k8, r13, h13, h⟩ := h
  have a8 := mAddCall h8
  have fin : ∀ {x y z u : MS} {m : Int32}, (u8.1 0 321).toInt ≤ (x.1 0 321).toInt → K_x_X9_expect x 31 y → K_x_X9_close y z → K_x_X1_add (wA z 0 314 (z.1 0 314 - m)) 21 r9 r13 u → (v.1 0 321).toInt ≤ (u.1 0 321).toInt := fun {x y z u m} a k1 k2 k3 => by
    have := fc21 k1.1
    have := fc21 k2.1
    have f0 := fc21 k3.1
    have : (u.1 0 321).toInt = (z.1 0 321).toInt := f0
    omega
  rcases h with ⟨u9, -, q, -⟩ | ⟨u18, h18, k18, ⟨u9, -, q, -⟩ | ⟨u25, h25, k25, r30, h30, ⟨c31, ⟨u9, -, q, -⟩ | ⟨u35, h35, k35, u39, h39, k39, u47, h47, k47, -, e9⟩⟩ | ⟨c31, ⟨u9, -, q, -⟩ | ⟨u87, h87, k87, ar, ka, w70, hr, f70, b1, b2, b3, b4, b5, b6, b7, b8, b9, b10, b11, h⟩⟩⟩⟩
  · cases q
  · cases q
  · cases q
  · have := fc21 k18.1
    have := fc21 k25.1
    rw [e9]
    exact fin (by omega) k35 k39 k47
  · cases q
  · have := fc21 k18.1
    have := fc21 k25.1
    have a87 := mArgM hE h87
    have i70 : (u87.1 0 321).toInt ≤ (w70.1 0 321).toInt := by
      refine RT.ind (fun (y : Int32 × Int32 × MS) => (u87.1 0 321).toInt ≤ (y.2.2.1 0 321).toInt) hr (Int.le_refl _) ?_
      intro a b _ g hb
      obtain ⟨-, -, -, -, -, -, -, -, -, -, -, -, -, r121, -, -, u152, h152, k152, u166, h166, -, rfl⟩ := hb
      have := fc21 k152.1
      have := mArgM hE h166
      show _ ≤ (u166.1 0 321).toInt
      omega
    rcases h with ⟨-, ⟨u9, -, q, -⟩ | ⟨u94, h94, k94, u98, h98, k98, u103, h103, k103, -, e9⟩⟩ | ⟨-, r121, -, ⟨-, ⟨u9, -, q, -⟩ | ⟨u94, h94, k94, u98, h98, k98, u103, h103, k103, -, e9⟩⟩ | ⟨-, ⟨u9, -, q, -⟩ | ⟨u152, -, -, u9, -, q, -⟩⟩⟩
    · cases q
    · rw [e9]
      exact fin (by omega) k94 k98 k103
    · cases q
    · rw [e9]
      exact fin (by omega) k94 k98 k103
    · cases q
    · cases q
end UJM
