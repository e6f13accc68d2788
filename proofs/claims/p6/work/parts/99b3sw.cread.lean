/-! the class: a text is read -/
section CRD
variable {L1 L2 : List Nat} {T : Nat → Int32} {L n : Nat} {v u w : MS} {ps : Int32} {t : Bool} {K : TK}
theorem scan_f (h : Q_x_X9_scan L1 L2 v ps u) : u.1 0 305 = 0 ∧ u.1 0 306 = 0 ∧ u.1 0 307 = -1 := by
  obtain ⟨-, pl, ka, w39, hr, -, -, -, -, -, -, -, h⟩ := h
  have inv : w39.1 0 305 = 0 ∧ w39.1 0 306 = 0 ∧ w39.1 0 307 = -1 := by
    refine RT.ind (fun (y : Int32 × Int32 × MS) => y.2.2.1 0 305 = 0 ∧ y.2.2.1 0 306 = 0 ∧ y.2.2.1 0 307 = -1) hr ⟨rfl, rfl, rfl⟩ ?_
    intro a b _ ha hb
    obtain ⟨-, -, -, -, -, -, -, -, r7, -, r11, u10, -, k10, -, -, rfl⟩ := hb
    exact ⟨(k10.1.2.1 305 (by decide)).trans ha.1, (k10.1.2.1 306 (by decide)).trans ha.2.1, (k10.1.2.1 307 (by decide)).trans ha.2.2⟩
  rcases h with ⟨-, rfl⟩ | ⟨-, r7, -, r11, u10, -, k10, h⟩
  · exact inv
  · have e : u = u10 := by
      rcases h with ⟨-, e⟩ | ⟨-, -, e⟩ <;> exact e
    rw [e]
    exact ⟨(k10.1.2.1 305 (by decide)).trans inv.1, (k10.1.2.1 306 (by decide)).trans inv.2.1, (k10.1.2.1 307 (by decide)).trans inv.2.2⟩
theorem CI0 (f : u.1 0 305 = 0 ∧ u.1 0 306 = 0 ∧ u.1 0 307 = -1) (h21 : u.1 0 321 = 0) (h26 : u.1 0 326 = 0) (h75 : u.1 0 375 = 0) (h77 : u.1 0 377 = 0) (h81 : u.1 0 381 = 0) : CIq L1 L2 (kC u) (fun _ => 0) u X0 := by
  have z0 : (0 : Int32).toInt = 0 := by decide
  have zn : (0 : Int32).toNatClampNeg = 0 := by decide
  have z1 : (-1 : Int32).toInt = -1 := by decide
  have ov : ovC u = false := by unfold ovC; rw [h21]; decide
  have nf : nF u = 0 := by unfold nF; rw [h75, zn]
  have ng : nG u = 0 := by unfold nG; rw [h77, zn]
  refine ⟨fun p => ⟨⟨?_, ?_, ?_⟩, ?_, rfl⟩, rfl, ?_, ?_, ?_, fun p _ => ?_, fun f hf => ?_, fun _ k hk => ?_⟩
  · have e : gls L2 u = [] := by
      unfold gls
      rw [h77, zn]
      rfl
    unfold eC
    rw [e]
    rfl
  · rw [f.2.2, f.1]; omega
  · rw [h77]; omega
  · rw [h26]; exact z0
  · rw [h75]; omega
  · show [] = _
    unfold fsC
    rw [nf]
    rfl
  · show [] = _
    unfold gsC
    rw [ng]
    rfl
  · rw [bgF]
    show mkP (u.1 0 305) (u.1 0 306) (decide (u.1 0 307 = u.1 0 305)) 0 0 0 (false || dhas isT (u.1 378) (u.1 379) (nD u)) (false || dhas isD (u.1 378) (u.1 379) (nD u)) false (ovC u) (wdC (Gp p) u) 0 [] (caC (Gp p) u) = mkP 0 0 false 0 0 0 false false false false 2 0 [] []
    have nd : nD u = 0 := by unfold nD; rw [h81, zn]
    have nc : nC u = 0 := by unfold nC; rw [h21, zn]
    have wd : wdC (Gp p) u = 2 := by
      unfold wdC
      rw [ov, nd, nc, if_neg Bool.false_ne_true]
      show (2 : Int32) + 0 + 0 = 2
      decide
    have ca : caC (Gp p) u = [] := by
      unfold caC
      rw [ov, nc, if_neg Bool.false_ne_true]
      rfl
    rw [wd, ca, ov, nd, f.1, f.2.1, f.2.2]
    rfl
  · rw [nf] at hf
    omega
  · rw [h81] at hk
    omega
theorem cReadT (rd : RD L1 L2) (h : Q_x_X5_readText L1 L2 v ps t u) : ∃ u2, Q_x_X9_scan L1 L2 (wA v 0 327 ps) ps u2 ∧ ((t = false ∧ ∃ y W w, tText SP (kC u2) X0 = .ok y ∧ CIq L1 L2 (kC u2) W w y ∧ ovC w = false ∧ (0 ≤ (w.1 0 321).toInt ∧ (w.1 0 321).toInt ≤ 501) ∧ Q_x_X1_link L1 L2 w u ∧ K_x_X1_link w u) ∨ (t = true ∧ tText SP (kC u2) X0 = .error (u.1 0 308, u.1 0 309))) := by
  obtain ⟨-, u2, h2, -, u5, h5, -, u8, h8, -, ka, w30, hr, fc, b304, b305, b306, b321, b326, b381, -, -, bka, h⟩ := h
  obtain ⟨u3, h3, -, e5⟩ := h5
  have e3 : u3 = (wA (wA (wA (wA (wA (wA u2 0 310 ps) 0 375 0) 0 377 0) 0 381 0) 0 383 0) 0 384 0) := h3
  have e8 : u8 = wA u5 0 326 0 := h8
  have F := scan_f h2
  have k8 : kC u8 = kC u2 := by rw [e8, e5, e3]; rfl
  have C : CIq L1 L2 (kC u2) (fun _ => 0) u8 X0 := by
    rw [← k8]
    refine CI0 ?_ ?_ ?_ ?_ ?_ ?_
    · rw [e8, e5, e3]; exact F
    · rw [e8, e5]; rfl
    · rw [e8]; rfl
    · rw [e8, e5, e3]; rfl
    · rw [e8, e5, e3]; rfl
    · rw [e8, e5, e3]; rfl
  have c5 : (u8.1 0 305).toInt = 0 := by
    have : u8.1 0 305 = 0 := by rw [e8, e5, e3]; exact F.1
    rw [this]
    decide
  refine ⟨u2, h2, ?_⟩
  have R := cText (t := t) (u := u) rd SP_c C c5 (fun y hy => nov_P hy) hr b305 b321 b381 (by
    rcases h with ⟨a, -⟩ | h
    · exact Or.inl ⟨a, trivial⟩
    · exact Or.inr h)
  rcases R with ⟨e1, y, W', q1, q2, q3, q4, q5⟩ | q
  · exact Or.inl ⟨e1, y, W', w30, q1, q2, q3, b321, q4, q5⟩
  · exact Or.inr q
end CRD
