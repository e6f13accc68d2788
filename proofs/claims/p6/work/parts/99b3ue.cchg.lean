/-! the class's deeds: settings -/
section UEC
variable {L1 L2 : List Nat} {P : Int32 × Int32 × Int32} {v u w : MS} {a b : List EV} {e : PE} {pa pb pc1 pd r : Int32} {t : Bool} {E : EvE} {R : MS → Int32 → Bool → MS → Prop}
theorem JC.w14 {x : Int32} (J : JC L2 e v) : JC L2 e (wA v 0 314 x) := J.fr (FC.f (fl := [314]) (al := [0]) (FC.rf v) x (by decide)) (RS.w0 RS.rf (by decide)) (by decide) (by decide) J.2.1
theorem a1s1 (x : Int32) : x + (1 : Int32) - (1 : Int32) = x := Int32.add_sub_cancel x 1
/-- a number put by, an expression -/
theorem eHold (hE : XE L2 R E) (h : R (wA v 0 314 (v.1 0 314 + (1 : Int32))) 1 false u) (k : K_x_X2_expression (wA v 0 314 (v.1 0 314 + (1 : Int32))) 1 u) (J : JC L2 e v) (B : LBe v) (tp : TPE v) (c : (u.1 0 321).toInt ≤ 500) : ∃ a, E true e (knC v) (v.1 0 314 + 1) (v.1 0 305) = some (a, u.1 0 305) ∧ JC L2 e u ∧ EA P v u a ∧ u.1 0 314 - (1 : Int32) = v.1 0 314 ∧ LBe u ∧ knC u = knC v ∧ u.1 0 312 = v.1 0 312 := by
  obtain ⟨a, x1, x2, x3, x4, x5, x6⟩ := hE.at (P := P) (bz := true) h k J.w14 (show LBe (wA v 0 314 _) from B) (show TPE (wA v 0 314 _) from tp) c (by decide)
  have T := (EA.wr (P := P) (v := v) 314 (v.1 0 314 + (1 : Int32))).tr x3 B.2.2.2
  rw [List.nil_append] at T
  exact ⟨a, x1, x2, T, by rw [x4]; exact a1s1 _, x5, x6, k.1.2.1 312 (by decide)⟩
/-- a deed, its frame -/
theorem eAdd {y : Int32} (h : Q_x_X1_add L1 L2 v pa pb pc1 u) (k : K_x_X1_add v pa pb pc1 u) (J : JC L2 e v) (B : LBe v) (hp : plE pa) (hy : pc1 = if pa = 4 then 0 else y) : JC L2 e u ∧ EA P v u [evx pa pb y] ∧ LBe u ∧ knC u = knC v ∧ u.1 0 305 = v.1 0 305 ∧ u.1 0 314 = v.1 0 314 ∧ u.1 0 312 = v.1 0 312 := by
  have A : EA P v u [evx pa pb y] := EA.add h hp hy
  have e5 : u.1 0 305 = v.1 0 305 := k.1.2.1 305 (by decide)
  refine ⟨J.fr k.1 k.2.2.2 (by decide) (by decide) (by rw [e5, k.1.2.1 307 (by decide)]; exact J.2.1), A, B.tr A (by rw [e5]; exact B.2.1) (k.1.2.1 312 (by decide)), knC_fr k.1, e5, k.1.2.1 314 (by decide), k.1.2.1 312 (by decide)⟩
def prE (row : Bool) (sl : Int) (g : Int32) : EV := if row = true then evx 10 0 0 else gRead sl g
theorem eChgBy {sl : Int} (hE : XE L2 R E) (h : Q_x_X2_changeBy L1 L2 R v pa pb pc1 pd false u) (J : JC L2 e v) (B : LBe v) (tp : TPE v) (c : (u.1 0 321).toInt ≤ 500) (hs : (pb.toInt = -1 → sl < 0) ∧ (pb.toInt ≠ -1 → 0 ≤ sl ∧ pb = Int32.ofInt sl)) (h53 : plE 20) :
    ∃ a, E true e (knC v) (v.1 0 314 + 1) (v.1 0 305) = some (a, u.1 0 305) ∧ JC L2 e u ∧ EA P v u ([prE (decide (pd.toInt ≠ 0)) sl pc1] ++ [evx 4 (v.1 0 312 + v.1 0 314) 0] ++ a ++ [evx 20 pa (v.1 0 312 + v.1 0 314)]) ∧ u.1 0 314 = v.1 0 314 ∧ LBe u ∧ knC u = knC v ∧ u.1 0 312 = v.1 0 312 := by
  have main : ∀ {x y z : MS} {r9 : Int32} {q : EV}, JC L2 e x → EA P v x [q] → LBe x → knC x = knC v → x.1 0 305 = v.1 0 305 → x.1 0 314 = v.1 0 314 → x.1 0 312 = v.1 0 312 → TPE x → Q_x_X1_nextSlot L1 L2 x r9 → Q_x_X1_add L1 L2 x 4 r9 0 y → K_x_X1_add x 4 r9 0 y → R (wA y 0 314 (y.1 0 314 + (1 : Int32))) 1 false z → K_x_X2_expression (wA y 0 314 (y.1 0 314 + (1 : Int32))) 1 z → Q_x_X1_add L1 L2 (wA z 0 314 (z.1 0 314 - (1 : Int32))) 20 pa r9 u → K_x_X1_add (wA z 0 314 (z.1 0 314 - (1 : Int32))) 20 pa r9 u →
      ∃ a, E true e (knC v) (v.1 0 314 + 1) (v.1 0 305) = some (a, u.1 0 305) ∧ JC L2 e u ∧ EA P v u ([q] ++ [evx 4 (v.1 0 312 + v.1 0 314) 0] ++ a ++ [evx 20 pa (v.1 0 312 + v.1 0 314)]) ∧ u.1 0 314 = v.1 0 314 ∧ LBe u ∧ knC u = knC v ∧ u.1 0 312 = v.1 0 312 := by
    intro x y z r9 q Jx Ax Bx kx e5 e14 e12 tx h9 h13 k13 hz kz h32 k32
    have er : r9 = v.1 0 312 + v.1 0 314 := by rw [← e12, ← e14]; exact h9.2
    obtain ⟨Jy, Ay, By, ky, y5, y14, y12⟩ := eAdd (P := P) (y := 0) h13 k13 Jx Bx (by unfold plE; decide) rfl
    have A32 : EA P (wA z 0 314 (z.1 0 314 - (1 : Int32))) u [evx 20 pa r9] := EA.add h32 h53 rfl
    have cz : (z.1 0 321).toInt ≤ 500 := by have : (z.1 0 321).toInt ≤ (u.1 0 321).toInt := A32.cm; omega
    obtain ⟨a, x1, x2, x3, x4, x5, x6, x7⟩ := eHold (P := P) hE hz kz Jy By (tpe_fr k13.1 (by decide) tx) cz
    obtain ⟨Ju, Au, Bu, ku, u5, u14, u12⟩ := eAdd (P := P) (y := r9) h32 k32 x2.w14 (show LBe (wA z 0 314 _) from x5) h53 rfl
    refine ⟨a, ?_, Ju, ?_, ?_, Bu, ?_, ?_⟩
    · rw [← kx, ← ky, ← e14, ← y14, ← e5, ← y5, x1]
      exact congrArg (fun q => some (a, q)) u5.symm
    · have T := (((Ax.tr Ay B.2.2.2).tr x3 B.2.2.2).tr (EA.wr (P := P) (v := z) 314 (z.1 0 314 - (1 : Int32))) B.2.2.2).tr Au B.2.2.2
      rw [List.append_nil, er] at T
      exact T
    · exact u14.trans (show z.1 0 314 - (1 : Int32) = v.1 0 314 by rw [x4, y14, e14])
    · exact ku.trans (show knC (wA z 0 314 _) = knC v from by rw [show knC (wA z 0 314 (z.1 0 314 - (1 : Int32))) = knC z from rfl, x6, ky, kx])
    · exact u12.trans (show z.1 0 312 = v.1 0 312 by rw [x7, y12, e12])
  obtain ⟨-, -, -, -, -, -, -, -, -, -, h⟩ := h
  rcases h with ⟨c0, u4, h4, k4, r9, h9, u13, h13, k13, ⟨u9, -, q, -⟩ | ⟨u29, h29, k29, u32, h32, k32, -, e9⟩⟩ | ⟨c0, u4, h4, k4, r9, h9, u13, h13, k13, ⟨u9, -, q, -⟩ | ⟨u29, h29, k29, u32, h32, k32, -, e9⟩⟩
  · cases q
  · rw [e9] at c ⊢
    rw [e9] at main
    have e0 : prE (decide (pd.toInt ≠ 0)) sl pc1 = gRead sl pc1 := if_neg (by rw [c0]; decide)
    rw [e0]
    obtain ⟨A4, F4, S4⟩ := eRead (P := P) h4 hs
    have f5 : u4.1 0 305 = v.1 0 305 := F4.2.1 305 (by decide)
    exact main (J.fr F4 S4 (by decide) (by decide) (by rw [f5, F4.2.1 307 (by decide)]; exact J.2.1)) A4 (B.tr A4 (by rw [f5]; exact B.2.1) (F4.2.1 312 (by decide))) (knC_fr F4) f5 (F4.2.1 314 (by decide)) (F4.2.1 312 (by decide)) (tpe_fr F4 (by decide) tp) h9 h13 k13 h29 k29 h32 k32
  · cases q
  · rw [e9] at c ⊢
    rw [e9] at main
    have e0 : prE (decide (pd.toInt ≠ 0)) sl pc1 = evx 10 0 0 := if_pos (decide_eq_true c0)
    rw [e0]
    obtain ⟨Jy, Ay, By, ky, y5, y14, y12⟩ := eAdd (P := P) (y := 0) h4 k4 J B (by unfold plE; decide) rfl
    exact main Jy Ay By ky y5 y14 y12 (tpe_fr k4.1 (by decide) tp) h9 h13 k13 h29 k29 h32 k32
end UEC
