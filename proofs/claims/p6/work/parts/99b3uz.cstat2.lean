/-! the class's deeds: locals, what a statement leaves -/
/-- from one statement's beginning to its end -/
def SS (L2 : List Nat) (e : PE) (P : Int32 × Int32 × Int32) (v u : MS) (a : List EV) : Prop := (JC L2 e u ∧ EA P v u a ∧ LBe u) ∧ u.1 0 314 = v.1 0 314 ∧ KT v u ∧ (u.1 0 331 = v.1 0 331 ∧ u.1 0 332 = v.1 0 332 ∧ u.1 0 333 = v.1 0 333) ∧ ((v.1 0 312).toInt ≤ (u.1 0 312).toInt ∧ ∀ j : Nat, (j : Int) < (v.1 0 312).toInt → u.1 311 j = v.1 311 j)
section UZS
variable {L1 L2 : List Nat} {P : Int32 × Int32 × Int32} {v u w x : MS} {a b : List EV} {e : PE} {pa pb pc1 pd r : Int32} {t : Bool} {E : EvE} {n : Nat}
theorem SS.rf (J : JC L2 e v) (B : LBe v) : SS L2 e P v v [] := ⟨⟨J, (ES.rf (P := P) J B).2.1, B⟩, rfl, KT.rf, ⟨rfl, rfl, rfl⟩, Int.le_refl _, fun _ _ => rfl⟩
theorem SS.tr (h : SS L2 e P v u a) (k : SS L2 e P u w b) (B : LBe v) : SS L2 e P v w (a ++ b) := by
  obtain ⟨⟨a1, a2, a3⟩, a4, a5, ⟨a6, a7, a8⟩, a9, a10⟩ := h
  obtain ⟨⟨b1, b2, b3⟩, b4, b5, ⟨b6, b7, b8⟩, b9, b10⟩ := k
  exact ⟨⟨b1, a2.tr b2 B.2.2.2, b3⟩, b4.trans a4, a5.tr b5, ⟨b6.trans a6, b7.trans a7, b8.trans a8⟩, Int.le_trans a9 b9, fun j hj => (b10 j (by omega)).trans (a10 j hj)⟩
theorem ES.ss {fl al : List Nat} (h : ES L2 e P v u a) (k : KT v u) (f : FC fl al v u) (g : 331 ∉ fl ∧ 332 ∉ fl ∧ 333 ∉ fl := by decide) (g2 : 311 ∉ al := by decide) : SS L2 e P v u a :=
  ⟨⟨h.1, h.2.1, h.2.2.1⟩, h.2.2.2.2.1, k, ⟨f.2.1 331 g.1, f.2.1 332 g.2.1, f.2.1 333 g.2.2⟩, by rw [h.2.2.2.2.2]; exact Int.le_refl _, fun j _ => congrFun (f.2.2 311 ⟨by decide, g2⟩) j⟩
/-- a name is learnt -/
theorem SS.lrn (h : Q_x_X1_learn L1 L2 v pa u) (k : K_x_X1_learn v pa u) (J : JC L2 e v) (B : LBe v) (h5 : (v.1 0 312).toInt < 500) : SS L2 e P v u [] ∧ u.1 0 305 = v.1 0 305 ∧ knC u = knC v ++ [pa] := by
  have e5 : u.1 0 305 = v.1 0 305 := k.1.2.1 305 (by decide)
  have A : EA P v u [] := EA.fc k.1 (h3 := by rw [e5]; exact Int.le_refl _)
  obtain ⟨-, h⟩ := h
  rcases h with ⟨c, -⟩ | ⟨c, e9⟩
  · omega
  have b0 := B.2.2.1.1
  have n0 := natI b0
  have i12 : ((v.1 0 312) + (1 : Int32)).toInt = (v.1 0 312).toInt + 1 := add_z rfl (by decide) (by omega) (by omega)
  have u12 : u.1 0 312 = v.1 0 312 + 1 := by rw [e9]; rfl
  have u11 : u.1 311 = upd (v.1 311) (v.1 0 312).toNatClampNeg pa := by rw [e9]; rfl
  have lo : ∀ j : Nat, (j : Int) < (v.1 0 312).toInt → u.1 311 j = v.1 311 j := fun j hj => by rw [u11]; exact updN_ (by omega)
  refine ⟨⟨⟨J.fr k.1 k.2.2 (by decide) (by decide) (by rw [e5, k.1.2.1 307 (by decide)]; exact J.2.1), A, ?_⟩, k.1.2.1 314 (by decide), KT.fc k.1, ⟨k.1.2.1 331 (by decide), k.1.2.1 332 (by decide), k.1.2.1 333 (by decide)⟩, by rw [u12, i12]; omega, lo⟩, e5, ?_⟩
  · exact ⟨by rw [e5, k.1.2.1 317 (by decide)]; exact B.1, by rw [e5]; exact B.2.1, k.2.1, by rw [k.1.2.1 381 (by decide)]; exact B.2.2.2.1, by rw [k.1.2.1 321 (by decide)]; exact B.2.2.2.2⟩
  · unfold knC lst
    have nn : (u.1 0 312).toNatClampNeg = (v.1 0 312).toNatClampNeg + 1 := by
      rw [u12]
      have := natI (a := v.1 0 312 + 1) (by omega)
      omega
    rw [nn, lst_snoc]
    congr 1
    · refine List.map_congr_left fun j hj => lo j ?_
      have := List.mem_range.mp hj
      omega
    · rw [u11, updS]
/-- a local -/
theorem eLocal (hE : XE L2 (QE L1 L2 n) E) (hK : XK (QE L1 L2 n)) (h : Q_x_X5_local L1 L2 n v false u) (J : JC L2 e v) (B : LBe v) (t6 : T6 v) (cu : (u.1 0 321).toInt ≤ 500) (p0 : v.1 0 314 = 0) : ∃ a, gLocal E e (knC v) (v.1 0 314) (v.1 0 305) = some (a, knC u, u.1 0 305) ∧ SS L2 e P v u a := by
  obtain ⟨-, -, -, -, -, -, -, -, -, -, h⟩ := h
  rcases h with ⟨u9, -, f, -⟩ | ⟨u2, h2, k2, ⟨u9, -, f, -⟩ | ⟨r11, u10, h10, k10, ⟨u9, -, f, -⟩ | ⟨u19, h19, k19, r24, h24, ⟨u9, -, f, -⟩ | ⟨u29, h29, k29, r34, hk, h⟩⟩⟩⟩
  · cases f
  · cases f
  · cases f
  · cases f
  have T := ES.take (P := P) h2 k2 J B
  have n10 : u10 = u2 ∧ r11 = e.2.1 (u2.1 0 305) := by
    obtain ⟨-, -, -, -, -, -, -, h10⟩ := h10
    rcases h10 with ⟨u9, -, f, -⟩ | ⟨x, hx, -, r8, -, r13, -, -, ⟨-, r18, h18, -, er, eu⟩ | ⟨-, r25, -, u9, -, f, -⟩⟩
    · cases f
    · obtain ⟨ex, -⟩ := eNeed (m := 2) (by decide) hx T.1.1
      rw [ex] at h18 eu
      exact ⟨eu, er.trans (vlC h18 T.1.1)⟩
    · cases f
  rw [n10.1] at h19 k19
  have w19 : (u2.1 0 312 + u2.1 0 314 + 1).toInt ≤ 500 := by
    obtain ⟨-, -, -, -, -, -, -, r3, x, hx, kx, h19⟩ := h19
    rcases h19 with ⟨c, -, -⟩ | ⟨-, r15, -, u9, -, f, -⟩
    · obtain ⟨-, g1, -, hx⟩ := hx
      rcases hx with ⟨-, er, -⟩ | ⟨c2, -, -⟩
      · rw [er] at c
        exact absurd (by decide) c
      · exact c2
    · cases f
  have i12 : (v.1 0 312).toInt < 500 := by
    rw [k2.1.2.1 312 (by decide), k2.1.2.1 314 (by decide), p0, Int32.add_zero] at w19
    have b := B.2.2.1
    rw [add_z (x := v.1 0 312) (y := 1) (b := 1) rfl (by decide) (by omega) (by omega)] at w19
    omega
  have e19 : u19.1 0 305 = u2.1 0 305 := k19.1.2.1 305 (by decide)
  have W : ES L2 e P u2 u19 [] := ES.fr k19.1 k19.2.2 T.1.1 T.1.2.2.1 (by rw [e19]; exact ⟨Int.le_refl _, T.1.2.2.1.2.1⟩) (by rw [e19, k19.1.2.1 307 (by decide)]; exact T.1.1.2.1)
  have e24 : r24 = gsl (knC v) (v.1 0 314) := by
    rw [gslC B.2.2.1, ← k2.1.2.1 312 (by decide), ← k2.1.2.1 314 (by decide), ← k19.1.2.1 312 (by decide), ← k19.1.2.1 314 (by decide)]
    exact h24.2
  have T2 := ES.take (P := P) h29 k29 W.1 W.2.2.1
  have S29 := ((T.1.tr W B).tr T2.1 B)
  have KT29 : KT v u29 := ((KT.fc k2.1).tr (KT.fc k19.1)).tr (KT.fc k29.1)
  have a29 : u29.1 0 305 = v.1 0 305 + 2 := by rw [T2.2, e19, T.2, Int32.add_assoc]; rfl
  have ek := kdC hk T2.1.1
  rw [a29] at ek
  have F29 : SS L2 e P v u29 [] := ((T.1.ss (KT.fc k2.1) k2.1).tr (W.ss (KT.fc k19.1) k19.1) B).tr (T2.1.ss (KT.fc k29.1) k29.1) B
  have nm : r11 = e.2.1 (v.1 0 305 + 1) := by rw [n10.2, T.2]
  have fin : ∀ {y z : MS} {c : List EV} {i : Int32}, SS L2 e P u29 y c → knC y = knC v → y.1 0 312 = v.1 0 312 → Q_x_X9_expect L1 L2 y 36 false z → K_x_X9_expect y 36 z → Q_x_X1_learn L1 L2 z r11 u → K_x_X1_learn z r11 u → SS L2 e P v u c ∧ gTok e 36 (y.1 0 305) = some (u.1 0 305) ∧ knC u = knC v ++ [e.2.1 (v.1 0 305 + 1)] := by
    intro y z c i S ky y12 hx kx hl kl
    have X := ES.exp (P := P) (m := 36) (by decide) hx kx S.1.1 S.1.2.2
    have Lr := SS.lrn (P := P) hl kl X.1.1 X.1.2.2.1 (by rw [X.1.2.2.2.2.2, y12]; exact i12)
    have T9 := ((F29.tr S B).tr (X.1.ss (KT.fc kx.1) kx.1) B).tr Lr.1 B
    simp only [List.nil_append, List.append_nil] at T9
    exact ⟨T9, by rw [Lr.2.1]; exact X.2, by rw [Lr.2.2, X.1.2.2.2.1, ky, nm]⟩
  have kn29 : knC u29 = knC v := S29.2.2.2.1
  have e12 : u29.1 0 312 = v.1 0 312 := S29.2.2.2.2.2
  rcases h with ⟨c, u40, h40, k40, u43, h43, k43, ⟨u9, -, f, -⟩ | ⟨u53, h53, k53, u60, h60, k60, -, eu⟩⟩ | ⟨c, ⟨u9, -, f, -⟩ | ⟨u98, h98, k98, ⟨u9, -, f, -⟩ | ⟨u126, h126, k126, u129, h129, k129, ⟨u9, -, f, -⟩ | ⟨u137, h137, k137, u143, h143, k143, -, eu⟩⟩⟩⟩
  · cases f
  · rw [← eu] at h60 k60
    have A1 := ES.add (P := P) (y := 0) h40 k40 T2.1.1 T2.1.2.2.1 (by unfold plE; decide) rfl
    have A2 := ES.add (P := P) (y := 1) h43 k43 A1.1.1 A1.1.2.2.1 (by unfold plE; decide) rfl
    have D := ES.drp (P := P) A2.1.1 A2.1.2.2.1
    have S := (((A1.1.ss (KT.fc k40.1) k40.1).tr (A2.1.ss (KT.fc k43.1) k43.1) T2.1.2.2.1).tr (D.ss (fl := []) (al := []) KT.rf (FC.rf _)) T2.1.2.2.1)
    have G := fin (i := 0) S (by rw [A2.1.2.2.2.1, A1.1.2.2.2.1, kn29]) (by rw [A2.1.2.2.2.2.2, A1.1.2.2.2.2.2, e12]) h53 k53 h60 k60
    refine ⟨_, ?_, G.1⟩
    unfold gLocal
    have g := G.2.1
    rw [A2.2, A1.2, a29] at g
    rw [if_neg (by rw [← ek]; exact c), Option.bind_some, g, Option.bind_some, G.2.2, e24]
    rfl
  · cases f
  · cases f
  · cases f
  · rw [← eu] at h143 k143
    have T3 := ES.take (P := P) h98 k98 T2.1.1 T2.1.2.2.1
    have t98 : T6 u98 := (((t6.fr k2.1).fr k19.1).fr k29.1).fr k98.1
    have c126 : (u126.1 0 321).toInt ≤ 500 := by
      have := fc21 k129.1
      have := fc21 k137.1
      have := fc21 k143.1
      omega
    obtain ⟨a, x1, x2⟩ := hE.es (P := P) (bz := true) h126 k126 T3.1.1 T3.1.2.2.1 t98.tp c126 (by decide)
    have A2 := ES.add (P := P) (y := 1) h129 k129 x2.1 x2.2.2.1 (by unfold plE; decide) rfl
    have D := ES.drp (P := P) A2.1.1 A2.1.2.2.1
    have S := (((T3.1.ss (KT.fc k98.1) k98.1).tr (x2.ss (hK _ _ _ h126) k126.1) T2.1.2.2.1).tr (A2.1.ss (KT.fc k129.1) k129.1) T2.1.2.2.1).tr (D.ss (fl := []) (al := []) KT.rf (FC.rf _)) T2.1.2.2.1
    have G := fin (i := 0) S (by rw [A2.1.2.2.2.1, x2.2.2.2.1, T3.1.2.2.2.1, kn29]) (by rw [A2.1.2.2.2.2.2, x2.2.2.2.2.2, T3.1.2.2.2.2.2, e12]) h137 k137 h143 k143
    refine ⟨_, ?_, G.1⟩
    unfold gLocal
    have g := G.2.1
    rw [A2.2] at g
    have a98 : u98.1 0 305 = v.1 0 305 + 3 := by rw [T3.2, a29, Int32.add_assoc]; rfl
    rw [T3.1.2.2.2.1, kn29, T3.1.2.2.2.2.1, S29.2.2.2.2.1, a98] at x1
    rw [if_pos (by rw [← ek]; exact c), x1, Option.bind_some, g, Option.bind_some, G.2.2, e24]
    simp only [List.nil_append, List.append_assoc, List.cons_append]
end UZS
