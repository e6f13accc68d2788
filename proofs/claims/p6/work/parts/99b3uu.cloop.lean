/-! the class's deeds: signs begun and done, over the row of those that wait -/
section UUL
variable {L1 L2 : List Nat} {P : Int32 × Int32 × Int32} {s v u w w1 x z : MS} {a b c : List EV} {e : PE} {pa pb pc1 pd r m : Int32} {k : Int32} {O : EvO} {X : Option (List EV × Int32)} {kn : List Int32}
/-- those that wait: n of them in the row, and the left sides -/
def CHq (P : Int32 × Int32 × Int32) (kn : List Int32) (v w : MS) : List FQ → Int → Prop
  | [], n => n = (v.1 0 326).toInt
  | q :: l, n => (v.1 0 326).toInt + 1 ≤ n ∧ w.1 324 (n - 1).toNat = q.1 ∧ SBq q.1 (w.1 325 (n - 1).toNat) (wQ q) (tQ q) ∧ sQ q = hdQ v l ∧ EA P (sQ q) (wQ q) q.2.2.2.2.1 ∧ LBe (sQ q) ∧ LBe (wQ q) ∧ LBe (tQ q) ∧ (wQ q).1 0 314 = q.2.2.2.1 ∧ (sQ q).1 0 314 = q.2.2.2.1 ∧ gsl kn q.2.2.2.1 = (wQ q).1 0 312 + (wQ q).1 0 314 ∧ q.2.2.1 = lvQ l ∧ (lvQ l ≤ (stg q.1).toInt ∧ (sQ q).1 0 312 = v.1 0 312) ∧ CHq P kn v w l (n - 1)
theorem CHq.cg (h0 : 0 ≤ (v.1 0 326).toInt) : ∀ (l : List FQ) (n : Int), (∀ j : Nat, (j : Int) < n → u.1 324 j = w.1 324 j ∧ u.1 325 j = w.1 325 j) → CHq P kn v w l n → CHq P kn v u l n
  | [], n, _, h => h
  | q :: l, n, hk, h => by
    obtain ⟨a1, a2, a3, a4⟩ := h
    have y := hk (n - 1).toNat (by omega)
    exact ⟨a1, y.1.trans a2, by rw [y.2]; exact a3, a4.1, a4.2.1, a4.2.2.1, a4.2.2.2.1, a4.2.2.2.2.1, a4.2.2.2.2.2.1, a4.2.2.2.2.2.2.1, a4.2.2.2.2.2.2.2.1, a4.2.2.2.2.2.2.2.2.1, a4.2.2.2.2.2.2.2.2.2.1, CHq.cg h0 l (n - 1) (fun j hj => hk j (by omega)) a4.2.2.2.2.2.2.2.2.2.2⟩
theorem CHq.len : ∀ (l : List FQ) (n : Int), CHq P kn v w l n → n = (v.1 0 326).toInt + l.length ∧ (l.length : Int) + 1 ≤ lvQ l
  | [], n, h => ⟨by have h : n = (v.1 0 326).toInt := h; rw [h]; simp, by show (0 : Int) + 1 ≤ 1; omega⟩
  | q :: l, n, h => by
    obtain ⟨a1, a2, a3, a4⟩ := h
    have y := CHq.len l (n - 1) a4.2.2.2.2.2.2.2.2.2.2
    have z := a4.2.2.2.2.2.2.2.2.2.1.1
    refine ⟨by rw [List.length_cons]; omega, ?_⟩
    show ((l.length + 1 : Nat) : Int) + 1 ≤ (stg q.1).toInt + 1
    omega
/-- where the class stands within an expression, and what is left to be read -/
def SLQ (L2 : List Nat) (e : PE) (P : Int32 × Int32 × Int32) (O : EvO) (X : Option (List EV × Int32)) (v : MS) (l : List FQ) (f : Nat) (b : List EV) (w : MS) : Prop :=
  (JC L2 e w ∧ LBe w ∧ knC w = knC v ∧ w.1 0 312 = v.1 0 312) ∧ EA P (hdQ v l) w b ∧ w.1 0 314 = (hdQ v l).1 0 314 ∧ (LBe (hdQ v l) ∧ (hdQ v l).1 0 312 = v.1 0 312) ∧ CHq P (knC v) v w l (w.1 0 326).toInt ∧ (∀ q ∈ l, 1500 - (w.1 0 305).toInt < q.2.1) ∧ 1500 - (w.1 0 305).toInt < f ∧ X = gK O e (knC v) l (gJ O f (lvQ l) e (knC v) (w.1 0 314) b (w.1 0 305)) ∧ (∀ j : Nat, (j : Int) < (v.1 0 326).toInt → w.1 324 j = v.1 324 j ∧ w.1 325 j = v.1 325 j)
theorem gJ_stop {f : Nat} {lv : Int} {pb i : Int32} (h : (stg (e.1 i)).toInt < lv ∨ (stg (e.1 i)).toInt ≤ 0) (hf : 0 < f) : gJ O f lv e kn pb b i = some (b, i) := by
  obtain ⟨f0, hf⟩ : ∃ f0, f = f0 + 1 := ⟨f - 1, by omega⟩
  rw [hf]
  exact if_pos h
/-- one sign that waits is done -/
theorem eFin1 (h0 : 0 ≤ (v.1 0 326).toInt) {q : FQ} {l : List FQ} {f : Nat} (S : SLQ L2 e P O X v (q :: l) f b w) (hb : (stg (e.1 (w.1 0 305))).toInt < (stg q.1).toInt + 1 ∨ (stg (e.1 (w.1 0 305))).toInt ≤ 0) (n : Int32) (hn : n.toInt + 1 = (w.1 0 326).toInt)
    (h : ((q.1.toInt = 69 ∨ q.1.toInt = 70) ∧ ∃ u19, Q_x_X1_add L1 L2 (wA w 0 326 n) 15 0 0 u19 ∧ K_x_X1_add (wA w 0 326 n) 15 0 0 u19 ∧ Q_x_X1_setLabel L1 L2 u19 (w.1 325 n.toNatClampNeg) u ∧ K_x_X1_setLabel u19 (w.1 325 n.toNatClampNeg) u) ∨ (¬ (q.1.toInt = 69 ∨ q.1.toInt = 70) ∧ Q_x_X1_add L1 L2 (wA (wA w 0 326 n) 0 314 (w.1 0 314 - 1)) 20 q.1 (w.1 325 n.toNatClampNeg) u ∧ K_x_X1_add (wA (wA w 0 326 n) 0 314 (w.1 0 314 - 1)) 20 q.1 (w.1 325 n.toNatClampNeg) u)) :
    SLQ L2 e P O X v l q.2.1 (gSign q.1 (gsl (knC v) q.2.2.2.1) q.2.2.2.2.1 b) u ∧ u.1 0 305 = w.1 0 305 ∧ u.1 0 326 = n := by
  obtain ⟨⟨J, B, ekn, e12⟩, A, e14, Bt, C, wf, hf, hX, hk⟩ := S
  have C0 := C
  obtain ⟨c1, c2, c3, c4, c5, c6, c7, c8, c9, c10, c11, c12, c13, c14⟩ := C
  have nn := natI (a := n) (by omega)
  have en : ((w.1 0 326).toInt - 1).toNat = n.toNatClampNeg := by omega
  rw [en] at c2 c3
  have at5 := B.2.1
  have X1 : X = gK O e (knC v) l (gJ O q.2.1 (lvQ l) e (knC v) q.2.2.2.1 (gSign q.1 (gsl (knC v) q.2.2.2.1) q.2.2.2.2.1 b) (w.1 0 305)) := by
    rw [hX]
    show gK O e (knC v) l ((gJ O f ((stg q.1).toInt + 1) e (knC v) _ b (w.1 0 305)).bind _) = _
    rw [gJ_stop hb (by omega), Option.bind_some, c12]
  have fin : EA P (hdQ v l) u (gSign q.1 (gsl (knC v) q.2.2.2.1) q.2.2.2.2.1 b) → u.1 0 305 = w.1 0 305 → u.1 0 326 = n → JC L2 e u → u.1 0 312 = w.1 0 312 → knC u = knC w → u.1 0 314 = q.2.2.2.1 → u.1 324 = w.1 324 → u.1 325 = w.1 325 → SLQ L2 e P O X v l q.2.1 (gSign q.1 (gsl (knC v) q.2.2.2.1) q.2.2.2.2.1 b) u ∧ u.1 0 305 = w.1 0 305 ∧ u.1 0 326 = n := by
    intro g1 g2 g3 g4 g5 g6 g7 g8 g9
    rw [← c4] at g1
    have Bu : LBe u := c6.tr g1 (by rw [g2]; exact at5) (by rw [g5, e12]; exact c13.2.symm)
    refine ⟨⟨⟨g4, Bu, g6.trans ekn, g5.trans e12⟩, by rw [← c4]; exact g1, by rw [g7, ← c4]; exact c10.symm, by rw [← c4]; exact ⟨c6, c13.2⟩, ?_, fun y hy => by rw [g2]; exact wf y (List.mem_cons_of_mem _ hy), by rw [g2]; exact wf q List.mem_cons_self, by rw [g2, g7]; exact X1, fun j hj => by rw [g8, g9]; exact hk j hj⟩, g2, g3⟩
    rw [g3, show n.toInt = (w.1 0 326).toInt - 1 by omega]
    exact CHq.cg h0 l _ (fun j _ => by rw [g8, g9]; exact ⟨rfl, rfl⟩) c14
  have J26 : ∀ y : Int32, JC L2 e (wA w 0 326 y) := fun y => J.fr (FC.f (fl := [326]) (al := [0]) (FC.rf w) y (by decide)) (RS.w0 RS.rf (by decide)) (by decide) (by decide) J.2.1
  have t14 : ∀ {m : Int32}, SBq q.1 m (wQ q) (tQ q) → ((q.1.toInt = 69 ∨ q.1.toInt = 70) → w.1 0 314 = q.2.2.2.1) ∧ (¬ (q.1.toInt = 69 ∨ q.1.toInt = 70) → w.1 0 314 - 1 = q.2.2.2.1 ∧ m = gsl (knC v) q.2.2.2.1) := fun {m} S => by
    have e14 : w.1 0 314 = (tQ q).1 0 314 := e14
    rcases S.2.2.2.2.2 with ⟨q1, -, -, -, q5⟩ | ⟨q1, -, q3, -, q5⟩
    · exact ⟨fun _ => by rw [e14, q5, c9], fun q2 => absurd q1 q2⟩
    · exact ⟨fun q2 => absurd q2 q1, fun _ => ⟨by rw [e14, q5, c9]; exact a1s1 _, by rw [q3, c11]⟩⟩
  rcases h with ⟨hk9, u19, h1, k1, h2, k2⟩ | ⟨hk9, h1, k1⟩
  · have G : EA P (sQ q) u (gSign q.1 (gsl (knC v) q.2.2.2.1) q.2.2.2.2.1 b) := eFinA c3 hk9 c5 ⟨c6.2.2.2, c6.1.1⟩ A c8.2.2.2 h1 h2 _
    have J19 : JC L2 e u19 := (J26 n).fr k1.1 k1.2.2.2 (by decide) (by decide) (by rw [k1.1.2.1 305 (by decide), k1.1.2.1 307 (by decide)]; exact J.2.1)
    refine fin (by rw [← c4]; exact G) ?_ ?_ (J19.fr k2.1 k2.2 (by decide) (by decide) (by rw [k2.1.2.1 305 (by decide), k2.1.2.1 307 (by decide)]; exact J19.2.1)) ?_ ?_ ?_ ?_ ?_
    · rw [k2.1.2.1 305 (by decide), k1.1.2.1 305 (by decide)]; rfl
    · rw [k2.1.2.1 326 (by decide), k1.1.2.1 326 (by decide)]; rfl
    · rw [k2.1.2.1 312 (by decide), k1.1.2.1 312 (by decide)]; rfl
    · have y := (knC_fr k2.1).trans (knC_fr k1.1)
      exact y
    · rw [k2.1.2.1 314 (by decide), k1.1.2.1 314 (by decide)]
      exact (t14 c3).1 hk9
    · rw [k2.1.2.2 324 (by decide), k1.1.2.2 324 (by decide)]; rfl
    · rw [k2.1.2.2 325 (by decide), k1.1.2.2 325 (by decide)]; rfl
  · have t := (t14 c3).2 hk9
    have G := eFinB c3 hk9 c5 c6.2.2.2 A h1
    rw [t.2] at G
    refine fin (by rw [← c4]; exact G) ?_ ?_ ((J26 n).w14.fr k1.1 k1.2.2.2 (by decide) (by decide) (by rw [k1.1.2.1 305 (by decide), k1.1.2.1 307 (by decide)]; exact J.2.1)) ?_ ?_ ?_ ?_ ?_
    · rw [k1.1.2.1 305 (by decide)]; rfl
    · rw [k1.1.2.1 326 (by decide)]; rfl
    · rw [k1.1.2.1 312 (by decide)]; rfl
    · have y := knC_fr k1.1
      exact y
    · rw [k1.1.2.1 314 (by decide)]
      exact t.1
    · rw [k1.1.2.2 324 (by decide)]; rfl
    · rw [k1.1.2.2 325 (by decide)]; rfl
end UUL
