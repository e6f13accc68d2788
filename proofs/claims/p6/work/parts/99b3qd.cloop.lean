/-! the class: signs that wait -/
abbrev FR : Type := Int32 × Nat × Int
def tKq (O : FO) (e : PE) : List FR → PX PS → PX PS
  | [], x => x
  | q :: l, x => tKq O e l (bd x fun s => tJ O q.2.1 q.2.2 e (tEnd q.1 s))
set_option maxHeartbeats 400000 in
theorem tK_er {O : FO} {e : PE} {k : Flt} : ∀ l : List FR, tKq O e l (.error k) = .error k
  | [] => rfl
  | q :: l => tK_er l
def pend (G : GH) : List FR → GH
  | [] => G
  | q :: l => gM (pend G l) q.1
def lvl : List FR → Int
  | [] => 1
  | q :: _ => (stg q.1).toInt + 1
def SK (fl : Int) (w : MS) : List FR → Int → Prop
  | [], n => n = fl
  | q :: l, n => fl < n ∧ w.1 324 (n - 1).toNat = q.1 ∧ SK fl w l (n - 1)
def WF (a : Int) : List FR → Prop
  | [] => True
  | q :: l => q.2.2 = lvl l ∧ lvl l ≤ (stg q.1).toInt ∧ (stg q.1).toInt ≤ 10 ∧ 1500 - a < q.2.1 ∧ WF a l
set_option maxHeartbeats 400000 in
theorem WF.mono {a b : Int} (h : a ≤ b) : ∀ l : List FR, WF a l → WF b l
  | [], _ => trivial
  | q :: l, w => ⟨w.1, w.2.1, w.2.2.1, by have := w.2.2.2.1; omega, WF.mono h l w.2.2.2.2⟩
set_option maxHeartbeats 400000 in
theorem WF.len {a : Int} : ∀ l : List FR, WF a l → (l.length : Int) + 1 ≤ lvl l
  | [], _ => Int.le_refl _
  | q :: l, w => by
    have := WF.len l w.2.2.2.2
    have := w.2.1
    show ((l.length + 1 : Nat) : Int) + 1 ≤ (stg q.1).toInt + 1
    omega
set_option maxHeartbeats 400000 in
theorem SK.len {fl : Int} {w : MS} : ∀ (l : List FR) (n : Int), SK fl w l n → n = fl + l.length
  | [], n, h => by rw [show n = fl from h]; simp
  | q :: l, n, h => by
    have := SK.len l (n - 1) h.2.2
    show n = fl + ((l.length + 1 : Nat) : Int)
    omega
set_option maxHeartbeats 400000 in
theorem SK.cg {fl : Int} {w u : MS} (h0 : 0 ≤ fl) : ∀ (l : List FR) (n : Int), (∀ j : Nat, (j : Int) < n → u.1 324 j = w.1 324 j) → SK fl w l n → SK fl u l n
  | [], n, _, h => h
  | q :: l, n, c, h => ⟨h.1, by rw [c _ (by have := h.1; omega)]; exact h.2.1, SK.cg h0 l (n - 1) (fun j hj => c j (by omega)) h.2.2⟩
set_option maxHeartbeats 400000 in
theorem pend_O (G : GH) : ∀ l : List FR, (pend G l).2.2.2.2 = G.2.2.2.2
  | [] => rfl
  | q :: l => pend_O G l
set_option maxHeartbeats 400000 in
theorem stg_s {k r : Int32} (h : Q_x_X9_strength k r) : r = stg k := by
  unfold stg
  rcases h with ⟨a, rfl⟩ | ⟨a, ⟨b, rfl⟩ | ⟨b, g7, rfl, rfl⟩⟩
  · rw [if_pos (Or.inl a)]
  · rw [if_pos (Or.inr b)]
  · rw [if_neg (fun w => w.elim (fun q => by omega) (fun q => by omega))]
theorem stg_p {k : Int32} (h : 0 < (stg k).toInt) : 53 ≤ k.toInt ∧ k.toInt ≤ 70 := by
  by_cases q : (k - 53).toInt < 0 ∨ (18 : Int) ≤ (k - 53).toInt
  · unfold stg at h
    rw [if_pos q] at h
    exact absurd h (by decide)
  · have q1 : 0 ≤ (k - 53).toInt ∧ (k - 53).toInt < 18 := by omega
    have e1 : ((k - 53) + 53).toInt = (k - 53).toInt + 53 := add_z rfl (by decide) (by omega) (by omega)
    rw [Int32.sub_add_cancel] at e1
    omega
set_option maxHeartbeats 400000 in
theorem gM_b {G : GH} {k : Int32} (h : k.toInt = 69 ∨ k.toInt = 70) : gM G k = G := by
  have e1 : isT k = false ∧ isD k = false := by
    rcases h with h | h
    · have : k = 69 := Int32.toInt_inj.mp (h.trans (by decide))
      rw [this]; decide
    · have : k = 70 := Int32.toInt_inj.mp (h.trans (by decide))
      rw [this]; decide
  unfold gM
  rw [e1.1, e1.2, Bool.or_false, Bool.or_false]
/-- below the floor nothing changes, no argument of another call either -/
def KF (fl : Int) (v u : MS) : Prop := (∀ j : Nat, (j : Int) < fl → u.1 324 j = v.1 324 j ∧ u.1 325 j = v.1 325 j) ∧ (v.1 0 321).toInt ≤ (u.1 0 321).toInt ∧ ∀ c : Nat, c < 500 → (c : Int) < (v.1 0 321).toInt → u.1 320 c = v.1 320 c
set_option maxHeartbeats 400000 in
theorem KF.rf {fl : Int} {v : MS} : KF fl v v := ⟨fun _ _ => ⟨rfl, rfl⟩, Int.le_refl _, fun _ _ _ => rfl⟩
set_option maxHeartbeats 400000 in
theorem KF.tr {fl : Int} {v u x : MS} (a : KF fl v u) (b : KF fl u x) : KF fl v x :=
  ⟨fun j h => ⟨(b.1 j h).1.trans (a.1 j h).1, (b.1 j h).2.trans (a.1 j h).2⟩, Int.le_trans a.2.1 b.2.1, fun c h1 h2 => (b.2.2 c h1 (Int.lt_of_lt_of_le h2 a.2.1)).trans (a.2.2 c h1 h2)⟩
set_option maxHeartbeats 400000 in
theorem KP.f {fl : Int} {v u : MS} (h : KP v u) (k : fl ≤ (v.1 0 326).toInt) : KF fl v u := ⟨fun j hj => h.2.1 j (Int.lt_of_lt_of_le hj k), h.2.2.1, h.2.2.2⟩
set_option maxHeartbeats 400000 in
theorem KF.fr {fl0 : Int} {v u : MS} {fl al : List Nat} (f : FC fl al v u) (h1 : 321 ∉ fl) (h2 : 324 ∉ al ∧ 325 ∉ al ∧ 320 ∉ al) : KF fl0 v u :=
  ⟨fun j _ => ⟨congrFun (f.2.2 324 ⟨by decide, h2.1⟩) j, congrFun (f.2.2 325 ⟨by decide, h2.2.1⟩) j⟩, by rw [f.2.1 321 h1]; exact Int.le_refl _, fun c _ _ => congrFun (f.2.2 320 ⟨by decide, h2.2.2⟩) c⟩
section CLP
variable {G : GH} {L1 L2 : List Nat} {e : PE} {v u w x : MS} {t : Bool} {r r9 r7 pa pb pc1 pd z : Int32} {c : RE1} {o : RO1} {E : FE} {O : FO} {b row sl : Bool} {fl : Int} {X : PX PS}
/-- where the class stands, what is left to be read -/
def SLC (G : GH) (L2 : List Nat) (e : PE) (O : FO) (X : PX PS) (v : MS) (l : List FR) (f : Nat) (w : MS) : Prop := JC L2 e w ∧ SK (v.1 0 326).toInt w l (w.1 0 326).toInt ∧ WF (w.1 0 305).toInt l ∧ 1500 - (w.1 0 305).toInt < f ∧ X = tKq O e l (tJ O f (lvl l) e (aC (pend G l) w)) ∧ KF (v.1 0 326).toInt v w
set_option maxHeartbeats 400000 in
theorem cFin (h0 : 0 ≤ (v.1 0 326).toInt) {l : List FR} {f : Nat} (S : SLC G L2 e O X v l f w) (a5 : (w.1 0 305).toInt ≤ 1500) (h : Q_x_X2_finishSigns L1 L2 w (v.1 0 326) pb u) (hb : ∀ k : Int, pb.toInt ≤ k → ((stg (e.1 (w.1 0 305))).toInt < k + 1 ∨ (stg (e.1 (w.1 0 305))).toInt ≤ 0)) : ∃ l2 f2, SLC G L2 e O X v l2 f2 u ∧ u.1 0 305 = w.1 0 305 ∧ (l2 = [] ∨ lvl l2 ≤ pb.toInt) := by
  obtain ⟨-, -, -, -, ka, w7, hr, fc, i6, -, hk, e6, rs, -, h⟩ := h
  have inv : ∃ l2 f2, SLC G L2 e O X v l2 f2 w7 ∧ w7.1 0 305 = w.1 0 305 := by
    refine RT.ind (fun (q : Int32 × MS) => ∃ l2 f2, SLC G L2 e O X v l2 f2 q.2 ∧ q.2.1 0 305 = w.1 0 305) hr ⟨l, f, S, rfl⟩ ?_
    rintro ⟨k1, w1⟩ y - ⟨l1, f1, S1, q5⟩ hy
    obtain ⟨-, -, -, hk1, e61, -, -, g1, g2, r11, hs, -, g3, hy⟩ := hy
    have g1 : (v.1 0 326).toInt ≤ k1.toInt := g1
    have g2 : 0 ≤ k1.toInt := g2
    have e61 : (w1.1 0 326).toInt = k1.toInt + 1 := e61
    have q5 : w1.1 0 305 = w.1 0 305 := q5
    have hs := stg_s hs
    obtain ⟨J1, K1, W1, F1, X1, P1⟩ := S1
    have J1 : JC L2 e w1 := J1
    have K1 : SK (v.1 0 326).toInt w1 l1 (w1.1 0 326).toInt := K1
    have F1 : 1500 - (w1.1 0 305).toInt < f1 := F1
    cases l1 with
    | nil =>
      have : (w1.1 0 326).toInt = (v.1 0 326).toInt := K1
      omega
    | cons q l1 =>
      obtain ⟨n1, n2, n3⟩ := K1
      rw [e61, show k1.toInt + 1 - 1 = k1.toInt by omega] at n2 n3
      have nk : k1.toInt.toNat = k1.toNatClampNeg := rfl
      rw [nk] at n2
      obtain ⟨W2, W3, W4, W5, W6⟩ := W1
      have W5 : 1500 - (w1.1 0 305).toInt < q.2.1 := W5
      have W6 : WF (w1.1 0 305).toInt l1 := W6
      have jn : tJ O f1 ((stg q.1).toInt + 1) e (aC (pend G (q :: l1)) w1) = .ok (aC (pend G (q :: l1)) w1) := by
        obtain ⟨f0, hf⟩ : ∃ f0, f1 = f0 + 1 := ⟨f1 - 1, by rw [q5] at F1; omega⟩
        rw [hf]
        unfold tJ
        refine if_pos ?_
        have := hb (stg q.1).toInt (by rw [← n2, ← hs]; exact g3)
        rw [← q5] at this
        exact this
      have X2 : X = tKq O e l1 (tJ O q.2.1 (lvl l1) e (tEnd q.1 (aC (gM (pend G l1) q.1) w1))) := by
        rw [X1]
        show tKq O e l1 (bd (tJ O f1 ((stg q.1).toInt + 1) e _) fun s => tJ O q.2.1 q.2.2 e (tEnd q.1 s)) = _
        rw [jn, bd_ok, W2]
        rfl
      have ke : (k1 + (-1 : Int32)).toInt = k1.toInt + (-1) := add_z rfl (by decide) (by omega) (by have : k1.toInt ≤ 419 := hk1.2; omega)
      have j6 : ∀ z9 : Int32, JC L2 e (wA w1 0 326 z9) := fun z9 => ⟨(eC_of (v := w1) (u := wA w1 0 326 z9) rfl rfl rfl rfl rfl rfl (RS.w0 RS.rf (by decide))).trans J1.1, J1.2.1, J1.2.2⟩
      have done : ∀ (m u1 : MS), aC (pend G l1) u1 = tEnd q.1 (aC (gM (pend G l1) q.1) w1) → JC L2 e u1 → u1.1 324 = w1.1 324 → u1.1 325 = w1.1 325 → u1.1 0 321 = w1.1 0 321 → u1.1 320 = w1.1 320 → u1.1 0 326 = k1 → u1.1 0 305 = w1.1 0 305 → ∃ l2 f2, SLC G L2 e O X v l2 f2 u1 ∧ u1.1 0 305 = w.1 0 305 := by
        intro m u1 c1 c2 c3 c4 c5 c6 c7 c8
        refine ⟨l1, q.2.1, ⟨c2, ?_, by rw [c8]; exact W6, by rw [c8]; exact W5, by rw [c1]; exact X2, P1.tr ⟨fun j _ => ⟨congrFun c3 j, congrFun c4 j⟩, by rw [c5]; exact Int.le_refl _, fun j _ _ => congrFun c6 j⟩⟩, c8.trans q5⟩
        rw [c7]
        exact SK.cg h0 l1 _ (fun j _ => congrFun c3 j) n3
      have tru : ∀ (u19 u22 : MS) (y9 : Int32), (q.1.toInt = 69 ∨ q.1.toInt = 70) → Q_x_X1_add L1 L2 (wA w1 0 326 k1) 15 0 0 u19 → K_x_X1_add (wA w1 0 326 k1) 15 0 0 u19 → Q_x_X1_setLabel L1 L2 u19 y9 u22 → K_x_X1_setLabel u19 y9 u22 → ∃ l2 f2, SLC G L2 e O X v l2 f2 u22 ∧ u22.1 0 305 = w.1 0 305 := by
        intro u19 u22 y9 h69 h1 k1' h2 k2
        have b1 := cAddk (G := pend G l1) (k := 1) h1 k1' (by decide) rfl (j6 k1)
        have b2 := cSet (G := pend G l1) h2 k2 b1.2.1
        refine done u22 u22 ?_ b2.2.1 ?_ ?_ ?_ ?_ ?_ ?_
        · rw [b2.1, b1.1, gM_b h69]
          unfold tEnd
          rw [if_pos h69]
          rfl
        · exact (k2.1.2.2 324 (by decide)).trans (k1'.1.2.2 324 (by decide))
        · exact (k2.1.2.2 325 (by decide)).trans (k1'.1.2.2 325 (by decide))
        · exact (k2.1.2.1 321 (by decide)).trans (k1'.1.2.1 321 (by decide))
        · exact (k2.1.2.2 320 (by decide)).trans (k1'.1.2.2 320 (by decide))
        · exact (k2.1.2.1 326 (by decide)).trans (k1'.1.2.1 326 (by decide))
        · exact (k2.1.2.1 305 (by decide)).trans (k1'.1.2.1 305 (by decide))
      have n2 : w1.1 324 k1.toNatClampNeg = q.1 := n2
      rcases hy with ⟨g4, u19, h1, k1', u22, h2, k2, rfl⟩ | ⟨g4, ⟨g5, u35, h1, k1', rfl⟩ | ⟨g5, u19, h1, k1', u22, h2, k2, rfl⟩⟩
      · exact tru u19 u22 _ (Or.inl (by rw [← n2]; exact g4)) h1 k1' h2 k2
      · have h1 : Q_x_X1_add L1 L2 (wA (wA w1 0 326 k1) 0 314 ((w1.1 0 314) - 1)) 20 (w1.1 324 k1.toNatClampNeg) (w1.1 325 k1.toNatClampNeg) u35 := h1
        have k1' : K_x_X1_add (wA (wA w1 0 326 k1) 0 314 ((w1.1 0 314) - 1)) 20 (w1.1 324 k1.toNatClampNeg) (w1.1 325 k1.toNatClampNeg) u35 := k1'
        rw [n2] at h1 k1'
        have s1 : 53 ≤ q.1.toInt ∧ q.1.toInt ≤ 70 := stg_p (by have := WF.len l1 W6; omega)
        have s2 : q.1.toInt ≠ 69 := fun y => g4 (by rw [← y, ← n2])
        have s3 : q.1.toInt ≠ 70 := fun y => g5 (by rw [← y, ← n2])
        have b1 := cBin (G := pend G l1) h1 k1' (jPb (j6 k1)) (by omega)
        refine done u35 u35 ?_ b1.2.1 (k1'.1.2.2 324 (by decide)) (k1'.1.2.2 325 (by decide)) (k1'.1.2.1 321 (by decide)) (k1'.1.2.2 320 (by decide)) (k1'.1.2.1 326 (by decide)) (k1'.1.2.1 305 (by decide))
        rw [b1.1]
        unfold tEnd
        rw [if_neg (fun w => w.elim (fun y => g4 (by rw [← y, ← n2])) (fun y => g5 (by rw [← y, ← n2])))]
        rfl
      · exact tru u19 u22 _ (Or.inr (by rw [← n2]; exact g5)) h1 k1' h2 k2
  obtain ⟨l2, f2, S2, q5⟩ := inv
  have K2 := S2.2.1
  rw [e6] at K2
  rcases h with ⟨a, rfl⟩ | ⟨a, ⟨b1, rfl⟩ | ⟨b1, r11, hs, -, b2, rfl⟩⟩
  · refine ⟨l2, f2, S2, q5, Or.inl ?_⟩
    cases l2 with
    | nil => rfl
    | cons q l2 => have := K2.1; omega
  · omega
  · refine ⟨l2, f2, S2, q5, ?_⟩
    cases l2 with
    | nil => exact Or.inl rfl
    | cons q l2 =>
      have n2 := K2.2.1
      rw [show ka.toInt + 1 - 1 = ka.toInt by omega] at n2
      have n2 : u.1 324 ka.toNatClampNeg = q.1 := n2
      have hs := stg_s hs
      rw [n2] at hs
      refine Or.inr ?_
      show (stg q.1).toInt + 1 ≤ pb.toInt
      rw [← hs]
      omega
end CLP
