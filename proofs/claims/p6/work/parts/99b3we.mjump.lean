/-! the reference's orders: jumps; && and ||; signs -/
theorem upd_comm {f : Nat → Int32} {i j : Nat} {x y : Int32} (h : i ≠ j) : upd (upd f i x) j y = upd (upd f j y) i x := by
  funext k
  by_cases a : k = i
  · rw [a, updS, show upd (upd f i x) j y i = upd f i x i from updN_ h, updS]
  · by_cases b : k = j
    · rw [b, updS, show upd (upd f j y) i x j = upd f j y j from updN_ (fun q => h q.symm), updS]
    · rw [show upd (upd f i x) j y k = upd f i x k from updN_ b, show upd f i x k = f k from updN_ a, show upd (upd f j y) i x k = upd f j y k from updN_ a, show upd f j y k = f k from updN_ b]
section WEJ
variable {n : Int} {K : TK} {e : PE} {v u w x y : MS} {a b c : List EV} {q : EV} {o zv zn r pa pb pd by9 : Int32} {m : Int}
/-- an order that leads over a part: its argument is set at the part's end -/
theorem OA.pj (x13 : x.1 13 = upd (v.1 13) (v.1 0 15).toNatClampNeg o) (x14 : x.1 14 = upd (v.1 14) (v.1 0 15).toNatClampNeg zv) (x15 : x.1 0 15 = v.1 0 15 + 1) (hb : 0 ≤ (v.1 0 15).toInt ∧ (v.1 0 15).toInt ≤ 100000) (x39 : x.1 0 39 = v.1 0 39) (x27 : x.1 0 27 = v.1 0 27) (xa : x.1 35 = v.1 35 ∧ x.1 38 = v.1 38 ∧ x.1 25 = v.1 25) (C : OA K x w c) (u13 : u.1 13 = w.1 13) (u14 : u.1 14 = upd (w.1 14) (v.1 0 15).toNatClampNeg zn) (u15 : u.1 0 15 = w.1 0 15) (u39 : u.1 0 39 = w.1 0 39) (u27 : u.1 0 27 = w.1 0 27) (ua : u.1 35 = w.1 35 ∧ u.1 38 = w.1 38 ∧ u.1 25 = w.1 25) (ht : q.1 = 16 ∨ q.1 = 17 ∨ q.1 = 18 ∨ q.1 = 19) (ho : oEv q = o) (hz : zn.toInt = (v.1 0 15).toInt + q.2.2.2.2.1) : OA K v u ([q] ++ c) := by
  obtain ⟨c1, c2, c3, c4⟩ := C
  have i15 : (x.1 0 15).toInt = (v.1 0 15).toInt + 1 := by rw [x15]; exact add_z rfl (by decide) (by omega) (by omega)
  have n0 := natI hb.1
  have nx := natI (a := x.1 0 15) (by omega)
  have F0 : OF v x := ⟨⟨by omega, fun j hj => by
    have : j ≠ (v.1 0 15).toNatClampNeg := by omega
    exact ⟨by rw [x13]; exact updN_ this, by rw [x14]; exact updN_ this⟩⟩, ⟨by rw [x39]; exact Int.le_refl _, fun c _ => ⟨by rw [xa.1], by rw [xa.2.1]⟩⟩, x27, xa.2.2⟩
  have C0 : CJ v x := ⟨fun c g1 g2 => by rw [x39] at g2; omega, fun c d g1 g2 => by rw [x39] at g2; omega⟩
  have F1 := F0.tr c2
  have C1 := C0.tr c3 F0 c2
  have l1 : loE q = 1 := by
    obtain ⟨t, r⟩ := q
    rcases ht with h | h | h | h <;> (have h : t = _ := h; subst h; exact loE1)
  have w13 : w.1 13 (v.1 0 15).toNatClampNeg = o := by rw [(c2.1.2 _ (by omega)).1, x13]; exact updS
  have g15 : (u.1 0 15).toInt = (w.1 0 15).toInt := by rw [u15]
  have F2 : OF v u := ⟨⟨by rw [u15]; exact F1.1.1, fun j hj => ⟨by rw [u13]; exact (F1.1.2 j hj).1, by rw [u14, ← (F1.1.2 j hj).2]; exact updN_ (by omega)⟩⟩, ⟨by rw [u39]; exact F1.2.1.1, fun c hc => by rw [ua.1, ua.2.1]; exact F1.2.1.2 c hc⟩, u27.trans F1.2.2.1, ua.2.2.trans F1.2.2.2⟩
  have C2 : CJ v u := by
    unfold CJ
    rw [u39, u15, ua.2.1, u13]
    exact C1
  have MW : MOq K u (v.1 0 39).toInt ((v.1 0 15).toNatClampNeg + 1) c := by
    have M0 : MOq K w (v.1 0 39).toInt ((v.1 0 15).toNatClampNeg + 1) c := by
      rw [show (v.1 0 15).toNatClampNeg + 1 = (x.1 0 15).toNatClampNeg by omega, ← x39]
      exact c4
    have M1 := M0.pt (m := (v.1 0 15).toNatClampNeg) (z := zn) (Or.inl (by omega))
    intro a9 q9 b9 e9
    obtain ⟨m1, m2⟩ := M1 a9 q9 b9 e9
    have g14 : u.1 14 = (wA w 14 (v.1 0 15).toNatClampNeg zn).1 14 := u14
    refine ⟨by rw [u15]; exact m1, m2.imp id (fun k => ⟨by rw [u13]; exact k.1, ?_⟩)⟩
    have k2 := k.2
    unfold moA at k2 ⊢
    rw [g14, u27, ua.2.2, u39, ua.2.1, ua.1]
    exact k2
  refine ⟨by rw [loL_app, loL_cons, l1, loL_nil, g15]; omega, F2, C2, MOq.app (MOq.one ⟨by rw [l1, g15]; omega, Or.inr ⟨by rw [u13, w13, ho], ?_⟩⟩) ?_⟩
  · unfold moA
    rw [if_pos ht, u14, updS, hz]
    omega
  · rw [loL_cons, l1, loL_nil]
    exact MW
/-- a sign's own, behind its left side -/
def gSg (k s : Int32) (b : List EV) : List EV :=
  if k.toInt = 69 then [fwE 16 1 (b ++ [evx 15 0 0])] ++ (b ++ [evx 15 0 0])
  else if k.toInt = 70 then [fwE 18 0 (b ++ [evx 15 0 0])] ++ (b ++ [evx 15 0 0])
  else [evx 4 s 0] ++ b ++ [evx 20 k s]
theorem gSign_e (k s : Int32) (a b : List EV) : gSign k s a b = a ++ gSg k s b := by
  unfold gSign gSg
  by_cases h : k.toInt = 69
  · rw [if_pos h, if_pos h]
    simp only [List.append_assoc]
  · rw [if_neg h, if_neg h]
    by_cases h2 : k.toInt = 70
    · rw [if_pos h2, if_pos h2]
      simp only [List.append_assoc]
    · rw [if_neg h2, if_neg h2]
      simp only [List.append_assoc]
end WEJ
def XMj (n : Int) (K : TK) (c3 : RM3) (O : EvO) : Prop := ∀ (e : PE) (v u : MS) (pa : Int32) (f : Nat), c3 v pa 0 false u → K_m_joined v pa 0 u → JM n K e v → 0 ≤ (v.1 0 15).toInt → (1501 : Int) ≤ f + (v.1 0 47).toInt → ∃ q r, O false e (knM K v) (v.1 0 32) (v.1 0 47) = some q ∧ gJ O f pa.toInt e (knM K v) (v.1 0 32) q.2.1 q.2.2 = some (r, u.1 0 47) ∧ OS n K e v u r
section WEB
variable {n : Int} {K : TK} {e : PE} {v u w x y : MS} {a b c : List EV} {q : EV} {o zv zn r pa pb pd by9 : Int32} {m : Int} {c3 : RM3} {O : EvO} {f : Nat}
set_option maxHeartbeats 800000 in
theorem oBoth (hJ : XMj n K c3 O) (h : Q_m_both c3 v pa pb false u) (J : JM n K e v) (hf : (1501 : Int) ≤ f + (v.1 0 47).toInt) : ∃ q r, O false e (knM K v) (v.1 0 32) (v.1 0 47) = some q ∧ gJ O f pb.toInt e (knM K v) (v.1 0 32) q.2.1 q.2.2 = some (r, u.1 0 47) ∧ OS n K e v u ([if pa.toInt = 0 then fwE 16 1 (r ++ [evx 15 0 0]) else fwE 18 0 (r ++ [evx 15 0 0])] ++ (r ++ [evx 15 0 0])) := by
  obtain ⟨z1, z2, z3, z4, z5, z6, z15, z8, z9, -, h⟩ := h
  have hb : 0 ≤ (v.1 0 15).toInt ∧ (v.1 0 15).toInt ≤ 100000 := ⟨z15.1, by have := z15.2; omega⟩
  have v15 : ((v.1 0 15) + (1 : Int32)).toInt = (v.1 0 15).toInt + 1 := add_z rfl (by decide) (by omega) (by omega)
  rcases h with ⟨c, r6, -, -, u22, hu22, ⟨u9, -, f9, -⟩ | ⟨u36, h36, k36, r42, -, x55, -, u57, hu57, -, eu⟩⟩ | ⟨c, r73, -, r80, -, -, u97, hu97, ⟨u9, -, f9, -⟩ | ⟨u111, h36, k36, r117, -, x130, -, u132, hu132, -, eu⟩⟩
  · cases f9
  · have e1 : EMS (0 + 1 + 1) v u22 := by
      rw [hu22]
      exact EMS.w0 (EMS.wa (EMS.wa (EMS.o1 (EMS.wa (EMS.o1 (EMS.wa EMS.rf (by decide)) rfl) (by decide)) rfl) (by decide)) (by decide)) (by decide)
    have f15 : u22.1 0 15 = v.1 0 15 + 1 := by rw [hu22]; rfl
    have f47 : u22.1 0 47 = v.1 0 47 := e1.2.2.1 47 (by decide)
    have f32 : u22.1 0 32 = v.1 0 32 := e1.2.2.1 32 (by decide)
    have fkn : knM K u22 = knM K v := knM_of (e1.2.1 29 (by decide)) (e1.2.2.1 30 (by decide))
    obtain ⟨q, r, x1, x2, x3⟩ := hJ e u22 u36 pb f h36 k36 (e1.j J) (by rw [f15, v15]; omega) (by rw [f47]; exact hf)
    have l36 := k36.2.2.2.2.1
    rw [f15, v15, f47] at l36
    have l47 := k36.2.1.2
    obtain ⟨W, hW⟩ : ∃ W, W = (wA (wA (wA (wA (wA u36 11 ((u36.1 0 12).toNatClampNeg) r42) 0 12 ((u36.1 0 12) + (1 : Int32))) 13 ((u36.1 0 15).toNatClampNeg) (24 : Int32)) 14 ((u36.1 0 15).toNatClampNeg) (0 : Int32)) 0 15 ((u36.1 0 15) + (1 : Int32))) := ⟨_, rfl⟩
    have hW5 : u57 = wA (wA W 11 (((v.1 0 12) + (1 : Int32)).toNatClampNeg) x55) 14 ((v.1 0 15).toNatClampNeg) ((u36.1 0 15) + (1 : Int32)) := by rw [hu57, hW]
    have W1 : OA K u36 W [evx 15 0 0] := by
      rw [hW]
      exact OA.say (o := 24) (z := 0) rfl rfl rfl ⟨by omega, by omega⟩ rfl rfl ⟨rfl, rfl, rfl⟩ loE1 rfl (show upd (u36.1 14) _ 0 _ = 0 from updS)
    have C := x3.2.1.tr W1 (by rw [f15, v15]; omega)
    have c15 := x3.2.1.1
    rw [f15, v15] at c15
    have e3 : EMS (0 + 1) u36 u57 := by
      rw [hu57]
      exact EMS.wa (EMS.wa (EMS.w0 (EMS.wa (EMS.wa (EMS.o1 (EMS.wa EMS.rf (by decide)) rfl) (by decide)) (by decide)) (by decide)) (by decide)) (by decide)
    have T : OA K v u57 ([fwE 16 1 (r ++ [evx 15 0 0])] ++ (r ++ [evx 15 0 0])) := OA.pj (o := 22) (zv := 0) (zn := (u36.1 0 15) + (1 : Int32)) (by rw [hu22]; rfl) (by rw [hu22]; rfl) f15 hb (by rw [hu22]; rfl) (by rw [hu22]; rfl) (by rw [hu22]; exact ⟨rfl, rfl, rfl⟩) C (by rw [hW5]; rfl) (by rw [hW5]; rfl) (by rw [hW5]; rfl) (by rw [hW5]; rfl) (by rw [hW5]; rfl) (by rw [hW5]; exact ⟨rfl, rfl, rfl⟩) (Or.inl rfl) rfl (by
      rw [add_z (x := u36.1 0 15) (y := 1) (b := 1) rfl (by decide) (by omega) (by omega)]
      show _ = _ + ((1 : Int) + (loL (r ++ [evx 15 0 0]) : Int))
      rw [loL_app, show loL [evx 15 0 0] = 1 from rfl]
      omega)
    rw [fkn, f32, f47] at x1
    rw [fkn, f32] at x2
    rw [eu]
    refine ⟨q, r, x1, ?_, e3.j x3.1, ?_, ?_, ?_, ?_⟩
    · rw [x2, show u57.1 0 47 = u36.1 0 47 from e3.2.2.1 47 (by decide)]
    · rw [if_pos c]
      exact T
    · rw [e3.2.1 29 (by decide), x3.2.2.1, e1.2.1 29 (by decide)]
    · rw [e3.2.2.1 30 (by decide), x3.2.2.2.1, e1.2.2.1 30 (by decide)]
    · rw [e3.2.2.1 32 (by decide), x3.2.2.2.2, f32]
  · cases f9
  · have e1 : EMS (0 + 1 + 1 + 1) v u97 := by
      rw [hu97]
      exact EMS.w0 (EMS.wa (EMS.wa (EMS.o1 (EMS.wa (EMS.o1 (EMS.wa (EMS.o1 (EMS.wa EMS.rf (by decide)) rfl) (by decide)) rfl) (by decide)) rfl) (by decide)) (by decide)) (by decide)
    have f15 : u97.1 0 15 = v.1 0 15 + 1 := by rw [hu97]; rfl
    have f47 : u97.1 0 47 = v.1 0 47 := e1.2.2.1 47 (by decide)
    have f32 : u97.1 0 32 = v.1 0 32 := e1.2.2.1 32 (by decide)
    have fkn : knM K u97 = knM K v := knM_of (e1.2.1 29 (by decide)) (e1.2.2.1 30 (by decide))
    obtain ⟨q, r, x1, x2, x3⟩ := hJ e u97 u111 pb f h36 k36 (e1.j J) (by rw [f15, v15]; omega) (by rw [f47]; exact hf)
    have l36 := k36.2.2.2.2.1
    rw [f15, v15, f47] at l36
    have l47 := k36.2.1.2
    obtain ⟨W, hW⟩ : ∃ W, W = (wA (wA (wA (wA (wA u111 11 ((u111.1 0 12).toNatClampNeg) r117) 0 12 ((u111.1 0 12) + (1 : Int32))) 13 ((u111.1 0 15).toNatClampNeg) (24 : Int32)) 14 ((u111.1 0 15).toNatClampNeg) (0 : Int32)) 0 15 ((u111.1 0 15) + (1 : Int32))) := ⟨_, rfl⟩
    have hW5 : u132 = wA (wA W 11 ((((v.1 0 12) + (1 : Int32)) + (1 : Int32)).toNatClampNeg) x130) 14 ((v.1 0 15).toNatClampNeg) ((u111.1 0 15) + (1 : Int32)) := by rw [hu132, hW]
    have W1 : OA K u111 W [evx 15 0 0] := by
      rw [hW]
      exact OA.say (o := 24) (z := 0) rfl rfl rfl ⟨by omega, by omega⟩ rfl rfl ⟨rfl, rfl, rfl⟩ loE1 rfl (show upd (u111.1 14) _ 0 _ = 0 from updS)
    have C := x3.2.1.tr W1 (by rw [f15, v15]; omega)
    have c15 := x3.2.1.1
    rw [f15, v15] at c15
    have e3 : EMS (0 + 1) u111 u132 := by
      rw [hu132]
      exact EMS.wa (EMS.wa (EMS.w0 (EMS.wa (EMS.wa (EMS.o1 (EMS.wa EMS.rf (by decide)) rfl) (by decide)) (by decide)) (by decide)) (by decide)) (by decide)
    have T : OA K v u132 ([fwE 18 0 (r ++ [evx 15 0 0])] ++ (r ++ [evx 15 0 0])) := OA.pj (o := 23) (zv := 0) (zn := (u111.1 0 15) + (1 : Int32)) (by rw [hu97]; rfl) (by rw [hu97]; rfl) f15 hb (by rw [hu97]; rfl) (by rw [hu97]; rfl) (by rw [hu97]; exact ⟨rfl, rfl, rfl⟩) C (by rw [hW5]; rfl) (by rw [hW5]; rfl) (by rw [hW5]; rfl) (by rw [hW5]; rfl) (by rw [hW5]; rfl) (by rw [hW5]; exact ⟨rfl, rfl, rfl⟩) (Or.inr (Or.inr (Or.inl rfl))) rfl (by
      rw [add_z (x := u111.1 0 15) (y := 1) (b := 1) rfl (by decide) (by omega) (by omega)]
      show _ = _ + ((1 : Int) + (loL (r ++ [evx 15 0 0]) : Int))
      rw [loL_app, show loL [evx 15 0 0] = 1 from rfl]
      omega)
    rw [fkn, f32, f47] at x1
    rw [fkn, f32] at x2
    rw [eu]
    refine ⟨q, r, x1, ?_, e3.j x3.1, ?_, ?_, ?_, ?_⟩
    · rw [x2, show u132.1 0 47 = u111.1 0 47 from e3.2.2.1 47 (by decide)]
    · rw [if_neg c]
      exact T
    · rw [e3.2.1 29 (by decide), x3.2.2.1, e1.2.1 29 (by decide)]
    · rw [e3.2.2.1 30 (by decide), x3.2.2.2.1, e1.2.2.1 30 (by decide)]
    · rw [e3.2.2.1 32 (by decide), x3.2.2.2.2, f32]
end WEB
