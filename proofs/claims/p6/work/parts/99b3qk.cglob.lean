/-! the class: an item of a global -/
section CGI
variable {G : GH} {L1 L2 : List Nat} {e : PE} {v u : MS} {t : Bool} {r pa pb pc1 : Int32} {n : Nat} {E : FE} {S : FS} {c : RS1}
/-- a row g that is not yet counted is changed -/
def RWq (a : Nat) (v u : MS) : Prop := ∀ b : Nat, b ≠ a → u.1 (5000 + b) = v.1 (5000 + b)
theorem RWq.rf {a : Nat} : RWq a v v := fun _ _ => rfl
theorem RWq.tr {a : Nat} {x : MS} (h : RWq a v u) (k : RWq a u x) : RWq a v x := fun b hb => (k b hb).trans (h b hb)
theorem RWq.w {a i : Nat} {x : Int32} : RWq a v (wA v (5000 + a) i x) := fun b hb => wA_ne hb
theorem RWq.rs {a : Nat} (h : RS0 v u) : RWq a v u := fun b _ => h _ (by omega)
theorem rF_w {L : List Nat} {w : MS} {i g j : Nat} {x : Int32} : rF L (wA w 0 i x) g j = rF L w g j := by
  unfold rF
  rw [show (wA w 0 i x).1 (5000 + rowA L g) = w.1 (5000 + rowA L g) from if_neg (by omega)]
theorem kC_of (h1 : u.1 301 = v.1 301) (h2 : u.1 302 = v.1 302) (h3 : u.1 303 = v.1 303) (h4 : u.1 0 304 = v.1 0 304) (h5 : u.1 0 373 = v.1 0 373) : kC u = kC v := by
  unfold kC
  rw [h1, h2, h3, h4, h5]
set_option maxHeartbeats 800000 in
theorem sGlob {W : Nat → Int32} {K : TK} {x : IS} (rd : RD L1 L2) (h : Q_x_X5_globalItem L1 L2 v pa t u) (I : SIq G L2 (mkE K x.2.2) v) (hx : x.1 = tBegF (aC G v)) (hf : x.2.1 = fsC L1 W v) (hg : x.2.2 = gsC L2 v) (hk : kC v = K) (hpa : pa = kb (mkE K x.2.2) (aC G v)) (J3 : 0 ≤ (v.1 0 375).toInt ∧ (v.1 0 375).toInt ≤ 40) : (t = false ∧ ∃ x' : IS, tGItem K x = .ok x' ∧ x'.1 = tBegF (aC G u) ∧ x'.2.1 = x.2.1 ∧ x'.2.2 = gsC L2 u ∧ SIq G L2 (mkE K x'.2.2) u ∧ KP v u ∧ kC u = K ∧ (∀ f : Nat, f < 40 → u.1 (5000 + rowA L1 f) = v.1 (5000 + rowA L1 f)) ∧ u.1 0 375 = v.1 0 375 ∧ DP v u ∧ (v.1 0 305).toInt + 2 ≤ (u.1 0 305).toInt ∧ u.1 0 381 = v.1 0 381) ∨ (t = true ∧ tGItem K x = .error (u.1 0 308, u.1 0 309)) := by
  have J7 := I.1.2.2
  have n7 : (nG v : Int) = (v.1 0 377).toInt := natI J7.1
  have lg : x.2.2.length = nG v := by rw [hg]; unfold gsC; rw [List.length_map, List.length_range]
  obtain ⟨-, -, -, -, -, -, -, h⟩ := h
  have ekb : kb (mkE K x.2.2) (tBegF (aC G v)) = pa := hpa.symm
  have ev : vl (mkE K x.2.2) (tBegF (aC G v)) = vl (mkE K x.2.2) (aC G v) := rfl
  have ep : pl (mkE K x.2.2) (tBegF (aC G v)) = pl (mkE K x.2.2) (aC G v) := rfl
  -- the end
  have fin : ∀ {y z w s45 : MS} {sz rw9 : Int32}, (v.1 0 377).toInt < 60 → FC [305, 306] [0] v z → RS0 v z ∨ RWq (rowA L2 (nG v)) v z → SIq G L2 (mkE K x.2.2) z → KS v z → DP v z → rF L2 z (nG v) 4 = vl (mkE K x.2.2) (aC G v) → rF L2 z (nG v) 3 = pl (mkE K x.2.2) (aC G v) → rF L2 z (nG v) 0 = sz → rF L2 z (nG v) 2 = rw9 → (v.1 0 305).toInt + 1 ≤ (z.1 0 305).toInt → Q_x_X9_expect L1 L2 z 36 false w → K_x_X9_expect z 36 w → tExp 36 (mkE K x.2.2) (tBegF (aC G z)) = .ok (tBegF (aC G w)) ∧ (tBegF (aC G w) = tBegF (aC G (wA w 0 377 ((v.1 0 377) + (1 : Int32))))) ∧ x.2.2 ++ [(vl (mkE K x.2.2) (aC G v), pl (mkE K x.2.2) (aC G v), sz, rw9)] = gsC L2 (wA w 0 377 ((v.1 0 377) + (1 : Int32))) ∧ SIq G L2 (mkE K (x.2.2 ++ [(vl (mkE K x.2.2) (aC G v), pl (mkE K x.2.2) (aC G v), sz, rw9)])) (wA w 0 377 ((v.1 0 377) + (1 : Int32))) ∧ KP v (wA w 0 377 ((v.1 0 377) + (1 : Int32))) ∧ kC (wA w 0 377 ((v.1 0 377) + (1 : Int32))) = K ∧ (∀ f : Nat, f < 40 → w.1 (5000 + rowA L1 f) = v.1 (5000 + rowA L1 f)) ∧ w.1 0 375 = v.1 0 375 ∧ DP v (wA w 0 377 ((v.1 0 377) + (1 : Int32))) ∧ (v.1 0 305).toInt + 2 ≤ (w.1 0 305).toInt ∧ w.1 0 381 = v.1 0 381 := by
    intro y z w s45 sz rw9 l60 fz rz Iz Kz Dz q4 q3 q0 q2 h5 he ke
    have a := sExp (G := G) (m := 36) (by decide) he (fun _ => ke) Iz
    have rsw : RS z w := by first | exact ke.2.2.2 | exact ke.2.2 | exact ke.2
    have rz2 : RWq (rowA L2 (nG v)) v w := (rz.elim (fun q => RWq.rs q) id).tr (RWq.rs rsw.1)
    have row : ∀ i, rF L2 w (nG v) i = rF L2 z (nG v) i := fun i => congrFun (rsw.1 _ (by omega)) i
    have f4 : ∀ b : Nat, b ∈ [301, 302, 303] → w.1 b = v.1 b := fun b hb => (ke.1.2.2 b (by revert b; decide)).trans (fz.2.2 b (by revert b; decide))
    have f0 : ∀ b : Nat, b ∈ [304, 373, 375, 377, 381] → w.1 0 b = v.1 0 b := fun b hb => (ke.1.2.1 b (by revert b; decide)).trans (fz.2.1 b (by revert b; decide))
    have p7 : (w.1 0 377) = v.1 0 377 := f0 377 (by decide)
    have e7 : ((v.1 0 377) + (1 : Int32)).toInt = (v.1 0 377).toInt + 1 := add_z rfl (by decide) (by omega) (by omega)
    have ng : nG (wA w 0 377 ((v.1 0 377) + (1 : Int32))) = nG v + 1 := natS e7 J7.1
    have kk : kC (wA w 0 377 ((v.1 0 377) + (1 : Int32))) = K := by
      rw [← hk]
      exact kC_of (f4 301 (by decide)) (f4 302 (by decide)) (f4 303 (by decide)) (f0 304 (by decide)) (f0 373 (by decide))
    have gs : x.2.2 ++ [(vl (mkE K x.2.2) (aC G v), pl (mkE K x.2.2) (aC G v), sz, rw9)] = gsC L2 (wA w 0 377 ((v.1 0 377) + (1 : Int32))) := by
      unfold gsC
      rw [ng, List.range_succ, List.map_append]
      refine congr (congrArg HAppend.hAppend ?_) ?_
      · rw [hg]
        unfold gsC
        refine List.map_congr_left (fun g hgm => ?_)
        have lt := List.mem_range.mp hgm
        have ne : rowA L2 g ≠ rowA L2 (nG v) := rd.2.2 g (nG v) (by omega) (by omega) (by omega)
        rw [rF_w, rF_w, rF_w, rF_w]
        unfold rF
        rw [rz2 _ ne]
      · show _ = [(rF L2 (wA w 0 377 ((v.1 0 377) + (1 : Int32))) (nG v) 4, rF L2 (wA w 0 377 ((v.1 0 377) + (1 : Int32))) (nG v) 3, rF L2 (wA w 0 377 ((v.1 0 377) + (1 : Int32))) (nG v) 0, rF L2 (wA w 0 377 ((v.1 0 377) + (1 : Int32))) (nG v) 2)]
        rw [rF_w, rF_w, rF_w, rF_w, row, row, row, row, q4, q3, q0, q2]
    refine ⟨by rw [nExp, a.eo, bd_ok], rfl, gs, ⟨⟨?_, ?_, ?_⟩, a.si.2.1, a.si.2.2⟩, Kz.1.tr (a.ks.1.tr (KP.of rfl rfl rfl rfl rfl)), kk, ?_, f0 375 (by decide), Dz.tr (rsw.2.tr (DP.of rfl rfl rfl)), ?_, f0 381 (by decide)⟩
    · rw [gs, eC_mk, kk]
    · exact a.si.1.2.1
    · show 0 ≤ ((v.1 0 377) + (1 : Int32)).toInt ∧ ((v.1 0 377) + (1 : Int32)).toInt ≤ 60
      omega
    · intro f hf4
      exact rz2 _ (rd.1 f (nG v) hf4 (by omega))
    · have : (w.1 0 305).toInt = (z.1 0 305).toInt + 1 := by first | exact ke.2.2.1 | exact ke.2.1
      omega
  -- changes of the row
  have ch : ∀ {w y : MS} {i z : Int32}, w.1 0 377 = v.1 0 377 → SIq G L2 (mkE K x.2.2) w → 0 ≤ i.toInt ∧ i.toInt < 5 → (v.1 0 377).toInt < 60 → Q_x_X7_changeGlobal L1 L2 w (v.1 0 377) i z y → K_x_X7_changeGlobal w (v.1 0 377) i z y → aC G y = aC G w ∧ SIq G L2 (mkE K x.2.2) y ∧ KS w y ∧ RWq (rowA L2 (nG v)) w y ∧ (∀ j, rF L2 y (nG v) j = if j = i.toNatClampNeg then z else rF L2 w (nG v) j) ∧ y.1 0 = w.1 0 ∧ DP w y ∧ FC [305, 306] [0] w y := by
    intro w y i z e7 Iw hi l60 hq kq
    rcases cCG hq hi with ⟨-, -, hy⟩ | ⟨q, -⟩
    · have kn : ∀ g : Nat, g < nG w → rowA L2 g ≠ rowA L2 (nG v) := fun g hgw => by
        have : nG w = nG v := by unfold nG; rw [e7]
        exact rd.2.2 g (nG v) (by omega) (by omega) (by omega)
      refine ⟨by rw [hy]; exact aC_row, by rw [hy]; exact Iw.row kn, by rw [hy]; exact KS.row, by rw [hy]; exact RWq.w, fun j => by rw [hy]; exact wA_eq, by rw [hy]; exact wA_lo (by decide), by rw [hy]; exact DP.of (congrFun (wA_lo (by decide)) 381) (wA_lo (by decide)) (wA_lo (by decide)), kq.up (by decide) (by decide)⟩
    · omega
  have n1 : ∀ {w : MS}, w.1 0 = v.1 0 → w.1 0 377 = v.1 0 377 := fun q => congrFun q 377
  -- a number alone
  have two : (v.1 0 377).toInt < 60 → pa.toInt ≠ 34 → (∃ r71, Q_x_X9_value L1 L2 v r71 ∧ ∃ u73, Q_x_X7_changeGlobal L1 L2 v (v.1 0 377) 4 r71 u73 ∧ K_x_X7_changeGlobal v (v.1 0 377) 4 r71 u73 ∧ ∃ r80, Q_x_X9_place L1 L2 u73 r80 ∧ ∃ u82, Q_x_X7_changeGlobal L1 L2 u73 (v.1 0 377) 3 r80 u82 ∧ K_x_X7_changeGlobal u73 (v.1 0 377) 3 r80 u82 ∧ ((∃ u9, Q_x_X9_take L1 L2 u82 true u9 ∧ t = true ∧ u = u9) ∨ (∃ u88, Q_x_X9_take L1 L2 u82 false u88 ∧ K_x_X9_take u82 u88 ∧ ∃ u92, Q_x_X7_changeGlobal L1 L2 u88 (v.1 0 377) 2 0 u92 ∧ K_x_X7_changeGlobal u88 (v.1 0 377) 2 0 u92 ∧ ∃ u96, Q_x_X7_changeGlobal L1 L2 u92 (v.1 0 377) 0 1 u96 ∧ K_x_X7_changeGlobal u92 (v.1 0 377) 0 1 u96 ∧ ((∃ u9, Q_x_X9_expect L1 L2 u96 36 true u9 ∧ t = true ∧ u = u9) ∨ (∃ u107, Q_x_X9_expect L1 L2 u96 36 false u107 ∧ K_x_X9_expect u96 36 u107 ∧ t = false ∧ u = wA u107 0 377 ((v.1 0 377) + (1 : Int32))))))) → (t = false ∧ ∃ x' : IS, tGItem K x = .ok x' ∧ x'.1 = tBegF (aC G u) ∧ x'.2.1 = x.2.1 ∧ x'.2.2 = gsC L2 u ∧ SIq G L2 (mkE K x'.2.2) u ∧ KP v u ∧ kC u = K ∧ (∀ f : Nat, f < 40 → u.1 (5000 + rowA L1 f) = v.1 (5000 + rowA L1 f)) ∧ u.1 0 375 = v.1 0 375 ∧ DP v u ∧ (v.1 0 305).toInt + 2 ≤ (u.1 0 305).toInt ∧ u.1 0 381 = v.1 0 381) ∨ (t = true ∧ tGItem K x = .error (u.1 0 308, u.1 0 309)) := by
    intro l60 n34 h
    obtain ⟨r71, h1, u73, h2, k2, r80, h3, u82, h4, k4, h⟩ := h
    have f71 := sValue (G := G) h1 I
    have b2 := ch rfl I (by decide) l60 h2 k2
    have f80 := sPlace (G := G) h3 b2.2.1
    rw [b2.1] at f80
    have b4 := ch (n1 b2.2.2.2.2.2.1) b2.2.1 (by decide) l60 h4 k4
    have e4 : aC G u82 = aC G v := b4.1.trans b2.1
    unfold tGItem
    have T : tTake (mkE K x.2.2) (tBegF (aC G v)) = bd (tTake (mkE K x.2.2) (aC G u82)) fun s => .ok (tBegF s) := by rw [nTake, e4]
    rw [hx, ekb, if_neg (by omega), if_neg n34, ev, ep, T]
    rcases h with ⟨u9, h5, rfl, rfl⟩ | ⟨u88, h5, k5, u92, h6, k6, u96, h7, k7, h⟩
    · exact Or.inr ⟨rfl, by simp only [(sTake (G := G) h5 nom b4.2.1).er, bd_er]⟩
    have b5 := sTake (G := G) h5 (fun _ => k5) b4.2.1
    rw [b5.eo, bd_ok, bd_ok, if_neg n34, bd_ok]
    have e85 : u88.1 0 377 = v.1 0 377 := (k5.1.2.1 377 (by decide)).trans (congrFun (b4.2.2.2.2.2.1.trans b2.2.2.2.2.2.1) 377)
    have b6 := ch e85 b5.si (by decide) l60 h6 k6
    have b7 := ch ((congrFun b6.2.2.2.2.2.1 377).trans e85) b6.2.1 (by decide) l60 h7 k7
    rw [show (((1 : Int32), tBegF (aC G u88)) : Int32 × PS).2 = tBegF (aC G u96) from by rw [b7.1, b6.1]]
    have fr : FC [305, 306] [0] v u96 := (b2.2.2.2.2.2.2.2.tr b4.2.2.2.2.2.2.2).tr ((k5.1.up (by decide) (by decide)).tr (b6.2.2.2.2.2.2.2.tr b7.2.2.2.2.2.2.2))
    have rw' : RWq (rowA L2 (nG v)) v u96 := ((b2.2.2.2.1.tr b4.2.2.2.1).tr (RWq.rs k5.2.2.2.1)).tr (b6.2.2.2.1.tr b7.2.2.2.1)
    have r5 : ∀ j, rF L2 u88 (nG v) j = rF L2 u82 (nG v) j := fun j => congrFun (k5.2.2.2.1 _ (by omega)) j
    rcases h with ⟨u9, h8, rfl, rfl⟩ | ⟨u107, h8, k8, rfl, rfl⟩
    · exact Or.inr ⟨rfl, by simp only [nExp, (sExp (G := G) (m := 36) (by decide) h8 nom b7.2.1).er, bd_er]⟩
    · have F := fin (y := v) (s45 := v) (sz := 1) (rw9 := 0) l60 fr (Or.inr rw') b7.2.1 ((b2.2.2.1.tr b4.2.2.1).tr (b5.ks.tr (b6.2.2.1.tr b7.2.2.1))) ((b2.2.2.2.2.2.2.1.tr b4.2.2.2.2.2.2.1).tr (k5.2.2.2.2.tr (b6.2.2.2.2.2.2.1.tr b7.2.2.2.2.2.2.1)))
        (by rw [b7.2.2.2.2.1, b6.2.2.2.2.1, r5, b4.2.2.2.2.1, b2.2.2.2.2.1, ← f71]; rfl) (by rw [b7.2.2.2.2.1, b6.2.2.2.2.1, r5, b4.2.2.2.2.1, ← f80]; rfl) (by rw [b7.2.2.2.2.1]; rfl) (by rw [b7.2.2.2.2.1, b6.2.2.2.2.1]; rfl)
        (by
          have q1 := k5.2.2.1
          have q2 : u82.1 0 305 = v.1 0 305 := congrFun (b4.2.2.2.2.2.1.trans b2.2.2.2.2.2.1) 305
          have q3 : u96.1 0 305 = u88.1 0 305 := congrFun (b7.2.2.2.2.2.1.trans b6.2.2.2.2.2.1) 305
          rw [q2] at q1
          rw [q3]
          omega) h8 k8
      rw [F.1, bd_ok, F.2.1]
      exact Or.inl ⟨rfl, _, rfl, rfl, rfl, F.2.2.1, F.2.2.2.1, F.2.2.2.2.1, F.2.2.2.2.2.1, fun f hf4 => (show (wA u107 0 377 ((v.1 0 377) + (1 : Int32))).1 (5000 + rowA L1 f) = u107.1 (5000 + rowA L1 f) from if_neg (by omega)).trans (F.2.2.2.2.2.2.1 f hf4), F.2.2.2.2.2.2.2.1, F.2.2.2.2.2.2.2.2.1, F.2.2.2.2.2.2.2.2.2⟩
  rcases h with ⟨c34, h⟩ | ⟨c34, h⟩
  · rcases h with ⟨c36, h⟩ | ⟨c36, h⟩
    · by_cases l60 : (v.1 0 377).toInt < 60
      · exact two l60 c34 h
      · obtain ⟨r9, -, u11, h2, -, r18, -, u20, h4, -, h⟩ := h
        have ge : ∀ {w y : MS} {i z : Int32}, 0 ≤ i.toInt ∧ i.toInt < 5 → Q_x_X7_changeGlobal L1 L2 w (v.1 0 377) i z y → y = w := fun hi hq => by
          rcases cCG hq hi with ⟨-, q, -⟩ | ⟨-, q⟩
          · omega
          · exact q
        have e1 := ge (by decide) h2
        have e2 := ge (by decide) h4
        subst e1
        subst e2
        unfold tGItem
        rw [hx, ekb, if_neg (by omega), if_neg c34, nTake]
        rcases h with ⟨u9, h5, rfl, rfl⟩ | ⟨u26, h5, k5, u30, h6, -, u34, h7, -, h⟩
        · exact Or.inr ⟨rfl, by simp only [(sTake (G := G) h5 nom I).er, bd_er]⟩
        have b5 := sTake (G := G) h5 (fun _ => k5) I
        rw [b5.eo, bd_ok, bd_ok, if_neg c34, bd_ok]
        have e3 := ge (by decide) h6
        have e4 := ge (by decide) h7
        subst e3
        subst e4
        rcases h with ⟨u9, h8, rfl, rfl⟩ | ⟨u45, h8, k8, rfl, rfl⟩
        · exact Or.inr ⟨rfl, by simp only [nExp, (sExp (G := G) (m := 36) (by decide) h8 nom b5.si).er, bd_er]⟩
        · exfalso
          have q := (sExp (G := G) (m := 36) (by decide) h8 (fun _ => k8) b5.si).eo
          have q1 : (kd (mkE K x.2.2) (aC G u34)).toInt = 36 := by
            unfold tExp tNeed at q
            by_cases w : (kd (mkE K x.2.2) (aC G u34)).toInt = 36
            · exact w
            · rw [if_neg w] at q
              cases q
          have q2 := b5.eo
          unfold tTake at q2
          by_cases w : (1500 : Int) ≤ (pAt (aC G u20)).toInt ∨ pDu (aC G u20) = true
          · rw [if_pos w] at q2
            cases q2
          · rw [if_neg w] at q2
            injection q2 with q3
            have q4 : pAt (aC G u34) = pAt (aC G u20) + 1 := by rw [← q3]; rfl
            have q5 : kd (mkE K x.2.2) (aC G u34) = kb (mkE K x.2.2) (aC G u20) := by unfold kd kb; rw [q4]
            rw [q5, ← hpa] at q1
            exact c36 q1
    · rcases h with ⟨l60, h⟩ | ⟨l60, r130, h2, u9, h3, rfl, rfl⟩
      · exact two l60 c34 h
      · unfold tGItem
        rw [hx, ekb, if_pos ⟨Or.inr c36, by omega⟩, ep, sRef h3, sPlace (G := G) h2 I]
        exact Or.inr ⟨rfl, rfl⟩
  · rcases h with ⟨l60, h⟩ | ⟨l60, r205, h2, u9, h3, rfl, rfl⟩
    · obtain ⟨r71, h1, u73, h2, k2, r80, h3, u82, h4, k4, h⟩ := h
      have f71 := sValue (G := G) h1 I
      have b2 := ch rfl I (by decide) l60 h2 k2
      have f80 := sPlace (G := G) h3 b2.2.1
      rw [b2.1] at f80
      have b4 := ch (n1 b2.2.2.2.2.2.1) b2.2.1 (by decide) l60 h4 k4
      have e4 : aC G u82 = aC G v := b4.1.trans b2.1
      have T : tTake (mkE K x.2.2) (tBegF (aC G v)) = bd (tTake (mkE K x.2.2) (aC G u82)) fun s => .ok (tBegF s) := by rw [nTake, e4]
      unfold tGItem
      rw [hx, ekb, if_neg (by omega), if_pos c34, ev, ep, T]
      rcases h with ⟨u9, h5, rfl, rfl⟩ | ⟨u88, h5, k5, u92, h6, k6, h⟩
      · exact Or.inr ⟨rfl, by simp only [(sTake (G := G) h5 nom b4.2.1).er, bd_er]⟩
      have b5 := sTake (G := G) h5 (fun _ => k5) b4.2.1
      rw [b5.eo, bd_ok, bd_ok, if_pos c34]
      have e85 : u88.1 0 377 = v.1 0 377 := (k5.1.2.1 377 (by decide)).trans (congrFun (b4.2.2.2.2.2.1.trans b2.2.2.2.2.2.1) 377)
      have b6 := ch e85 b5.si (by decide) l60 h6 k6
      rw [← b6.1, nRow]
      rcases h with ⟨u9, h7, rfl, rfl⟩ | ⟨r184, u183, h7, k7, u186, h9, k9, h⟩
      · rcases sRow (G := G) h7 b6.2.1 with ⟨q, -⟩ | ⟨-, q⟩
        · cases q
        · exact Or.inr ⟨rfl, by simp only [q, bd_er]⟩
      obtain ⟨R1, R2, R3⟩ : tRowN (mkE K x.2.2) (aC G u92) = .ok (r184, aC G u183) ∧ SIq G L2 (mkE K x.2.2) u183 ∧ KS u92 u183 := by
        rcases sRow (G := G) h7 b6.2.1 with ⟨-, q⟩ | ⟨q, -⟩
        · exact q
        · cases q
      rw [R1, bd_ok, bd_ok]
      have e9 : u183.1 0 377 = v.1 0 377 := (k7.1.2.1 377 (by decide)).trans ((congrFun b6.2.2.2.2.2.1 377).trans e85)
      have b9 := ch e9 R2 (by decide) l60 h9 k9
      rw [← b9.1]
      have rs7 : RS u92 u183 := k7.2.2.2.2.2.2.2
      have fr : FC [305, 306] [0] v u186 := (b2.2.2.2.2.2.2.2.tr b4.2.2.2.2.2.2.2).tr ((k5.1.up (by decide) (by decide)).tr (b6.2.2.2.2.2.2.2.tr ((k7.1.up (by decide) (by decide)).tr b9.2.2.2.2.2.2.2)))
      have rw' : RWq (rowA L2 (nG v)) v u186 := ((b2.2.2.2.1.tr b4.2.2.2.1).tr (RWq.rs k5.2.2.2.1)).tr (b6.2.2.2.1.tr ((RWq.rs rs7.1).tr b9.2.2.2.1))
      have r5 : ∀ j, rF L2 u88 (nG v) j = rF L2 u82 (nG v) j := fun j => congrFun (k5.2.2.2.1 _ (by omega)) j
      have r7 : ∀ j, rF L2 u183 (nG v) j = rF L2 u92 (nG v) j := fun j => congrFun (rs7.1 _ (by omega)) j
      rcases h with ⟨u9, h8, rfl, rfl⟩ | ⟨u107, h8, k8, rfl, rfl⟩
      · exact Or.inr ⟨rfl, by simp only [nExp, (sExp (G := G) (m := 36) (by decide) h8 nom b9.2.1).er, bd_er]⟩
      · have F := fin (y := v) (s45 := v) (sz := r184) (rw9 := 1) l60 fr (Or.inr rw') b9.2.1 ((b2.2.2.1.tr b4.2.2.1).tr (b5.ks.tr (b6.2.2.1.tr (R3.tr b9.2.2.1)))) ((b2.2.2.2.2.2.2.1.tr b4.2.2.2.2.2.2.1).tr (k5.2.2.2.2.tr (b6.2.2.2.2.2.2.1.tr (rs7.2.tr b9.2.2.2.2.2.2.1))))
          (by rw [b9.2.2.2.2.1, r7, b6.2.2.2.2.1, r5, b4.2.2.2.2.1, b2.2.2.2.2.1, ← f71]; rfl) (by rw [b9.2.2.2.2.1, r7, b6.2.2.2.2.1, r5, b4.2.2.2.2.1, ← f80]; rfl) (by rw [b9.2.2.2.2.1]; rfl) (by rw [b9.2.2.2.2.1, r7, b6.2.2.2.2.1]; rfl)
          (by
            have q1 := k5.2.2.1
            have q2 : u82.1 0 305 = v.1 0 305 := congrFun (b4.2.2.2.2.2.1.trans b2.2.2.2.2.2.1) 305
            have q3 : u92.1 0 305 = u88.1 0 305 := congrFun b6.2.2.2.2.2.1 305
            have q4 := k7.2.2.2.2.2.1
            have q5 : u186.1 0 305 = u183.1 0 305 := congrFun b9.2.2.2.2.2.1 305
            rw [q2] at q1
            rw [q3] at q4
            rw [q5]
            omega) h8 k8
        have F1 : tExp 36 (mkE K x.2.2) ((r184, tBegF (aC G u186)) : Int32 × PS).2 = .ok (tBegF (aC G u107)) := F.1
        rw [F1, bd_ok, F.2.1]
        exact Or.inl ⟨rfl, _, rfl, rfl, rfl, F.2.2.1, F.2.2.2.1, F.2.2.2.2.1, F.2.2.2.2.2.1, fun f hf4 => (show (wA u107 0 377 ((v.1 0 377) + (1 : Int32))).1 (5000 + rowA L1 f) = u107.1 (5000 + rowA L1 f) from if_neg (by omega)).trans (F.2.2.2.2.2.2.1 f hf4), F.2.2.2.2.2.2.2.1, F.2.2.2.2.2.2.2.2.1, F.2.2.2.2.2.2.2.2.2⟩
    · unfold tGItem
      rw [hx, ekb, if_pos ⟨Or.inl c34, by omega⟩, ep, sRef h3, sPlace (G := G) h2 I]
      exact Or.inr ⟨rfl, rfl⟩
end CGI
