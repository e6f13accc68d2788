/-! globals, calls -/
theorem find_l {α : Type} {F : Nat → α} {p : α → Bool} : ∀ n : Nat, (∀ j, j < n → p (F j) = false) → ((List.range n).map F).find? p = none
  | 0, _ => rfl
  | n + 1, h => by
    rw [List.range_succ, List.map_append, List.find?_append, find_l n (fun j hj => h j (by omega))]
    show (List.find? p [F n]) = none
    rw [List.find?_cons_of_neg (by rw [h n (by omega)]; decide)]
    rfl
theorem find_s {α : Type} {F : Nat → α} {p : α → Bool} {k : Nat} (hk : p (F k) = true) (hl : ∀ j, j < k → p (F j) = false) : ∀ n : Nat, k < n → ((List.range n).map F).find? p = some (F k)
  | 0, h => by omega
  | n + 1, h => by
    rw [List.range_succ, List.map_append, List.find?_append]
    by_cases q : k = n
    · rw [find_l n (fun j hj => hl j (by omega)), ← q]
      show (List.find? p [F k]) = some (F k)
      rw [List.find?_cons_of_pos hk]
    · rw [find_s hk hl n (by omega)]
      rfl
section CCA
variable {G : GH} {L1 L2 : List Nat} {e : PE} {v u : MS} {t : Bool} {r pa pb pc1 : Int32}
theorem cGF4 (h : Q_x_X7_globalFact L1 L2 v pa pb r) (h0 : 0 ≤ pa.toInt) (h1 : pa.toInt < (v.1 0 377).toInt) (h2 : (v.1 0 377).toInt ≤ 60) (h3 : 0 ≤ pb.toInt ∧ pb.toInt < 5) : r = v.1 (5000 + rowA L2 pa.toNatClampNeg) pb.toNatClampNeg := by
  rcases h with ⟨a, -⟩ | ⟨-, ⟨a, -⟩ | ⟨-, ⟨-, ⟨a, -⟩ | ⟨-, ⟨a, -⟩ | ⟨-, h⟩⟩⟩ | ⟨a, -⟩⟩⟩
  · omega
  · omega
  · omega
  · omega
  · exact h
  · omega
theorem cGFn (h : Q_x_X7_globalFact L1 L2 v pa pb r) (h0 : pa.toInt < 0) : r = -1 := by
  rcases h with ⟨-, h⟩ | ⟨a, -⟩
  · exact h
  · omega
theorem cGlob (h : Q_x_X7_globalNamed L1 L2 v pa r) (J : JC L2 e v) : (r.toInt = -1 ∧ gfd e pa = none) ∨ (0 ≤ r.toInt ∧ r.toInt < (v.1 0 377).toInt ∧ gfd e pa = some (v.1 (5000 + rowA L2 r.toNatClampNeg) 2)) := by
  obtain ⟨ka, hr, h0, h⟩ := h
  obtain ⟨J1, -, J3⟩ := J
  have n0 := natI J3.1
  have inv : ∀ j : Nat, (j : Int) < ka.toInt → v.1 (5000 + rowA L2 j) 4 ≠ pa := by
    refine RT.ind (fun (y : Int32) => ∀ j : Nat, (j : Int) < y.toInt → v.1 (5000 + rowA L2 j) 4 ≠ pa) hr (fun j hj => by
      have e0 : (0 : Int32).toInt = 0 := (by decide)
      omega) ?_
    intro x y _ hx hy
    obtain ⟨a, b, r6, f6, -, c, rfl⟩ := hy
    have e1 : (x + (1 : Int32)).toInt = x.toInt + 1 := add_z rfl (by decide) (by omega) (by omega)
    intro j hj
    by_cases q : (j : Int) = x.toInt
    · have w := cGF4 f6 a b J3.2 (by decide)
      have xj : x.toNatClampNeg = j := by have := natI (a := x) a; omega
      rw [xj] at w
      exact fun k => c (congrArg Int32.toInt (w.trans k))
    · exact hx j (by omega)
  have gf : gfd e pa = (((List.range (v.1 0 377).toNatClampNeg).map (fun g => (v.1 (5000 + rowA L2 g) 4, v.1 (5000 + rowA L2 g) 2))).find? (fun g => g.1 == pa)).map (fun g => g.2) := by
    rw [← J1]
    rfl
  rcases h with ⟨a, rfl⟩ | ⟨a, r6, f6, -, c, hk⟩
  · refine Or.inl ⟨by decide, ?_⟩
    rw [gf, find_l (p := fun g => g.1 == pa) (F := fun g => (v.1 (5000 + rowA L2 g) 4, v.1 (5000 + rowA L2 g) 2)) _ (fun j hj => beq_false_of_ne (inv j (by omega)))]
    rfl
  · rw [hk]
    refine Or.inr ⟨h0, a, ?_⟩
    have w := cGF4 f6 h0 a J3.2 (by decide)
    rw [gf, find_s (p := fun g => g.1 == pa) (F := fun g => (v.1 (5000 + rowA L2 g) 4, v.1 (5000 + rowA L2 g) 2)) (k := ka.toNatClampNeg) (by
      show (v.1 (5000 + rowA L2 ka.toNatClampNeg) 4 == pa) = true
      rw [beq_iff_eq]
      exact w.symm.trans (Int32.toInt_inj.mp c)) (fun j hj => beq_false_of_ne (inv j (by have := natI h0; omega))) _ (by have := natI h0; omega)]
    rfl
/-- the calls under way have been noted -/
def OG (G : GH) (v : MS) : Prop := ovC v = true ∨ ∀ c ∈ G.2.2.2.2, (c : Int) < (v.1 0 321).toInt
theorem ov_le (h : (v.1 0 321).toInt ≤ (u.1 0 321).toInt) (o : ovC v = true) : ovC u = true := decide_eq_true (Int.le_trans (of_decide_eq_true o) h)
theorem OG.le (h : OG G v) (k : (v.1 0 321).toInt ≤ (u.1 0 321).toInt) : OG G u := h.imp (ov_le k) (fun w c hc => Int.lt_of_lt_of_le (w c hc) k)
theorem OG.kp (h : OG G v) (k : KP v u) : OG G u := h.le k.2.2.1
def gO (G : GH) (c : Nat) : GH := (G.1, G.2.1, G.2.2.1, G.2.2.2.1, c :: G.2.2.2.2)
theorem csum_cg {p : Int → Int32} {O O' : List Nat} {f f' : Nat → Int32} : ∀ n : Nat, (∀ j, j < n → (j ∈ O ↔ j ∈ O') ∧ (j ∉ O → f j = f' j)) → csum p O f n = csum p O' f' n
  | 0, _ => rfl
  | n + 1, h => by
    show csum p O f n + _ = csum p O' f' n + _
    rw [csum_cg n (fun j hj => h j (by omega))]
    have hn := h n (by omega)
    by_cases q : n ∈ O
    · rw [if_pos q, if_pos (hn.1.mp q)]
    · rw [hn.2 q, if_neg q, if_neg (fun a => q (hn.1.mpr a))]
theorem cas_cg {O O' : List Nat} {f f' g g' h h' : Nat → Int32} {n : Nat} (q : ∀ j, j < n → f j = f' j ∧ g j = g' j ∧ (j ∈ O ↔ j ∈ O') ∧ (j ∉ O → h j = h' j)) : cas O f g h n = cas O' f' g' h' n := by
  unfold cas
  refine List.map_congr_left (fun j hj => ?_)
  obtain ⟨a, b, c, d⟩ := q j (List.mem_range.mp hj)
  rw [a, b]
  by_cases w : j ∈ O
  · rw [if_pos w, if_pos (c.mp w)]
  · rw [if_neg w, if_neg (fun k => w (c.mpr k)), d w]
theorem cas_len {O : List Nat} {f g h : Nat → Int32} {n : Nat} : (cas O f g h n).length = n := by unfold cas; rw [List.length_map, List.length_range]
theorem cas_snoc {O : List Nat} {f g h : Nat → Int32} {n : Nat} : cas O f g h (n + 1) = cas O f g h n ++ [(f n, g n, if n ∈ O then 0 else h n)] := by unfold cas; rw [List.range_succ, List.map_append]; rfl
theorem cAddCall (h : Q_x_X1_addCall L1 L2 v pa pb r u) (k : K_x_X1_addCall v pa pb r u) (J : JC L2 e v) (og : OG G v) : aC (gO G (nC v)) u = tAddCall pa pb (aC G v) ∧ JC L2 e u ∧ KP v u ∧ (ovC u = false → r.toNatClampNeg = nC v ∧ nC v < 500 ∧ nC u = nC v + 1 ∧ u.1 320 (nC v) = 0 ∧ 0 ≤ r.toInt ∧ (pCa (aC G v)).length = nC v) ∧ (ovC u = true → r.toInt = 500) := by
  have f := fun i hi => k.1.2.1 i hi
  have a := fun i hi => k.1.2.2 i hi
  have hJ : (u.1 0 307).toInt ≤ (u.1 0 305).toInt := by
    rw [f 307 (by decide), f 305 (by decide)]
    exact J.2.1
  have J2 := J.fr k.1 k.2.2 (by decide) (by decide) hJ
  have nd : nD u = nD v := by unfold nD; rw [f 381 (by decide)]
  obtain ⟨z, h⟩ := h
  have n0 := natI z.1
  rcases h with ⟨b, rfl, rfl⟩ | ⟨b, rfl, hu⟩
  · have ov : ovC u = true := decide_eq_true b
    refine ⟨?_, J, KP.rf, (fun q => by rw [ov] at q; cases q), fun _ => ?_⟩
    · unfold tAddCall
      rw [if_pos (show pOv (aC G u) = true from ov)]
      unfold aC wdC caC
      rw [ov]
      rfl
    · have : ((u.1 0 321) - (1 : Int32)).toInt = (u.1 0 321).toInt - 1 := sub_z rfl (by decide) (by omega) (by omega)
      omega
  · have ov : ¬ ovC v = true := fun q => by have := of_decide_eq_true q; omega
    have e1 : (v.1 0 321 + 1).toInt = (v.1 0 321).toInt + 1 := add_z rfl (by decide) (by omega) (by omega)
    have nc : nC u = nC v + 1 := by rw [hu]; exact natS e1 z.1
    have u1 : u.1 318 = upd (v.1 318) (nC v) pa := by rw [hu]; rfl
    have u2 : u.1 319 = upd (v.1 319) (nC v) pb := by rw [hu]; rfl
    have u3 : u.1 320 = upd (v.1 320) (nC v) 0 := by rw [hu]; rfl
    have u4 : (u.1 0 321).toInt = (v.1 0 321).toInt + 1 := by rw [hu]; exact e1
    have hn : (nC v : Int) = (v.1 0 321).toInt := n0
    have len : (pCa (aC G v)).length = nC v := by
      show (caC G v).length = nC v
      unfold caC
      rw [if_neg ov, cas_len]
    have kp : KP v u := ⟨f 326 (by decide), fun j _ => ⟨congrFun (a 324 (by decide)) j, congrFun (a 325 (by decide)) j⟩, by omega, fun c _ hc => by rw [u3]; exact updN_ (by omega)⟩
    refine ⟨?_, J2, kp, fun q => ⟨rfl, ?_, nc, by rw [u3]; exact updS, z.1, len⟩, fun q => ?_⟩
    · unfold tAddCall
      rw [if_neg (show ¬ pOv (aC G v) = true from ov), len]
      by_cases c5 : nC v = 500
      · have ou : ovC u = true := decide_eq_true (by omega)
        rw [if_pos c5]
        refine aC_eq ?_ ?_ ?_ ?_ ?_ ?_ ?_ ?_ rfl ou ?_ ?_ ?_ ?_
        · exact f 305 (by decide)
        · exact f 306 (by decide)
        · rw [f 305 (by decide), f 307 (by decide)]; rfl
        · exact f 313 (by decide)
        · exact f 314 (by decide)
        · rw [f 305 (by decide), f 307 (by decide), f 315 (by decide)]; rfl
        · rw [nd, a 378 (by decide), a 379 (by decide)]; rfl
        · rw [nd, a 378 (by decide), a 379 (by decide)]; rfl
        · unfold wdC; rw [if_pos ou]; rfl
        · exact f 312 (by decide)
        · rw [f 312 (by decide), a 311 (by decide)]; rfl
        · unfold caC; rw [if_pos ou]; rfl
      · have ou : ovC u = false := decide_eq_false (by omega)
        rw [if_neg c5]
        refine aC_eq ?_ ?_ ?_ ?_ ?_ ?_ ?_ ?_ rfl ou ?_ ?_ ?_ ?_
        · exact f 305 (by decide)
        · exact f 306 (by decide)
        · rw [f 305 (by decide), f 307 (by decide)]; rfl
        · exact f 313 (by decide)
        · exact f 314 (by decide)
        · rw [f 305 (by decide), f 307 (by decide), f 315 (by decide)]; rfl
        · rw [nd, a 378 (by decide), a 379 (by decide)]; rfl
        · rw [nd, a 378 (by decide), a 379 (by decide)]; rfl
        · show wdC _ u = wdC G v
          unfold wdC
          rw [if_neg ov, if_neg (by rw [ou]; decide), nd, nc, a 378 (by decide), a 379 (by decide), u3]
          show _ + (csum G.2.2.2.1.2 (nC v :: G.2.2.2.2) (upd (v.1 320) (nC v) 0) (nC v) + _) = _
          rw [if_pos (show nC v ∈ (gO G (nC v)).2.2.2.2 from List.mem_cons_self), csum_cg (O' := G.2.2.2.2) (f' := v.1 320) (nC v) (fun j hj => ⟨⟨fun w => (List.mem_cons.mp w).elim (fun x => by omega) (fun x => x), fun w => List.mem_cons_of_mem _ w⟩, fun _ => updN_ (by omega)⟩), Int32.add_zero]
          rfl
        · exact f 312 (by decide)
        · rw [f 312 (by decide), a 311 (by decide)]; rfl
        · show caC _ u = caC G v ++ [(pa, pb, 0)]
          unfold caC
          rw [if_neg ov, if_neg (by rw [ou]; decide), nc, cas_snoc, u1, u2, u3, updS, updS]
          show cas (nC v :: G.2.2.2.2) _ _ _ (nC v) ++ [(pa, pb, if nC v ∈ nC v :: G.2.2.2.2 then _ else _)] = _
          rw [if_pos List.mem_cons_self, cas_cg (O' := G.2.2.2.2) (f' := v.1 318) (g' := v.1 319) (h' := v.1 320) (fun j hj => ⟨updN_ (by omega), updN_ (by omega), ⟨fun w => (List.mem_cons.mp w).elim (fun x => by omega) (fun x => x), fun w => List.mem_cons_of_mem _ w⟩, fun _ => updN_ (by omega)⟩)]
    · have := of_decide_eq_false q; omega
    · have := of_decide_eq_true q
      omega
end CCA
