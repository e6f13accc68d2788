def swA (ad ad2 : Nat → Nat) : Nat → Nat := fun k => if k ∈ [908, 372, 374, 376, 378, 379, 380, 382] then ad2 k else ad k
/-- the class with its other program as the one that is looked at -/
def swV (v w : MS) : MS := (fun b => if b = 0 then (fun k => if k ∈ [373, 375, 377, 381, 383, 384] then w.1 0 k else v.1 0 k) else if b ∈ [372, 378, 379, 380, 382] ∨ 5000 ≤ b then w.1 b else v.1 b, v.2)
theorem sw_row (cI : ClassId) (n : Nat) (v w : MS) : rw1 cI n (swV v w) = rw1 cI n w := funext (fun a => by
  unfold rw1
  rw [show (swV v w).1 (5000 + a) = w.1 (5000 + a) from by
    show (if 5000 + a = 0 then _ else if 5000 + a ∈ [372, 378, 379, 380, 382] ∨ 5000 ≤ 5000 + a then w.1 (5000 + a) else v.1 (5000 + a)) = _
    rw [if_neg (by omega), if_pos (Or.inr (by omega))]])
theorem sw_rp {v w : MS} (h : RP w) : RP (swV v w) := fun a => by
  rw [show (swV v w).1 (5000 + a) = w.1 (5000 + a) from by
    show (if 5000 + a = 0 then _ else if 5000 + a ∈ [372, 378, 379, 380, 382] ∨ 5000 ≤ 5000 + a then w.1 (5000 + a) else v.1 (5000 + a)) = _
    rw [if_neg (by omega), if_pos (Or.inr (by omega))]]
  exact h a
theorem sw_f {v w : MS} {k : Nat} (h : k ∈ [373, 375, 377, 381, 383, 384]) : (swV v w).1 0 k = w.1 0 k := if_pos h
theorem sw_a {v w : MS} {a : Nat} (h0 : a ≠ 0) (h : a ∈ [372, 378, 379, 380, 382]) : (swV v w).1 a = w.1 a := by
  show (if a = 0 then _ else if a ∈ [372, 378, 379, 380, 382] ∨ 5000 ≤ a then w.1 a else v.1 a) = _
  rw [if_neg h0, if_pos (Or.inl h)]
theorem sw_rs {v w : MS} : RS0 w (swV v w) := fun a ha => by
  show (if a = 0 then _ else if a ∈ [372, 378, 379, 380, 382] ∨ 5000 ≤ a then w.1 a else v.1 a) = _
  rw [if_neg (by omega), if_pos (Or.inr ha)]
theorem sw_nf {v w : MS} {k : Nat} (h : k ∉ [373, 375, 377, 381, 383, 384]) : (swV v w).1 0 k = v.1 0 k := if_neg h
theorem sw_na {v w : MS} {a : Nat} (h0 : a ≠ 0) (h : a ∉ [372, 378, 379, 380, 382]) (h5 : a < 5000) : (swV v w).1 a = v.1 a := by
  show (if a = 0 then _ else if a ∈ [372, 378, 379, 380, 382] ∨ 5000 ≤ a then w.1 a else v.1 a) = _
  rw [if_neg h0, if_neg (fun q => q.elim h (fun q => by omega))]
theorem qxp.mn {D : va_G} {W0 : va_W} {sz : Nat} {px px' : String → Prop} (h : ∀ E, px E → px' E) {E : String} {s t : State} (q : qxp D W0 sz px E s t) : qxp D W0 sz px' E s t := by
  obtain ⟨x, hx, ⟨hp, hP, hD⟩, hF⟩ := q
  exact ⟨x, hx, ⟨h E hp, hP, hD⟩, hF⟩
theorem lift_ix {l : Launch} {y : MethodName} {w : List Cond} {rm : Room} {D : va_G} {tys : List (ClassId × FieldType)} {tb : Nat → Nat} {Wc R ws : va_W} {sz mc ms : Nat} {av : List Value} {S : Type} {post : Int32 → S → Prop} {Wf : S → va_W} {px : String → Prop} (px' : String → Prop) (post' : Int32 → va_W → Prop) (hp : ws.Perm (Wc ++ R)) (hM : vx_Met l y w rm (pc_ D tys tb Wc sz av) (qi_ D Wc sz post Wf) (qxp D Wc sz px) mc ms (va_A Wc sz)) (hpx : ∀ E, px E → px' E) (h : ∀ r u, post r u → post' r (Wf u ++ R)) : vx_Met l y w rm (pc_ D tys tb ws sz av) (qi_ D ws sz post' (fun u => u)) (qxp D ws sz px') mc ms (va_A ws sz) :=
  (vx_Met.lift_i post' hp hM h).map (fun _ _ z => z) (fun _ _ _ _ _ z => z) (fun _ _ _ _ _ z => qxp.mn hpx z) (fun _ z => z)
theorem p_nil (U : va_W) : U.Perm (U ++ []) := List.Perm.of_eq (List.append_nil U).symm
theorem p_show (x : Nat × va_E) (C O S : va_W) : (x :: (C ++ (O ++ S))).Perm ((x :: S) ++ (C ++ O)) := by
  refine List.Perm.cons x ?_
  rw [← List.append_assoc]
  exact List.perm_append_comm
set_option maxRecDepth 100000 in
set_option maxHeartbeats 4000000 in
theorem swp (ad ad2 : Nat → Nat) (pr : Int32 → Nat) (N : Nat) (cI cB cR : ClassId) (L1 L2 L3 L4 : List Nat) (v w : MS) (sh sb a m : Nat) (f : Nat → Int32) (cnt mb : Int32) : (pW ad pr N cI cR L1 L2 (prW ad2 N cI cR L3 L4 w ++ shC sh sb a cB m f cnt mb) v).Perm (pW (swA ad ad2) pr N cI cR L3 L4 (prW ad N cI cR L1 L2 v ++ shC sh sb a cB m f cnt mb) (swV v w)) := by
  have h1 := (pXp ((ad 909, .inr (14, oF_X11 ad pr v))) (cX ad pr N cI cR L1 L2 v) [(ad2 908, .inr (10, oF_X7 ad2 (fun _ => 0) w)), (ad2 372, .inl (cI, 4000, .inl (w.1 372))), (ad2 374, .inl (cR, 40, .inr (.inr (.inr (.inr (fun i => L3[i]?)))))), (ad2 376, .inl (cR, 60, .inr (.inr (.inr (.inr (fun i => L4[i]?)))))), (ad2 378, .inl (cI, 3008, .inl (w.1 378))), (ad2 379, .inl (cI, 3008, .inl (w.1 379))), (ad2 380, .inl (cI, 3008, .inl (w.1 380))), (ad2 382, .inl (cI, N, .inl (w.1 382)))] (shC sh sb a cB m f cnt mb) (va_pl L1 (rw1 cI 6 v)) (va_pl L2 (rw1 cI 5 v)) (va_pl L3 (rw1 cI 6 w)) (va_pl L4 (rw1 cI 5 w))).symm
  have h2 : ((ad 909, .inr (14, oF_X11 ad pr v)) :: (cX ad pr N cI cR L1 L2 v ++ ([(ad2 908, .inr (10, oF_X7 ad2 (fun _ => 0) w)), (ad2 372, .inl (cI, 4000, .inl (w.1 372))), (ad2 374, .inl (cR, 40, .inr (.inr (.inr (.inr (fun i => L3[i]?)))))), (ad2 376, .inl (cR, 60, .inr (.inr (.inr (.inr (fun i => L4[i]?)))))), (ad2 378, .inl (cI, 3008, .inl (w.1 378))), (ad2 379, .inl (cI, 3008, .inl (w.1 379))), (ad2 380, .inl (cI, 3008, .inl (w.1 380))), (ad2 382, .inl (cI, N, .inl (w.1 382)))] ++ shC sh sb a cB m f cnt mb))).Perm (((swA ad ad2) 909, .inr (14, oF_X11 (swA ad ad2) pr (swV v w))) :: (cX (swA ad ad2) pr N cI cR L3 L4 (swV v w) ++ ([(ad 908, .inr (10, oF_X7 ad (fun _ => 0) v)), (ad 372, .inl (cI, 4000, .inl (v.1 372))), (ad 374, .inl (cR, 40, .inr (.inr (.inr (.inr (fun i => L1[i]?)))))), (ad 376, .inl (cR, 60, .inr (.inr (.inr (.inr (fun i => L2[i]?)))))), (ad 378, .inl (cI, 3008, .inl (v.1 378))), (ad 379, .inl (cI, 3008, .inl (v.1 379))), (ad 380, .inl (cI, 3008, .inl (v.1 380))), (ad 382, .inl (cI, N, .inl (v.1 382)))] ++ shC sh sb a cB m f cnt mb))) := perm_ix [0, 1, 2, 3, 4, 5, 6, 7, 8, 36, 10, 11, 12, 13, 14, 15, 16, 17, 18, 19, 20, 21, 22, 23, 24, 25, 26, 27, 28, 37, 40, 41, 42, 43, 38, 39, 9, 29, 34, 35, 30, 31, 32, 33, 44, 45, 46] (show ([0, 1, 2, 3, 4, 5, 6, 7, 8, 36, 10, 11, 12, 13, 14, 15, 16, 17, 18, 19, 20, 21, 22, 23, 24, 25, 26, 27, 28, 37, 40, 41, 42, 43, 38, 39, 9, 29, 34, 35, 30, 31, 32, 33, 44, 45, 46] : List Nat).Perm (List.range 47) by decide) rfl
  have h3 := pXp (((swA ad ad2) 909, .inr (14, oF_X11 (swA ad ad2) pr (swV v w)))) (cX (swA ad ad2) pr N cI cR L3 L4 (swV v w)) [(ad 908, .inr (10, oF_X7 ad (fun _ => 0) v)), (ad 372, .inl (cI, 4000, .inl (v.1 372))), (ad 374, .inl (cR, 40, .inr (.inr (.inr (.inr (fun i => L1[i]?)))))), (ad 376, .inl (cR, 60, .inr (.inr (.inr (.inr (fun i => L2[i]?)))))), (ad 378, .inl (cI, 3008, .inl (v.1 378))), (ad 379, .inl (cI, 3008, .inl (v.1 379))), (ad 380, .inl (cI, 3008, .inl (v.1 380))), (ad 382, .inl (cI, N, .inl (v.1 382)))] (shC sh sb a cB m f cnt mb) (va_pl L3 (rw1 cI 6 w)) (va_pl L4 (rw1 cI 5 w)) (va_pl L1 (rw1 cI 6 v)) (va_pl L2 (rw1 cI 5 v))
  refine List.Perm.trans h1 (List.Perm.trans (List.Perm.append_right _ h2) (List.Perm.trans (List.Perm.append_left _ List.perm_append_comm) ?_))
  unfold pW cW
  rw [sw_row, sw_row]
  exact h3
