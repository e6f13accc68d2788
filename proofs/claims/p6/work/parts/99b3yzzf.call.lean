/-! the class: from the first word to the last -/
def tlT (w : MS) : List Int32 := if (w.1 0 339).toInt = 0 then [] else tmW
def tlO (w : MS) : List Int32 := if (w.1 0 340).toInt = 0 then [] else ovW
/-- fields but these, arrays but these, rows -/
def FXr (fl al : List Nat) (v u : MS) : Prop := (∀ k, k ∉ fl → u.1 0 k = v.1 0 k) ∧ (∀ a, a < 5000 → a ∉ al → u.1 a = v.1 a) ∧ RS0 v u
section ZWF
variable {L1 L2 : List Nat} {N : Nat} {v u w x z u5 : MS} {pa pb pc1 pd r d y n : Int32} {a b : List Int32} {k : Nat} {fl al : List Nat}
theorem FXr.rf : FXr fl al v v := ⟨fun _ _ => rfl, fun _ _ _ => rfl, fun _ _ => rfl⟩
theorem FXr.tr (h : FXr fl al v u) (k : FXr fl al u w) : FXr fl al v w := ⟨fun i hi => (k.1 i hi).trans (h.1 i hi), fun i h1 hi => (k.2.1 i h1 hi).trans (h.2.1 i h1 hi), fun i hi => (k.2.2 i hi).trans (h.2.2 i hi)⟩
theorem FXr.wr {i : Nat} {y : Int32} (hi : i ∈ fl) (h0 : 0 ∈ al) : FXr fl al v (wA v 0 i y) := by
  refine ⟨fun k hk => ?_, fun a _ ha => ?_, fun a ha => ?_⟩
  · show upd (v.1 0) i y k = _
    rw [updN_ (fun q => hk (by rw [q]; exact hi))]
  · show (if a = 0 then _ else v.1 a) = _
    rw [if_neg (fun q => ha (by rw [q]; exact h0))]
  · show (if a = 0 then _ else v.1 a) = _
    rw [if_neg (by omega)]
theorem EMs.fx (h : EMs N v u a) (hf : 337 ∈ fl) (h0 : 0 ∈ al) (h3 : 382 ∈ al) : FXr fl al v u := ⟨fun k hk => h.2.1.2.1 k (fun q => hk (by rw [List.mem_singleton] at q; rw [q]; exact hf)), fun a h5 ha => h.2.1.2.2 a ⟨h5, fun q => ha (by
  simp only [List.mem_cons, List.not_mem_nil, or_false] at q
  rcases q with q | q
  · rw [q]; exact h0
  · rw [q]; exact h3)⟩, h.2.2⟩
theorem EMc.cg (h : EMc N v u a) (e1 : x.1 0 337 = v.1 0 337) (e2 : x.1 0 338 = v.1 0 338) (e3 : x.1 382 = v.1 382) (f1 : w.1 0 337 = u.1 0 337) (f3 : w.1 382 = u.1 382) : EMc N x w a := by
  unfold EMc at h ⊢
  rw [e1, e2, e3, f1, f3]
  exact h
/-- times, over, where they lie -/
theorem tailW (hN : N ≤ 4096) (h0 : 0 ≤ (w.1 0 337).toInt) (h : ((((w.1 0 339).toInt = (0 : Int)) ∧ ((((w.1 0 340).toInt = (0 : Int)) ∧ ∃ (u16 : MS), (Q_x_X0_placeGlobals L1 L2 (wA (wA (wA w 0 341 ((4 : Int32) * (w.1 0 337))) 0 342 ((4 : Int32) * (w.1 0 337))) 0 383 (w.1 0 337)) u16) ∧ (K_x_X0_placeGlobals (wA (wA (wA w 0 341 ((4 : Int32) * (w.1 0 337))) 0 342 ((4 : Int32) * (w.1 0 337))) 0 383 (w.1 0 337)) u16) ∧ u = u16) ∨ (((w.1 0 340).toInt ≠ (0 : Int)) ∧ ∃ (u20 : MS), (Q_x_X0_layOver L1 L2 N (wA (wA w 0 341 ((4 : Int32) * (w.1 0 337))) 0 342 ((4 : Int32) * (w.1 0 337))) u20) ∧ (K_x_X0_layOver (wA (wA w 0 341 ((4 : Int32) * (w.1 0 337))) 0 342 ((4 : Int32) * (w.1 0 337))) u20) ∧ ∃ (u23 : MS), (Q_x_X0_placeGlobals L1 L2 (wA u20 0 383 (u20.1 0 337)) u23) ∧ (K_x_X0_placeGlobals (wA u20 0 383 (u20.1 0 337)) u23) ∧ u = u23))) ∨ (((w.1 0 339).toInt ≠ (0 : Int)) ∧ ∃ (u27 : MS), (Q_x_X0_layTimes L1 L2 N (wA w 0 341 ((4 : Int32) * (w.1 0 337))) u27) ∧ (K_x_X0_layTimes (wA w 0 341 ((4 : Int32) * (w.1 0 337))) u27) ∧ ((((u27.1 0 340).toInt = (0 : Int)) ∧ ∃ (u33 : MS), (Q_x_X0_placeGlobals L1 L2 (wA (wA u27 0 342 ((4 : Int32) * (u27.1 0 337))) 0 383 (u27.1 0 337)) u33) ∧ (K_x_X0_placeGlobals (wA (wA u27 0 342 ((4 : Int32) * (u27.1 0 337))) 0 383 (u27.1 0 337)) u33) ∧ u = u33) ∨ (((u27.1 0 340).toInt ≠ (0 : Int)) ∧ ∃ (u37 : MS), (Q_x_X0_layOver L1 L2 N (wA u27 0 342 ((4 : Int32) * (u27.1 0 337))) u37) ∧ (K_x_X0_layOver (wA u27 0 342 ((4 : Int32) * (u27.1 0 337))) u37) ∧ ∃ (u40 : MS), (Q_x_X0_placeGlobals L1 L2 (wA u37 0 383 (u37.1 0 337)) u40) ∧ (K_x_X0_placeGlobals (wA u37 0 383 (u37.1 0 337)) u40) ∧ u = u40))))) :
    ∃ x9, Q_x_X0_placeGlobals L1 L2 x9 u ∧ EMc N w x9 (tlT w ++ tlO w) ∧ FXr [337, 341, 342, 383] [0, 382] w x9 ∧ x9.1 0 341 = (4 : Int32) * w.1 0 337 ∧ x9.1 0 342 = (4 : Int32) * (w.1 0 337 + nI (tlT w).length) ∧ x9.1 0 383 = x9.1 0 337 := by
  have t10 : tmW.length = 10 := rfl
  unfold tlT tlO
  rcases h with ⟨c, ⟨c2, u16, hp, -, e⟩ | ⟨c2, u20, ho, -, u23, hp, -, e⟩⟩ | ⟨c, u27, ht, -, ⟨c2, u33, hp, -, e⟩ | ⟨c2, u37, ho, -, u40, hp, -, e⟩⟩
  · rw [if_pos c, if_pos c2, e]
    refine ⟨_, hp, (EMc.rf h0).cg rfl rfl rfl rfl rfl, ((FXr.wr (by decide) (by decide)).tr (FXr.wr (by decide) (by decide))).tr (FXr.wr (by decide) (by decide)), rfl, ?_, rfl⟩
    show (4 : Int32) * w.1 0 337 = (4 : Int32) * (w.1 0 337 + nI 0)
    rw [show nI 0 = (0 : Int32) from rfl, Int32.add_zero]
  · have E := wOver hN ho
    rw [if_pos c, if_neg c2, e]
    refine ⟨_, hp, ?_, (((FXr.wr (by decide) (by decide)).tr (FXr.wr (by decide) (by decide))).tr (E.fx (by decide) (by decide) (by decide))).tr (FXr.wr (by decide) (by decide)), ?_, ?_, rfl⟩
    · rw [List.nil_append]
      exact E.1.cg rfl rfl rfl rfl rfl
    · exact E.2.1.2.1 341 (by decide)
    · show u20.1 0 342 = (4 : Int32) * (w.1 0 337 + nI 0)
      rw [show nI 0 = (0 : Int32) from rfl, Int32.add_zero]
      exact E.2.1.2.1 342 (by decide)
  · have E := wTimes hN ht
    have n1 : u27.1 0 337 = w.1 0 337 + 10 := i32_of (k := 10) (by rw [E.1.1.1, t10]; rfl) (by decide)
    have c2' : (w.1 0 340).toInt = 0 := by rw [← c2, E.2.1.2.1 340 (by decide)]; rfl
    rw [if_neg c, if_pos c2', e, List.append_nil]
    refine ⟨_, hp, E.1.cg rfl rfl rfl rfl rfl, (((FXr.wr (by decide) (by decide)).tr (E.fx (by decide) (by decide) (by decide))).tr (FXr.wr (by decide) (by decide))).tr (FXr.wr (by decide) (by decide)), E.2.1.2.1 341 (by decide), ?_, rfl⟩
    show (4 : Int32) * u27.1 0 337 = (4 : Int32) * (w.1 0 337 + nI tmW.length)
    rw [n1, t10]
    rfl
  · have E := wTimes hN ht
    have n1 : u27.1 0 337 = w.1 0 337 + 10 := i32_of (k := 10) (by rw [E.1.1.1, t10]; rfl) (by decide)
    have c2' : ¬ (w.1 0 340).toInt = 0 := fun q => c2 (by rw [E.2.1.2.1 340 (by decide)]; exact q)
    have O := wOver hN ho
    have EE : EMc N (wA w 0 341 ((4 : Int32) * (w.1 0 337))) u37 (tmW ++ ovW) := E.1.tr (E.2.1.2.1 338 (by decide)) (O.1.cg rfl rfl rfl rfl rfl)
    rw [if_neg c, if_neg c2', e]
    refine ⟨_, hp, EE.cg rfl rfl rfl rfl rfl, ((((FXr.wr (by decide) (by decide)).tr (E.fx (by decide) (by decide) (by decide))).tr (FXr.wr (by decide) (by decide))).tr (O.fx (by decide) (by decide) (by decide))).tr (FXr.wr (by decide) (by decide)), ?_, ?_, rfl⟩
    · exact (O.2.1.2.1 341 (by decide)).trans (E.2.1.2.1 341 (by decide))
    · refine (O.2.1.2.1 342 (by decide)).trans ?_
      show (4 : Int32) * u27.1 0 337 = (4 : Int32) * (w.1 0 337 + nI tmW.length)
      rw [n1, t10]
      rfl
end ZWF
