/-! events' types: for, every level of statements -/
section XNT
variable {M : Int} {E : EvE} {S : EvS} {e : PE} {kn kn' : List Int32} {i j : Int32} {k : Nat} {a b c st ini : List EV}
theorem tyFor0 (hi : TYe k ini (k, 0, 0) (k, 0, 0)) (hs : TYe k st (k, 0, 0) (k, 0, 0)) (hb : TYe k b (k, 0, 0) (k, 0, 0)) : TYe k (gForL ini none st b) (k, 0, 0) (k, 0, 0) := by
  have W := tyForW (h := [evx 24 0 0]) hs hb
  have T1 : TYy [((0 : Int), (0 : Int), ((k, 0, 0) : ST3))] _ k [evx 24 0 0] (k, 0, 0) (k, 0, 0) := TYy.of tyTurn (Nat.le_refl _) (Nat.le_refl _)
  have T := T1.app (W.gw (fun D hD => by
    have e := List.mem_singleton.mp hD
    rw [e]
    exact List.mem_singleton.mpr (PLx (by show _ = (0 : Int) - ldL [evx 24 0 0]; omega) (by show _ = (0 : Int) - loL [evx 24 0 0]; omega))))
  have R := hi.app (T.cl (fun D hD => by
    have e := List.mem_singleton.mp hD
    rw [e]
    exact List.mem_append.mpr (Or.inl List.mem_cons_self)))
  unfold gForL
  simp only [List.append_assoc, List.nil_append] at R ⊢
  exact R
theorem tyFor1 (hi : TYe k ini (k, 0, 0) (k, 0, 0)) (hc : TYe k c (k, 0, 0) (k, 0, 1)) (hs : TYe k st (k, 0, 0) (k, 0, 0)) (hb : TYe k b (k, 0, 0) (k, 0, 0)) : TYe k (gForL ini (some c) st b) (k, 0, 0) (k, 0, 0) := by
  have l19 : ldL [evx 19 0 0] = 1 ∧ loL [evx 19 0 0] = 1 := ⟨rfl, rfl⟩
  obtain ⟨x, hx⟩ : ∃ x, x = [evx 24 0 0] ++ c := ⟨_, rfl⟩
  have X : TYe k x (k, 0, 0) (k, 0, 1) := by rw [hx]; exact tyTurn.app hc
  obtain ⟨U, hU⟩ : ∃ U, U = fwE 16 0 ([fwE 19 0 (st ++ [evx 19 0 0])] ++ (st ++ [evx 19 0 0]) ++ b ++ [evx 19 0 0]) := ⟨_, rfl⟩
  have lU : ldL [U] = 1 ∧ loL [U] = 1 := by rw [hU]; exact ⟨rfl, rfl⟩
  have dU : U.2.2.2.1 = 4 + (ldL st : Int) + ldL b ∧ U.2.2.2.2.1 = 4 + (loL st : Int) + loL b := by
    rw [hU]
    refine ⟨?_, ?_⟩
    · show (1 : Int) + (ldL ([fwE 19 0 (st ++ [evx 19 0 0])] ++ (st ++ [evx 19 0 0]) ++ b ++ [evx 19 0 0]) : Int) = _
      rw [ldL_app, ldL_app, ldL_app, ldL_app, l19.1, show ldL [fwE 19 0 (st ++ [evx 19 0 0])] = 1 from rfl]; omega
    · show (1 : Int) + (loL ([fwE 19 0 (st ++ [evx 19 0 0])] ++ (st ++ [evx 19 0 0]) ++ b ++ [evx 19 0 0]) : Int) = _
      rw [loL_app, loL_app, loL_app, loL_app, l19.2, show loL [fwE 19 0 (st ++ [evx 19 0 0])] = 1 from rfl]; omega
  have W := tyForW (h := x ++ [U]) hs hb
  let P0 : PL3 := (0, 0, (k, 0, 0))
  let Pe : PL3 := (4 + (ldL st : Int) + ldL b + ldL x, 4 + (loL st : Int) + loL b + loL x, (k, 0, 0))
  have T1 : TYy [P0, Pe] _ k x (k, 0, 0) (k, 0, 1) := TYy.of X (Nat.le_refl _) (Nat.le_refl _)
  have pU : preT U (k, 0, 1) := by rw [hU]; exact (show (1 : Nat) = 1 from rfl)
  have T2 : TYy ([P0, Pe].map (shP x)) _ k [U] (k, 0, 1) (k, 0, 0) := TYy.lp (D := shP x Pe) pU (Or.inr (by rw [hU]; exact le3.rf)) (List.mem_cons_of_mem _ List.mem_cons_self) (by show 4 + (ldL st : Int) + ldL b + ldL x - ldL x = _; omega) (by show 4 + (loL st : Int) + loL b + loL x - loL x = _; omega) (by rw [hU]; exact le3.rf) (Nat.le_refl _) (Nat.le_refl _)
  have T := T1.app (T2.app (W.gw (fun D hD => by
    have e := List.mem_singleton.mp hD
    rw [e]
    exact List.mem_cons.mpr (Or.inl (PLx (by
      show _ = (0 : Int) - ldL x - ldL [U]
      rw [ldL_app]; omega) (by
      show _ = (0 : Int) - loL x - loL [U]
      rw [loL_app]; omega))))))
  have R := hi.app (T.cl (fun D hD => by
    simp only [List.mem_cons, List.not_mem_nil, or_false] at hD
    rcases hD with rfl | rfl
    · exact List.mem_append.mpr (Or.inl List.mem_cons_self)
    · refine List.mem_append.mpr (Or.inr (List.mem_map.mpr ⟨_, List.mem_append.mpr (Or.inr (List.mem_map.mpr ⟨_, List.mem_cons_self, rfl⟩)), PLx ?_ ?_⟩))
      · show 3 + (ldL st : Int) + ldL b + ldL [U] + ldL x = _
        rw [lU.1]; omega
      · show 3 + (loL st : Int) + loL b + loL [U] + loL x = _
        rw [lU.2]; omega))
  rw [hU, hx] at R
  unfold gForL
  simp only [List.append_assoc] at R ⊢
  exact R
theorem tyDropE {o : Option (List EV)} (h : ∀ a, o = some a → TYe k a (k, 0, 0) (k, 0, 1)) : TYe k (dropE o) (k, 0, 0) (k, 0, 0) := by
  cases o with
  | none => exact TYe.nil (Nat.le_refl _)
  | some a => exact (h a rfl).app (tyDrop (Or.inr rfl) (Nat.le_refl _))
theorem tyOpt {m : Int} {o : Option (List EV) × Int32} (hE : XTe M E) (h : gOpt E m e kn 0 i = some o) (h1 : (kn.length : Int) ≤ M) : ∀ a, o.1 = some a → TYe kn.length a (kn.length, 0, 0) (kn.length, 0, 1) := by
  intro a ha
  unfold gOpt at h
  by_cases c : (e.1 i).toInt = m
  · rw [if_pos c] at h
    have := Option.some.inj h
    rw [← this] at ha
    cases ha
  · rw [if_neg c] at h
    obtain ⟨q, hq, h⟩ := Option.bind_eq_some_iff.mp h
    have := Option.some.inj h
    rw [← this] at ha
    have e1 : q.1 = a := Option.some.inj ha
    rw [← e1]
    exact tyE0 hE (st := true) hq h1
theorem tyStat (hM : M ≤ 900000) (hE : XTe M E) (hS : XTs M S) : XTs (M - 1502) (gStat E S) := by
  intro e kn i a kn' j h h1
  have h1' : (kn.length : Int) ≤ M := by omega
  have fin : ∀ {L : List EV} {r : Int32}, TYe kn.length L (kn.length, 0, 0) (kn.length, 0, 0) → some (L, kn, r) = some (a, kn', j) → kn.length ≤ kn'.length ∧ kn'.length ≤ kn.length + 1 ∧ TYe kn.length a (kn.length, 0, 0) (kn'.length, 0, 0) := by
    intro L r T h
    have e1 := Option.some.inj h
    have el : L = a := congrArg Prod.fst e1
    have ek : kn = kn' := congrArg (fun x => x.2.1) e1
    rw [← el, ← ek]
    exact ⟨Nat.le_refl _, by omega, T⟩
  unfold gStat at h
  by_cases c1 : (e.1 i).toInt = 10
  · rw [if_pos c1] at h
    exact tyLocal (by omega) hE h h1'
  rw [if_neg c1] at h
  by_cases c2 : (e.1 i).toInt = 11
  · rw [if_pos c2] at h
    exact tyIf hE hS h h1'
  rw [if_neg c2] at h
  by_cases c3 : (e.1 i).toInt = 13
  · rw [if_pos c3] at h
    unfold gWhile at h
    obtain ⟨c, hc, h⟩ := Option.bind_eq_some_iff.mp h
    obtain ⟨q, hq, h⟩ := Option.bind_eq_some_iff.mp h
    exact fin (tyWhile (tyCond hE hc h1') (tyInner hS hq h1').2) h
  rw [if_neg c3] at h
  by_cases c4 : (e.1 i).toInt = 14
  · rw [if_pos c4] at h
    unfold gDo at h
    obtain ⟨q, hq, h⟩ := Option.bind_eq_some_iff.mp h
    obtain ⟨j1, -, h⟩ := Option.bind_eq_some_iff.mp h
    obtain ⟨c, hc, h⟩ := Option.bind_eq_some_iff.mp h
    obtain ⟨j2, -, h⟩ := Option.bind_eq_some_iff.mp h
    exact fin (tyDo (tyInner hS hq h1').2 (tyCond hE hc h1')) h
  rw [if_neg c4] at h
  by_cases c5 : (e.1 i).toInt = 15
  · rw [if_pos c5] at h
    unfold gFor at h
    obtain ⟨j1, -, h⟩ := Option.bind_eq_some_iff.mp h
    obtain ⟨o1, ho1, h⟩ := Option.bind_eq_some_iff.mp h
    obtain ⟨j2, -, h⟩ := Option.bind_eq_some_iff.mp h
    obtain ⟨o2, ho2, h⟩ := Option.bind_eq_some_iff.mp h
    obtain ⟨j3, -, h⟩ := Option.bind_eq_some_iff.mp h
    obtain ⟨o3, ho3, h⟩ := Option.bind_eq_some_iff.mp h
    obtain ⟨j4, -, h⟩ := Option.bind_eq_some_iff.mp h
    obtain ⟨q, hq, h⟩ := Option.bind_eq_some_iff.mp h
    have A := tyDropE (tyOpt hE ho1 h1')
    have C := tyOpt hE ho2 h1'
    have B := tyDropE (tyOpt hE ho3 h1')
    have Q := (tyInner hS hq h1').2
    refine fin ?_ h
    obtain ⟨oc, jc⟩ := o2
    cases oc with
    | none => exact tyFor0 A B Q
    | some c => exact tyFor1 A (C c rfl) B Q
  rw [if_neg c5] at h
  by_cases c6 : (e.1 i).toInt = 16 ∨ (e.1 i).toInt = 17
  · rw [if_pos c6] at h
    exact tyLeave h
  rw [if_neg c6] at h
  by_cases c7 : (e.1 i).toInt = 18
  · rw [if_pos c7] at h
    exact tyRet hE h h1'
  rw [if_neg c7] at h
  by_cases c8 : (e.1 i).toInt = 19
  · rw [if_pos c8] at h
    exact tyPutS hE h h1'
  rw [if_neg c8] at h
  by_cases c9 : (e.1 i).toInt = 32
  · rw [if_pos c9] at h
    exact tyBlock hS h (by omega)
  rw [if_neg c9] at h
  by_cases c10 : (e.1 i).toInt = 36
  · rw [if_pos c10] at h
    exact fin (TYe.nil (Nat.le_refl _)) h
  · rw [if_neg c10] at h
    exact tyPlain hE h h1'
theorem XTs.lw {M' : Int} (h : XTs M S) (k : M' ≤ M) : XTs M' S := fun e kn i a kn' j x x1 => h e kn i a kn' j x (by omega)
theorem tySLev (hM : M ≤ 900000) (hE : XTe M E) : ∀ n : Nat, XTs (M - 1502 * (n + 1)) (geS E n)
  | 0 => by
    have := tyStat hM hE (S := fun _ _ _ _ => none) (fun _ _ _ _ _ _ h => by cases h)
    exact this.lw (by omega)
  | n + 1 => by
    have ih := tySLev hM hE n
    have := tyStat (M := M - 1502 * ((n : Int) + 1)) (by omega) (hE.lw (by omega)) ih
    exact this.lw (by omega)
/-- the statements of both readings have types -/
theorem EvSP_t : XTs 700000 EvSP := by
  have h := (tyLev 50).1
  exact (tySLev (M := 800000) (by omega) (h.lw (by omega)) 50).lw (by omega)
end XNT
