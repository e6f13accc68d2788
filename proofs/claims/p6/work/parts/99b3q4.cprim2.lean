/-! deeds, slots, names -/
theorem i32_mv {a b c d : Int32} : a + (b + d) + c = a + b + c + d := by
  rw [Int32.add_assoc a, Int32.add_assoc b, Int32.add_comm d c, ← Int32.add_assoc b, ← Int32.add_assoc a, ← Int32.add_assoc a]
theorem natS {a b : Int32} (h : b.toInt = a.toInt + 1) (h0 : 0 ≤ a.toInt) : b.toNatClampNeg = a.toNatClampNeg + 1 := by
  unfold Int32.toNatClampNeg
  omega
theorem natI {a : Int32} (h0 : 0 ≤ a.toInt) : (a.toNatClampNeg : Int) = a.toInt := by
  unfold Int32.toNatClampNeg
  omega
theorem dsum_cg {p : Int → Int32} {f f' g g' : Nat → Int32} : ∀ n : Nat, (∀ j, j < n → f j = f' j ∧ g j = g' j) → dsum p f g n = dsum p f' g' n
  | 0, _ => rfl
  | n + 1, h => by
    show dsum p f g n + dsy p (f n) (g n) = dsum p f' g' n + dsy p (f' n) (g' n)
    rw [dsum_cg n (fun j hj => h j (by omega)), (h n (by omega)).1, (h n (by omega)).2]
theorem dhas_cg {p : Int32 → Bool} {f f' g g' : Nat → Int32} : ∀ n : Nat, (∀ j, j < n → f j = f' j ∧ g j = g' j) → dhas p f g n = dhas p f' g' n
  | 0, _ => rfl
  | n + 1, h => by
    show (dhas p f g n || _) = (dhas p f' g' n || _)
    rw [dhas_cg n (fun j hj => h j (by omega)), (h n (by omega)).1, (h n (by omega)).2]
theorem updS {f : Nat → Int32} {n : Nat} {x : Int32} : upd f n x n = x := pk_us
theorem updN_ {f : Nat → Int32} {n j : Nat} {x : Int32} (h : j ≠ n) : upd f n x j = f j := pk_un h
theorem dsum_up {p : Int → Int32} {f g : Nat → Int32} {n : Nat} {a b : Int32} : dsum p (upd f n a) (upd g n b) (n + 1) = dsum p f g n + dsy p a b := by
  show dsum _ _ _ n + dsy _ _ _ = _
  rw [updS, updS, dsum_cg (f' := f) (g' := g) n (fun j hj => ⟨updN_ (by omega), updN_ (by omega)⟩)]
theorem dhas_up {p : Int32 → Bool} {f g : Nat → Int32} {n : Nat} {a b : Int32} : dhas p (upd f n a) (upd g n b) (n + 1) = (dhas p f g n || (decide (a = 20) && p b)) := by
  show (dhas p _ _ n || _) = _
  rw [updS, updS, dhas_cg (f' := f) (g' := g) n (fun j hj => ⟨updN_ (by omega), updN_ (by omega)⟩)]
/-- a deed's words and flags -/
def tAddy (z d x : Int32) (s : PS) : PS := sMu (em z s) (pMu s || (decide (d = 20) && isT x)) (pDi s || (decide (d = 20) && isD x))
def tAdd (d x : Int32) (s : PS) : PS := tAddy (dsz d x) d x s
theorem tAdd_em {d x k : Int32} {s : PS} (hd : d ≠ 20) (hk : dsz d x = k) : tAdd d x s = em k s := by
  unfold tAdd tAddy em
  rw [decide_eq_false hd, hk]
  simp only [Bool.false_and, Bool.or_false]
  split <;> rfl
theorem pAt_em (k : Int32) (s : PS) : pAt (em k s) = pAt s := by unfold em; split <;> rfl
theorem pAt_tAdd (d x : Int32) (s : PS) : pAt (tAdd d x s) = pAt s := pAt_em (dsz d x) s
theorem pOp_em (k : Int32) (s : PS) : pOp (em k s) = pOp s := by unfold em; split <;> rfl
theorem pOp_tAdd (d x : Int32) (s : PS) : pOp (tAdd d x s) = pOp s := pOp_em (dsz d x) s
theorem pDu_em (k : Int32) (s : PS) : pDu (em k s) = pDu s := by unfold em; split <;> rfl
theorem pDu_tAdd (d x : Int32) (s : PS) : pDu (tAdd d x s) = pDu s := pDu_em (dsz d x) s
theorem pBl_em (k : Int32) (s : PS) : pBl (em k s) = pBl s := by unfold em; split <;> rfl
theorem pBl_tAdd (d x : Int32) (s : PS) : pBl (tAdd d x s) = pBl s := pBl_em (dsz d x) s
theorem pPb_em (k : Int32) (s : PS) : pPb (em k s) = pPb s := by unfold em; split <;> rfl
theorem pPb_tAdd (d x : Int32) (s : PS) : pPb (tAdd d x s) = pPb s := pPb_em (dsz d x) s
theorem pMo_em (k : Int32) (s : PS) : pMo (em k s) = pMo s := by unfold em; split <;> rfl
theorem pMo_tAdd (d x : Int32) (s : PS) : pMo (tAdd d x s) = pMo s := pMo_em (dsz d x) s
theorem pLo_em (k : Int32) (s : PS) : pLo (em k s) = pLo s := by unfold em; split <;> rfl
theorem pLo_tAdd (d x : Int32) (s : PS) : pLo (tAdd d x s) = pLo s := pLo_em (dsz d x) s
theorem pOv_em (k : Int32) (s : PS) : pOv (em k s) = pOv s := by unfold em; split <;> rfl
theorem pOv_tAdd (d x : Int32) (s : PS) : pOv (tAdd d x s) = pOv s := pOv_em (dsz d x) s
theorem pKc_em (k : Int32) (s : PS) : pKc (em k s) = pKc s := by unfold em; split <;> rfl
theorem pKc_tAdd (d x : Int32) (s : PS) : pKc (tAdd d x s) = pKc s := pKc_em (dsz d x) s
theorem pKn_em (k : Int32) (s : PS) : pKn (em k s) = pKn s := by unfold em; split <;> rfl
theorem pKn_tAdd (d x : Int32) (s : PS) : pKn (tAdd d x s) = pKn s := pKn_em (dsz d x) s
theorem pCa_em (k : Int32) (s : PS) : pCa (em k s) = pCa s := by unfold em; split <;> rfl
theorem pCa_tAdd (d x : Int32) (s : PS) : pCa (tAdd d x s) = pCa s := pCa_em (dsz d x) s
theorem pWd_em (k : Int32) (s : PS) : pWd (em k s) = if pOv s = true then pWd s else pWd s + k := by unfold em; split <;> rfl
theorem pWd_tAdd (d x : Int32) (s : PS) : pWd (tAdd d x s) = if pOv s = true then pWd s else pWd s + dsz d x := pWd_em (dsz d x) s
theorem pMu_em (k : Int32) (s : PS) : pMu (em k s) = pMu s := by unfold em; split <;> rfl
theorem pDi_em (k : Int32) (s : PS) : pDi (em k s) = pDi s := by unfold em; split <;> rfl
theorem aC_eq {G : GH} {u : MS} {s : PS} (h1 : u.1 0 305 = pAt s) (h2 : u.1 0 306 = pOp s) (h3 : decide (u.1 0 307 = u.1 0 305) = pDu s) (h4 : u.1 0 313 = pBl s) (h5 : u.1 0 314 = pPb s) (h6 : (if u.1 0 307 = u.1 0 305 then 0 else u.1 0 315) = pMo s) (h7 : (G.1 || dhas isT (u.1 378) (u.1 379) (nD u)) = pMu s) (h8 : (G.2.1 || dhas isD (u.1 378) (u.1 379) (nD u)) = pDi s) (h9 : G.2.2.1 = pLo s) (h10 : ovC u = pOv s) (h11 : wdC G u = pWd s) (h12 : u.1 0 312 = pKc s) (h13 : lst (u.1 311) (u.1 0 312) = pKn s) (h14 : caC G u = pCa s) : aC G u = s := by
  unfold aC
  rw [h1, h2, h4, h5, h7, h8, h9, h10, h11, h14]
  rw [h1] at h3 h6
  rw [h3, h6, h13, h12]
  rfl
section CPS
variable {G : GH} {L1 L2 : List Nat} {e : PE} {v u : MS} {t : Bool} {r pa pb pc1 : Int32}
theorem cAddy (h : Q_x_X1_add L1 L2 v pa pb pc1 u) (k : K_x_X1_add v pa pb pc1 u) (J : JC L2 e v) : aC G u = tAddy (dsy G.2.2.2.1.2 pa pb) pa pb (aC G v) ∧ JC L2 e u ∧ KP v u := by
  have hJ : (u.1 0 307).toInt ≤ (u.1 0 305).toInt := by
    rw [k.1.2.1 307 (by decide), k.1.2.1 305 (by decide)]
    exact J.2.1
  refine ⟨?_, J.fr k.1 k.2.2.2 (by decide) (by decide) hJ, KP.fr k.1 (by decide) (by decide)⟩
  have q : nD u = nD v + 1 := natS k.2.2.1 h.1.1
  have e1 : dsum G.2.2.2.1.2 (u.1 378) (u.1 379) (nD v + 1) = dsum G.2.2.2.1.2 (v.1 378) (v.1 379) (nD v) + dsy G.2.2.2.1.2 pa pb := by
    obtain ⟨-, -, -, -, rfl⟩ := h
    exact dsum_up
  have e2 : ∀ p : Int32 → Bool, dhas p (u.1 378) (u.1 379) (nD v + 1) = (dhas p (v.1 378) (v.1 379) (nD v) || (decide (pa = 20) && p pb)) := by
    obtain ⟨-, -, -, -, rfl⟩ := h
    exact fun p => dhas_up
  have f := fun i hi => k.1.2.1 i hi
  have a := fun i hi => k.1.2.2 i hi
  have ov : ovC u = ovC v := by unfold ovC; rw [f 321 (by decide)]
  have nc : nC u = nC v := by unfold nC; rw [f 321 (by decide)]
  refine aC_eq ?_ ?_ ?_ ?_ ?_ ?_ ?_ ?_ ?_ ?_ ?_ ?_ ?_ ?_
  · rw [f 305 (by decide)]; exact (pAt_em _ (aC G v)).symm
  · rw [f 306 (by decide)]; exact (pOp_em _ (aC G v)).symm
  · rw [f 305 (by decide), f 307 (by decide)]; exact (pDu_em _ (aC G v)).symm
  · rw [f 313 (by decide)]; exact (pBl_em _ (aC G v)).symm
  · rw [f 314 (by decide)]; exact (pPb_em _ (aC G v)).symm
  · rw [f 305 (by decide), f 307 (by decide), f 315 (by decide)]; exact (pMo_em _ (aC G v)).symm
  · rw [q, e2, ← Bool.or_assoc]; rfl
  · rw [q, e2, ← Bool.or_assoc]; rfl
  · exact (pLo_em _ (aC G v)).symm
  · rw [ov]; exact (pOv_em _ (aC G v)).symm
  · refine Eq.trans ?_ (pWd_em _ (aC G v)).symm
    show wdC G u = if ovC v = true then wdC G v else wdC G v + dsy G.2.2.2.1.2 pa pb
    unfold wdC
    rw [ov, q, e1, nc, a 320 (by decide)]
    by_cases ho : ovC v = true
    · simp only [if_pos ho]
    · simp only [if_neg ho]
      rw [i32_mv]
  · rw [f 312 (by decide)]; exact (pKc_em _ (aC G v)).symm
  · rw [f 312 (by decide), a 311 (by decide)]; exact (pKn_em _ (aC G v)).symm
  · refine Eq.trans ?_ (pCa_em _ (aC G v)).symm
    show caC G u = caC G v
    unfold caC
    rw [ov, nc, a 318 (by decide), a 319 (by decide), a 320 (by decide)]
theorem dvd_t {d x : Int32} (h : 1 ≤ d.toInt ∧ d.toInt ≤ 24) (k : d ≠ 20 ∨ (53 ≤ x.toInt ∧ x.toInt ≤ 68)) : dvd d x = true := by
  unfold dvd
  rw [decide_eq_true h.1, decide_eq_true h.2]
  rcases k with k | k
  · rw [decide_eq_true k]
    rfl
  · rw [decide_eq_true k.1, decide_eq_true k.2, Bool.and_true, Bool.or_true]
    rfl
theorem cAdd (h : Q_x_X1_add L1 L2 v pa pb pc1 u) (k : K_x_X1_add v pa pb pc1 u) (J : JC L2 e v) (h21 : pa ≠ 21 ∧ pa ≠ 0 ∧ 1 ≤ pa.toInt ∧ pa.toInt ≤ 24 := by decide) (h20 : pa ≠ 20 ∨ (53 ≤ pb.toInt ∧ pb.toInt ≤ 68) := by exact Or.inl (by decide)) : aC G u = tAdd pa pb (aC G v) ∧ JC L2 e u ∧ KP v u := by
  have a := cAddy (G := G) h k J
  have z : dsy G.2.2.2.1.2 pa pb = dsz pa pb := (if_neg h21.1).trans ((if_neg h21.2.1).trans (if_pos (dvd_t h21.2.2 h20)))
  rw [z] at a
  exact a
theorem cLab (h : Q_x_X1_newLabel L1 L2 v r u) (k : K_x_X1_newLabel v r u) (J : JC L2 e v) : aC G u = aC G v ∧ JC L2 e u ∧ KP v u := by
  obtain ⟨-, -, rfl, rfl⟩ := h
  exact ⟨rfl, J.fr k.1 k.2.2 (by decide) (by decide) J.2.1, KP.fr k.1 (by decide) (by decide)⟩
theorem cSet (h : Q_x_X1_setLabel L1 L2 v pa u) (k : K_x_X1_setLabel v pa u) (J : JC L2 e v) : aC G u = aC G v ∧ JC L2 e u ∧ KP v u := by
  obtain ⟨-, h⟩ := h
  rcases h with ⟨-, rfl⟩ | ⟨-, ⟨-, rfl⟩ | ⟨-, rfl⟩⟩
  · exact ⟨rfl, J, KP.rf⟩
  · exact ⟨rfl, J, KP.rf⟩
  · exact ⟨rfl, J.fr k.1 k.2 (by decide) (by decide) J.2.1, KP.fr k.1 (by decide) (by decide)⟩
theorem cNext (h : Q_x_X1_nextSlot L1 L2 v r) : r = pKc (aC G v) + pPb (aC G v) := h.2
theorem cWant (h : Q_x_X1_wantSlots L1 L2 v pa r u) (k : K_x_X1_wantSlots v pa r u) (J : JC L2 e v) : aC G u = sMm (aC G v) (mx (pMo (aC G v)) (pKc (aC G v) + pPb (aC G v) + pa)) ∧ (r.toInt ≠ 0 ↔ (pKc (aC G v) + pPb (aC G v) + pa).toInt ≤ 500) ∧ JC L2 e u ∧ KP v u ∧ u.1 0 305 = v.1 0 305 ∧ u.1 0 307 = v.1 0 307 := by
  have f := fun i hi => k.1.2.1 i hi
  have hJ : (u.1 0 307).toInt ≤ (u.1 0 305).toInt := by
    rw [f 307 (by decide), f 305 (by decide)]
    exact J.2.1
  obtain ⟨z, g1, hg, h⟩ := h
  have hu : u = wA v 0 315 g1 := by
    rcases h with ⟨-, -, h⟩ | ⟨-, -, h⟩ <;> exact h
  have hr : r.toInt ≠ 0 ↔ (v.1 0 312 + v.1 0 314 + pa).toInt ≤ 500 := by
    rcases h with ⟨a, rfl, -⟩ | ⟨a, rfl, -⟩
    · exact ⟨fun q => absurd rfl q, fun q => by omega⟩
    · exact ⟨fun _ => a, fun _ => by decide⟩
  refine ⟨?_, hr, J.fr k.1 k.2 (by decide) (by decide) hJ, KP.fr k.1 (by decide) (by decide), f 305 (by decide), f 307 (by decide)⟩
  rw [hu]
  unfold sMm
  by_cases d : v.1 0 307 = v.1 0 305
  · have d1 : pDu (aC G v) = true := decide_eq_true d
    rw [if_pos d1]
    show mkP _ _ _ _ _ (if v.1 0 307 = v.1 0 305 then 0 else g1) _ _ _ _ _ _ _ _ = mkP _ _ _ _ _ (if v.1 0 307 = v.1 0 305 then 0 else v.1 0 315) _ _ _ _ _ _ _ _
    rw [if_pos d, if_pos d]
    rfl
  · have d1 : ¬ pDu (aC G v) = true := fun q => d (of_decide_eq_true q)
    rw [if_neg d1]
    show mkP _ _ _ _ _ (if v.1 0 307 = v.1 0 305 then 0 else g1) _ _ _ _ _ _ _ _ = mkP _ _ _ _ _ (mx (if v.1 0 307 = v.1 0 305 then 0 else v.1 0 315) (v.1 0 312 + v.1 0 314 + pa)) _ _ _ _ _ _ _ _
    rw [if_neg d, if_neg d, hg]
    rfl
theorem fnd_snoc {l : List Int32} {y x : Int32} : fnd (l ++ [y]) x = if y = x then (l.length : Int) else fnd l x := by
  unfold fnd
  rw [List.reverse_append]
  show fndr x (y :: l.reverse) = _
  unfold fndr
  rw [List.length_reverse]
  cases l.reverse <;> rfl
theorem lst_len {f : Nat → Int32} {n : Nat} : ((List.range n).map f).length = n := by rw [List.length_map, List.length_range]
theorem lst_snoc {f : Nat → Int32} {n : Nat} : (List.range (n + 1)).map f = (List.range n).map f ++ [f n] := by rw [List.range_succ, List.map_append]; rfl
theorem fnd_l {f : Nat → Int32} {x : Int32} {k : Int} : ∀ n : Nat, k < n → (∀ j : Nat, k < j → j < n → f j ≠ x) → (k < 0 → fnd ((List.range n).map f) x = -1) ∧ (∀ i : Nat, k = i → f i = x → fnd ((List.range n).map f) x = k)
  | 0, h, _ => ⟨fun _ => rfl, fun i hi _ => by omega⟩
  | n + 1, h, hn => by
    rw [lst_snoc, fnd_snoc, lst_len]
    by_cases q : k = n
    · refine ⟨fun _ => by omega, fun i hi hx => ?_⟩
      have : i = n := by omega
      rw [← this, if_pos hx]
      exact hi.symm
    · have ih := fnd_l n (by omega) (fun j a b => hn j a (by omega))
      rw [if_neg (hn n (by omega) (by omega))]
      exact ih
theorem cSlot (h : Q_x_X1_slotNamed L1 L2 v pa r) : r.toInt = fnd (pKn (aC G v)) pa := by
  obtain ⟨z, g1, hg, ka, hr, -, h⟩ := h
  have g2 : g1 = v.1 0 312 := by
    rw [hg, if_neg]
    intro q
    have := Int32.lt_iff_toInt_lt.mp q
    have e5 : (500 : Int32).toInt = 500 := by decide
    omega
  have gi : (g1 - 1).toInt = (v.1 0 312).toInt - 1 := by rw [g2]; exact sub_z rfl (by decide) (by omega) (by omega)
  have n0 : (((v.1 0 312).toNatClampNeg : Nat) : Int) = (v.1 0 312).toInt := natI z.1
  have inv : -1 ≤ ka.toInt ∧ ka.toInt < (v.1 0 312).toInt ∧ ∀ j : Nat, ka.toInt < j → (j : Int) < (v.1 0 312).toInt → v.1 311 j ≠ pa := by
    refine RT.ind (fun (y : Int32) => -1 ≤ y.toInt ∧ y.toInt < (v.1 0 312).toInt ∧ ∀ j : Nat, y.toInt < j → (j : Int) < (v.1 0 312).toInt → v.1 311 j ≠ pa) hr ⟨by omega, by omega, fun j a b => by omega⟩ ?_
    intro x y _ hx hy
    obtain ⟨-, a, b, rfl⟩ := hy
    have e1 : (x + (-1 : Int32)).toInt = x.toInt + (-1) := add_z rfl (by decide) (by omega) (by omega)
    refine ⟨by omega, by omega, fun j c d => ?_⟩
    by_cases q : (j : Int) = x.toInt
    · have : x.toNatClampNeg = j := by have := natI (a := x) a; omega
      rw [this] at b
      exact fun w => b (congrArg Int32.toInt w)
    · exact hx.2.2 j (by omega) d
  have F := fnd_l (f := v.1 311) (x := pa) (k := ka.toInt) (v.1 0 312).toNatClampNeg (by omega) (fun j a b => inv.2.2 j a (by omega))
  show r.toInt = fnd ((List.range (v.1 0 312).toNatClampNeg).map (v.1 311)) pa
  rcases h with ⟨a, rfl⟩ | ⟨a, b, hk⟩
  · rw [F.1 a]
    decide
  · rw [hk]
    exact (F.2 ka.toNatClampNeg (natI a).symm (Int32.toInt_inj.mp b)).symm
end CPS
