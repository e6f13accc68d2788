/-! the class: an item of a function -/
def PF (L1 : List Nat) (p : Int → Int32) (v : MS) : Prop := ∀ f : Nat, f < nF v → p (1099511627776 + (f : Int)) = 2 * rF L1 v f 0
def pv (L1 : List Nat) (v : MS) : Int → Int32 := fun i => 2 * rF L1 v (i - 1099511627776).toNat 0
theorem PF_pv {L1 : List Nat} {v : MS} : PF L1 (pv L1 v) v := fun f _ => by
  show 2 * rF L1 v ((1099511627776 + (f : Int)) - 1099511627776).toNat 0 = _
  rw [show ((1099511627776 + (f : Int)) - 1099511627776).toNat = f by omega]
/-! how many ENTER deeds of a function there are -/
def bmp (p : Int → Int32) (i0 : Int) : Int → Int32 := fun i => if i = i0 then p i + 1 else p i
def ecn (f g : Nat → Int32) (x : Int32) : Nat → Nat
  | 0 => 0
  | n + 1 => ecn f g x n + (if f n = 0 ∧ g n = x then 1 else 0)
theorem ecn_le {f g : Nat → Int32} {x : Int32} : ∀ n : Nat, ecn f g x n ≤ n
  | 0 => Nat.le_refl _
  | n + 1 => by
    have := ecn_le (f := f) (g := g) (x := x) n
    show ecn f g x n + (if f n = 0 ∧ g n = x then 1 else 0) ≤ n + 1
    split <;> omega
theorem ecn_mono {f g : Nat → Int32} {x : Int32} {m : Nat} : ∀ n : Nat, m ≤ n → ecn f g x m ≤ ecn f g x n ∧ ∀ k, m ≤ k → k < n → f k = 0 → g k = x → ecn f g x m < ecn f g x n
  | 0, h => ⟨by rw [show m = 0 by omega]; exact Nat.le_refl _, fun k a b => by omega⟩
  | n + 1, h => by
    by_cases e : m = n + 1
    · rw [e]
      exact ⟨Nat.le_refl _, fun k a b => by omega⟩
    · have I := ecn_mono (f := f) (g := g) (x := x) (m := m) n (by omega)
      have st : ecn f g x (n + 1) = ecn f g x n + (if f n = 0 ∧ g n = x then 1 else 0) := rfl
      refine ⟨by rw [st]; have := I.1; omega, fun k a b c d => ?_⟩
      rw [st]
      by_cases q : k = n
      · rw [q] at c d
        rw [if_pos ⟨c, d⟩]
        have := I.1
        omega
      · have := I.2 k a (by omega) c d
        omega
theorem ecn_cg {f g f' g' : Nat → Int32} {x : Int32} : ∀ n : Nat, (∀ j, j < n → f j = f' j ∧ g j = g' j) → ecn f g x n = ecn f' g' x n
  | 0, _ => rfl
  | n + 1, h => by
    show ecn f g x n + _ = ecn f' g' x n + _
    rw [ecn_cg n (fun j hj => h j (by omega)), (h n (by omega)).1, (h n (by omega)).2]
theorem dsum_bmp {p : Int → Int32} {f g : Nat → Int32} {x : Int32} : ∀ n : Nat, dsum (bmp p (1099511627776 + x.toInt)) f g n = dsum p f g n + Int32.ofNat (ecn f g x n)
  | 0 => rfl
  | n + 1 => by
    have l1 := Int32.toInt_lt x
    have l2 := Int32.le_toInt x
    have m1 := Int32.toInt_lt (g n)
    have m2 := Int32.le_toInt (g n)
    have e : dsy (bmp p (1099511627776 + x.toInt)) (f n) (g n) = dsy p (f n) (g n) + Int32.ofNat (if f n = 0 ∧ g n = x then 1 else 0) := by
      unfold dsy bmp
      by_cases a : f n = 21
      · rw [if_pos a, if_pos a, if_neg (by omega), if_neg (fun q => by rw [a] at q; exact absurd q.1 (by decide))]
        exact (Int32.add_zero _).symm
      · rw [if_neg a, if_neg a]
        by_cases b : f n = 0
        · rw [if_pos b, if_pos b]
          by_cases c : g n = x
          · rw [if_pos (by rw [c]), if_pos ⟨b, c⟩, Int32.add_assoc]
            rfl
          · rw [if_neg (fun q => c (Int32.toInt_inj.mp (by omega))), if_neg (fun q => c q.2)]
            exact (Int32.add_zero _).symm
        · have z : (if f n = 0 ∧ g n = x then (1 : Nat) else 0) = 0 := if_neg (fun q => b q.1)
          have e41 : (if (2199023255552 : Int) = 1099511627776 + x.toInt then p 2199023255552 + 1 else p 2199023255552) = p 2199023255552 := if_neg (by omega)
          rw [if_neg b, if_neg b, z, e41]
          exact (Int32.add_zero _).symm
    show dsum _ f g n + dsy _ (f n) (g n) = dsum p f g n + dsy p (f n) (g n) + Int32.ofNat (ecn f g x n + _)
    rw [dsum_bmp n, e, Int32.ofNat_add]
    ac_rfl
theorem csum_bmp {p : Int → Int32} {O : List Nat} {f : Nat → Int32} {x : Int32} : ∀ n : Nat, n ≤ 1000 → csum (bmp p (1099511627776 + x.toInt)) O f n = csum p O f n
  | 0, _ => rfl
  | n + 1, h => by
    have l2 := Int32.le_toInt x
    show csum _ O f n + (if n ∈ O then 0 else (if f n = 0 then 0 else 1) - bmp p (1099511627776 + x.toInt) (n : Int)) = csum p O f n + (if n ∈ O then 0 else (if f n = 0 then 0 else 1) - p (n : Int))
    have e : bmp p (1099511627776 + x.toInt) (n : Int) = p (n : Int) := if_neg (by omega)
    rw [csum_bmp n (by omega), e]
/-- two weights tell that no ENTER deed has come -/
theorem noEnter {f : PS → PX PS} {Z u : MS} (hb : ∀ G : GH, G.2.2.1 = false → G.2.2.2.2 = [] → f (aC G Z) = .ok (aC G u)) (dp : DP Z u) (z81 : 0 ≤ (Z.1 0 381).toInt ∧ (u.1 0 381).toInt ≤ 3008) (ov : ovC u = false) (ovz : ovC Z = false) (zc : 0 ≤ (Z.1 0 321).toInt ∧ 0 ≤ (u.1 0 321).toInt) : ∀ k : Nat, nD Z ≤ k → k < nD u → u.1 378 k ≠ 0 := by
  intro k hk hu h0
  have nz := natI z81.1
  have u0 : 0 ≤ (u.1 0 381).toInt := Int.le_trans z81.1 dp.1
  have nu := natI u0
  have lt : nC Z ≤ 1000 := by have := of_decide_eq_false ovz; have := natI zc.1; unfold nC; omega
  have lt2 : nC u ≤ 1000 := by have := of_decide_eq_false ov; have := natI zc.2; unfold nC; omega
  have e0 : aC (false, false, false, (2 - Int32.ofNat (ecn (Z.1 378) (Z.1 379) (u.1 379 k) (nD Z)), bmp (fun _ => 0) (1099511627776 + (u.1 379 k).toInt)), []) Z = aC (false, false, false, (2, fun _ => 0), []) Z := by
    refine aC_eq rfl rfl rfl rfl rfl rfl rfl rfl rfl rfl ?_ rfl rfl rfl
    show wdC _ Z = wdC _ Z
    unfold wdC
    rw [ovz, if_neg Bool.false_ne_true, if_neg Bool.false_ne_true]
    show 2 - Int32.ofNat _ + dsum (bmp _ _) _ _ _ + csum (bmp _ _) _ _ _ = 2 + dsum _ _ _ _ + csum _ _ _ _
    rw [dsum_bmp, csum_bmp _ lt, Int32.sub_eq_add_neg]
    have : ∀ a b c : Int32, 2 + -a + (b + a) + c = 2 + b + c := fun a b c => by
      have q : 2 + -a + (b + a) + c = 2 + b + c + (-a + a) := by ac_rfl
      rw [q, Int32.add_left_neg, Int32.add_zero]
    exact this _ _ _
  have a1 := hb (false, false, false, (2, fun _ => 0), []) rfl rfl
  have a2 := hb (false, false, false, (2 - Int32.ofNat (ecn (Z.1 378) (Z.1 379) (u.1 379 k) (nD Z)), bmp (fun _ => 0) (1099511627776 + (u.1 379 k).toInt)), []) rfl rfl
  rw [e0, a1] at a2
  have a3 := congrArg pWd (Except.ok.inj a2)
  have a3 : wdC (false, false, false, (2, fun _ => 0), []) u = wdC (false, false, false, (2 - Int32.ofNat (ecn (Z.1 378) (Z.1 379) (u.1 379 k) (nD Z)), bmp (fun _ => 0) (1099511627776 + (u.1 379 k).toInt)), []) u := a3
  unfold wdC at a3
  rw [ov, if_neg Bool.false_ne_true, if_neg Bool.false_ne_true] at a3
  have a3 : 2 + dsum (fun _ => 0) (u.1 378) (u.1 379) (nD u) + csum (fun _ => 0) [] (u.1 320) (nC u) = 2 - Int32.ofNat (ecn (Z.1 378) (Z.1 379) (u.1 379 k) (nD Z)) + dsum (bmp (fun _ => 0) (1099511627776 + (u.1 379 k).toInt)) (u.1 378) (u.1 379) (nD u) + csum (bmp (fun _ => 0) (1099511627776 + (u.1 379 k).toInt)) [] (u.1 320) (nC u) := a3
  rw [dsum_bmp, csum_bmp _ lt2, Int32.sub_eq_add_neg] at a3
  have a4 : ∀ a b c d : Int32, 2 + b + c = 2 + -a + (b + d) + c → a = d := fun a b c d h => by
    have q : 2 + -a + (b + d) + c = 2 + b + c + (-a + d) := by ac_rfl
    rw [q] at h
    have h2 : 2 + b + c + 0 = 2 + b + c + (-a + d) := by rw [Int32.add_zero]; exact h
    have h3 : (0 : Int32) = -a + d := (Int32.add_right_inj (2 + b + c)).mp h2
    have : a + 0 = a + (-a + d) := by rw [← h3]
    rw [Int32.add_zero, ← Int32.add_assoc, Int32.add_right_neg, Int32.zero_add] at this
    exact this
  have a5 := a4 _ _ _ _ a3
  have cg : ecn (Z.1 378) (Z.1 379) (u.1 379 k) (nD Z) = ecn (u.1 378) (u.1 379) (u.1 379 k) (nD Z) := ecn_cg _ (fun j hj => by
    have dj := dp.2 j (by unfold nD at hj; omega)
    exact ⟨dj.1.symm, dj.2.symm⟩)
  rw [cg] at a5
  have M := (ecn_mono (f := u.1 378) (g := u.1 379) (x := u.1 379 k) (m := nD Z) (nD u) (by omega)).2 k hk hu h0 rfl
  have b1 := ecn_le (f := u.1 378) (g := u.1 379) (x := u.1 379 k) (nD u)
  have nu3 : nD u ≤ 3008 := by unfold nD; omega
  have i1 := congrArg Int32.toInt a5
  rw [Int32.toInt_ofNat_of_lt (by omega), Int32.toInt_ofNat_of_lt (by omega)] at i1
  omega
section CFI
variable {L1 L2 : List Nat} {e : PE} {v u : MS} {t : Bool} {r pa pb pc1 : Int32} {n : Nat} {E : FE} {S : FS} {c : RS1}
theorem du_exp {m : Int} {s s' : PS} (h : tExp m e s = .ok s') : pDu s' = false := by
  unfold tExp tNeed at h
  by_cases w : (kd e s).toInt = m
  · rw [if_pos w, bd_ok] at h
    unfold tTake at h
    by_cases w2 : (1500 : Int) ≤ (pAt s).toInt ∨ pDu s = true
    · rw [if_pos w2] at h
      cases h
    · rw [if_neg w2] at h
      injection h with h
      rw [← h]
      rfl
  · rw [if_neg w] at h
    cases h
theorem sLo_id {s : PS} (h : pLo s = false) : sLo s false = s := by
  unfold sLo
  rw [← h]
  rfl
theorem aC_beg {G : GH} {w : MS} : aC G (wA (wA (wA (wA w 0 312 0) 0 313 0) 0 314 0) 0 315 0) = tBegF (aC G w) := by
  refine aC_eq rfl rfl rfl rfl rfl ?_ rfl rfl rfl rfl rfl rfl rfl rfl
  show (if w.1 0 307 = w.1 0 305 then 0 else 0) = (0 : Int32)
  split <;> rfl
set_option maxHeartbeats 1600000 in
theorem sFunI {W : Nat → Int32} {K : TK} {x : IS} (rd : RD L1 L2) (hS : HS L2 (QS L1 L2 (n - 1)) S) (h : Q_x_X5_functionItem L1 L2 n v t u) (kI : t = false → K_x_X5_functionItem v u) (I : ∀ p, SIq (Gp p) L2 (mkE K x.2.2) v) (hx : ∀ p, PF L1 p v → tBegF (aC (Gp p) v) = x.1) (hf : x.2.1 = fsC L1 W v) (hk : kC v = K) (J3 : 0 ≤ (v.1 0 375).toInt ∧ (v.1 0 375).toInt ≤ 40) :
    (t = false ∧ (∀ p, PF L1 p u → tFItem S K x = .ok (tBegF (aC (Gp p) u), x.2.1 ++ [(rF L1 u (nF v) 4, rF L1 u (nF v) 3, rF L1 u (nF v) 0, rF L1 u (nF v) 2, pWd x.1)], x.2.2)) ∧ (∀ p, SIq (Gp p) L2 (mkE K x.2.2) u) ∧ kC u = K ∧ nF v < 40 ∧ u.1 0 375 = v.1 0 375 + 1 ∧ u.1 0 377 = v.1 0 377 ∧ RWq (rowA L1 (nF v)) v u ∧ KP v u ∧ DP v u ∧ rF L1 u (nF v) 5 = v.1 0 381 ∧ (v.1 0 381).toInt < (u.1 0 381).toInt ∧ u.1 378 (nD v) = 0 ∧ u.1 379 (nD v) = v.1 0 375 ∧ (v.1 0 305).toInt + 5 ≤ (u.1 0 305).toInt ∧ (ovC u = false → ∀ k : Nat, nD v < k → k < nD u → u.1 378 k ≠ 0)) ∨ (t = true ∧ tFItem S K x = .error (u.1 0 308, u.1 0 309)) := by
  have n5 : (nF v : Int) = (v.1 0 375).toInt := natI J3.1
  have lf : x.2.1.length = nF v := by rw [hf]; unfold fsC; rw [List.length_map, List.length_range]
  have ev : ∀ p, PF L1 p v → vl (mkE K x.2.2) x.1 = vl (mkE K x.2.2) (aC (Gp p) v) := fun p hp => by rw [← hx p hp]; rfl
  have ep : ∀ p, PF L1 p v → pl (mkE K x.2.2) x.1 = pl (mkE K x.2.2) (aC (Gp p) v) := fun p hp => by rw [← hx p hp]; rfl
  obtain ⟨z1, z2, z3, z4, z5, z6, z7, z8, z9, h⟩ := h
  rcases h with ⟨l40, r5, h1, u7, h2, k2, r15, h3, u17, h4, k4, u20, h5, k5, h⟩ | ⟨l40, r200, h1, u9, h2, rfl, rfl⟩
  · have e75 : (v.1 0 375 + 1).toInt = (v.1 0 375).toInt + 1 := add_z rfl (by decide) (by omega) (by omega)
    have kn : ∀ w : MS, w.1 0 377 = v.1 0 377 → ∀ g : Nat, g < nG w → rowA L2 g ≠ rowA L1 (nF v) := fun w hw g hg => by
      have h7 := (I (pv L1 v)).1.2.2
      have : nG w = nG v := by unfold nG; rw [hw]
      have n7 : (nG v : Int) = (v.1 0 377).toInt := natI h7.1
      exact fun q => rd.1 (nF v) g (by omega) (by omega) q.symm
    have ch : ∀ {w y : MS} {i z : Int32}, w.1 0 377 = v.1 0 377 → 0 ≤ i.toInt ∧ i.toInt < 6 → Q_x_X7_changeFunction L1 L2 w (v.1 0 375) i z y → (∀ G, aC G y = aC G w) ∧ (∀ G e, SIq G L2 e w → SIq G L2 e y) ∧ KS w y ∧ RWq (rowA L1 (nF v)) w y ∧ (∀ j, rF L1 y (nF v) j = if j = i.toNatClampNeg then z else rF L1 w (nF v) j) ∧ y.1 0 = w.1 0 ∧ DP w y ∧ (∀ b, b < 5000 → y.1 b = w.1 b) := by
      intro w y i z e7 hi hq
      have hy := cCF hq ⟨J3.1, l40⟩ hi
      subst hy
      exact ⟨fun G => aC_row, fun G e Iw => Iw.row (kn w e7), KS.row, RWq.w, fun j => wA_eq, wA_lo (by decide), DP.of (congrFun (wA_lo (by decide)) 381) (wA_lo (by decide)) (wA_lo (by decide)), fun b hb => wA_lo hb⟩
    have w1 : RS v (wA v 0 375 (v.1 0 375 + 1)) := RS.w0 RS.rf (by decide)
    have b2 := ch (w := wA v 0 375 (v.1 0 375 + 1)) rfl (by decide) h2
    have b4 := ch (w := u7) (congrFun b2.2.2.2.2.2.1 377) (by decide) h4
    have I1 : ∀ p, SIq (Gp p) L2 (mkE K x.2.2) (wA v 0 375 (v.1 0 375 + 1)) := fun p => ⟨(I p).1.w (by decide), (I p).2⟩
    have I4 : ∀ p, SIq (Gp p) L2 (mkE K x.2.2) u17 := fun p => b4.2.1 _ _ (b2.2.1 _ _ (I1 p))
    have a4 : ∀ p, aC (Gp p) u17 = aC (Gp p) v := fun p => (b4.1 _).trans ((b2.1 _).trans rfl)
    have f5 : ∀ p, r5 = vl (mkE K x.2.2) (aC (Gp p) v) := fun p => (sValue (G := Gp p) h1 (I1 p)).trans rfl
    have f15 : ∀ p, r15 = pl (mkE K x.2.2) (aC (Gp p) v) := fun p => (sPlace (G := Gp p) h3 (b2.2.1 _ _ (I1 p))).trans (by rw [b2.1]; rfl)
    have hu20 : u20 = wA (wA (wA (wA u17 0 312 0) 0 313 0) 0 314 0) 0 315 0 := h5
    have a5 : ∀ p, PF L1 p v → aC (Gp p) u20 = x.1 := fun p hp => by rw [hu20, aC_beg, a4, hx p hp]
    have x0 : tBegF x.1 = x.1 := by
      rw [← hx _ PF_pv]
      rfl
    have I5 : ∀ p, SIq (Gp p) L2 (mkE K x.2.2) u20 := fun p => by
      rw [hu20]
      exact ⟨((((I4 p).1.w (by decide)).w (by decide)).w (by decide)).w (by decide), (I4 p).2⟩
    have kp5 : KP v u20 := by
      have q1 : KP v u17 := ((KP.of rfl rfl rfl rfl rfl : KP v (wA v 0 375 (v.1 0 375 + 1))).tr b2.2.2.1.1).tr b4.2.2.1.1
      rw [hu20]
      exact q1.tr (KP.of rfl rfl rfl rfl rfl)
    have dp5 : DP v u20 := w1.2.tr (b2.2.2.2.2.2.2.1.tr (b4.2.2.2.2.2.2.1.tr k5.2.2.2))
    have rw5 : RWq (rowA L1 (nF v)) v u20 := (RWq.rs w1.1).tr (b2.2.2.2.1.tr (b4.2.2.2.1.tr (RWq.rs k5.2.2.1)))
    have g5 : ∀ i ∉ [312, 313, 314, 315, 375], u20.1 0 i = v.1 0 i := fun i hi => by
      rw [k5.1.2.1 i (fun q => hi (List.mem_append_left [375] q)), b4.2.2.2.2.2.1, b2.2.2.2.2.2.1]
      exact updN_ (fun q => hi (by rw [q]; decide))
    have r5_ : ∀ j, rF L1 u20 (nF v) j = rF L1 u17 (nF v) j := fun j => congrFun (k5.2.2.1 _ (by omega)) j
    have e75b : u20.1 0 375 = v.1 0 375 + 1 := by
      rw [k5.1.2.1 375 (by decide), b4.2.2.2.2.2.1, b2.2.2.2.2.2.1]
      exact show upd (v.1 0) 375 _ 375 = _ from updS
    have arr5 : ∀ b, b < 5000 → b ≠ 0 → u20.1 b = v.1 b := fun b hb h0 => by
      rw [k5.1.2.2 b ⟨hb, fun q => h0 (List.mem_singleton.mp q)⟩, b4.2.2.2.2.2.2.2 b hb, b2.2.2.2.2.2.2.2 b hb]
      exact if_neg h0
    have T0 : ¬ (40 ≤ x.2.1.length) := by omega
    rcases h with ⟨u9, h6, rfl, rfl⟩ | ⟨u29, h6, k6, h⟩
    · refine Or.inr ⟨rfl, ?_⟩
      unfold tFItem tFunc
      have q := (sTake (G := Gp (pv L1 v)) h6 nom (I5 _)).er
      rw [a5 _ PF_pv] at q
      rw [if_neg T0, x0, q]
      rfl
    have b6 := fun p => sTake (G := Gp p) h6 (fun _ => k6) (I5 p)
    rcases h with ⟨u9, h7, rfl, rfl⟩ | ⟨u47, h7, k7, u50, h8, -, u53, h9, -, u59, h10, k10, r74, u73, h11, k11, h⟩
    · refine Or.inr ⟨rfl, ?_⟩
      unfold tFItem tFunc
      have q := (b6 (pv L1 v)).eo
      rw [a5 _ PF_pv] at q
      have q2 := (sParams (G := Gp (pv L1 v)) h7 (b6 _).si).er
      rw [if_neg T0, x0, q, bd_ok, q2]
      rfl
    have b7 := fun p => sParams (G := Gp p) h7 (b6 p).si
    have e67 : ∀ i ∉ [305, 306, 312, 315], u47.1 0 i = u20.1 0 i := fun i hi => (k7.1.2.1 i hi).trans (k6.1.2.1 i (fun q => hi (by rw [List.mem_singleton.mp q]; decide)))
    have e47 : u47.1 0 377 = v.1 0 377 := (e67 377 (by decide)).trans (g5 377 (by decide))
    have b8 := ch (w := u47) e47 (by decide) h8
    have b9 := ch (w := u50) ((congrFun b8.2.2.2.2.2.1 377).trans e47) (by decide) h9
    have c50 : u50.1 0 = u47.1 0 := b8.2.2.2.2.2.1
    have c53 : u53.1 0 = u47.1 0 := b9.2.2.2.2.2.1.trans c50
    have e81 : u53.1 0 381 = v.1 0 381 := (congrFun c53 381).trans ((e67 381 (by decide)).trans (g5 381 (by decide)))
    have rs67 : RS u20 u47 := RS.tr k6.2.2.2 (by first | exact k7.2 | exact k7.2.2 | exact k7.2.2.2 | exact k7.2.2.2.2 | exact k7.2.2.2.2.2 | exact k7.2.2.2.2.2.2 | exact k7.2.2.2.2.2.2.2 | exact k7.2.2.2.2.2.2.2.2 | exact k7.2.2.2.2.2.2.2.2.2 | exact k7.2.2.2.2.2.2.2.2.2.2 | exact k7.2.2.2.2.2.2.2.2.2.2.2)
    have kp67 : KP u20 u47 := (b6 (pv L1 v)).ks.1.tr (b7 (pv L1 v)).ks.1
    have r53 : ∀ j, rF L1 u53 (nF v) j = if j = 5 then v.1 0 381 else if j = 0 then u47.1 0 312 else if j = 3 then r15 else if j = 4 then r5 else rF L1 (wA v 0 375 (v.1 0 375 + 1)) (nF v) j := fun j => by
      rw [b9.2.2.2.2.1, b8.2.2.2.2.1, show rF L1 u47 (nF v) j = rF L1 u20 (nF v) j from congrFun (rs67.1 _ (by omega)) j, r5_, b4.2.2.2.2.1, b2.2.2.2.2.1]
      have q : u50.1 0 381 = v.1 0 381 := (congrFun c50 381).trans ((e67 381 (by decide)).trans (g5 381 (by decide)))
      rw [q]
      rfl
    have hadd : u59.1 378 (nD v) = 0 ∧ u59.1 379 (nD v) = v.1 0 375 := by
      have q : nD v = (u53.1 0 381).toNatClampNeg := by unfold nD; rw [e81]
      rw [q]
      obtain ⟨-, -, -, -, hq⟩ := h10
      rw [hq]
      exact ⟨show upd (u53.1 378) _ _ _ = _ from updS, show upd (u53.1 379) _ _ _ = _ from updS⟩
    have d59 : (u59.1 0 381).toInt = (v.1 0 381).toInt + 1 := by rw [← e81]; exact k10.2.2.1
    have rs10 : RS u53 u59 := (by first | exact k10.2 | exact k10.2.2 | exact k10.2.2.2 | exact k10.2.2.2.2 | exact k10.2.2.2.2.2 | exact k10.2.2.2.2.2.2 | exact k10.2.2.2.2.2.2.2 | exact k10.2.2.2.2.2.2.2.2 | exact k10.2.2.2.2.2.2.2.2.2 | exact k10.2.2.2.2.2.2.2.2.2.2 | exact k10.2.2.2.2.2.2.2.2.2.2.2)
    have w331 : RS u59 (wA (wA u59 0 331 (-1)) 0 332 (-1)) := RS.w0 (RS.w0 RS.rf (by decide)) (by decide)
    have rs11 : RS (wA (wA u59 0 331 (-1)) 0 332 (-1)) u73 := (by first | exact k11.2 | exact k11.2.2 | exact k11.2.2.2 | exact k11.2.2.2.2 | exact k11.2.2.2.2.2 | exact k11.2.2.2.2.2.2 | exact k11.2.2.2.2.2.2.2 | exact k11.2.2.2.2.2.2.2.2 | exact k11.2.2.2.2.2.2.2.2.2 | exact k11.2.2.2.2.2.2.2.2.2.2 | exact k11.2.2.2.2.2.2.2.2.2.2.2)
    have w333 : RS u73 (wA u73 0 333 r74) := RS.w0 RS.rf (by decide)
    have lo : ∀ p, LO (Gp p) (wA u73 0 333 r74) := fun p => by
      have q1 : (wA u73 0 333 r74).1 0 331 = -1 := k11.1.2.1 331 (by decide)
      have q2 : (wA u73 0 333 r74).1 0 332 = -1 := k11.1.2.1 332 (by decide)
      unfold LO
      rw [q1, q2]
      exact ⟨⟨fun q => (nomatch q), fun q => absurd (by decide) q⟩, ⟨fun q => (nomatch q), fun q => absurd (by decide) q⟩⟩
    have main : ∀ p, PF L1 p v → p (1099511627776 + (nF v : Int)) = 2 * u47.1 0 312 → ((t = false ∧ tFItem S K x = .ok (tBegF (aC (Gp p) u), x.2.1 ++ [(rF L1 u (nF v) 4, rF L1 u (nF v) 3, rF L1 u (nF v) 0, rF L1 u (nF v) 2, pWd x.1)], x.2.2) ∧ SIq (Gp p) L2 (mkE K x.2.2) u ∧ rF L1 u (nF v) 0 = u47.1 0 312 ∧ u.1 0 375 = v.1 0 375 + 1 ∧ RWq (rowA L1 (nF v)) v u ∧ KP v u ∧ DP v u ∧ rF L1 u (nF v) 5 = v.1 0 381 ∧ DP u59 u) ∨ (t = true ∧ tFItem S K x = .error (u.1 0 308, u.1 0 309))) := by
      intro p hp hpk
      have I8 := b8.2.1 _ _ (b7 p).si
      have I9 := b9.2.1 _ _ I8
      have c10 := cAddy (G := Gp p) h10 k10 I9.1
      have z10 : tAddy (dsy (Gp p).2.2.2.1.2 0 (v.1 0 375)) 0 (v.1 0 375) (aC (Gp p) u53) = em (9 + 2 * pKc (aC (Gp p) u47)) (aC (Gp p) u47) := by
        have q1 : dsy (Gp p).2.2.2.1.2 0 (v.1 0 375) = 9 + 2 * u47.1 0 312 := by
          show 9 + p (1099511627776 + (v.1 0 375).toInt) = _
          rw [← n5, hpk]
        have q2 : aC (Gp p) u53 = aC (Gp p) u47 := (b9.1 _).trans (b8.1 _)
        rw [q1, q2]
        unfold tAddy em
        rw [decide_eq_false (by decide : ¬ ((0 : Int32) = 20))]
        simp only [Bool.false_and, Bool.or_false]
        split <;> rfl
      rw [z10] at c10
      have I10 : SIq (Gp p) L2 (mkE K x.2.2) u59 := I9.st c10.2.1 c10.2.2
      have Ia : SIq (Gp p) L2 (mkE K x.2.2) (wA (wA u59 0 331 (-1)) 0 332 (-1)) := ⟨(I10.1.w (by decide)).w (by decide), I10.2⟩
      have c11 := sLab (G := Gp p) h11 k11 Ia
      have Ib : SIq (Gp p) L2 (mkE K x.2.2) (wA u73 0 333 r74) := ⟨c11.2.1.1.w (by decide), c11.2.1.2⟩
      have ea : aC (Gp p) (wA u73 0 333 r74) = em (9 + 2 * pKc (aC (Gp p) u47)) (aC (Gp p) u47) := (show aC (Gp p) (wA u73 0 333 r74) = aC (Gp p) u73 from rfl).trans (c11.1.trans ((show aC (Gp p) (wA (wA u59 0 331 (-1)) 0 332 (-1)) = aC (Gp p) u59 from rfl).trans c10.1))
      have kpb : KP u53 (wA u73 0 333 r74) := (c10.2.2.tr ((KP.of rfl rfl rfl rfl rfl : KP u59 (wA (wA u59 0 331 (-1)) 0 332 (-1))).tr c11.2.2.1)).tr (KP.of rfl rfl rfl rfl rfl)
      have rsb : RS u59 (wA u73 0 333 r74) := w331.tr (rs11.tr w333)
      have eb : sLo (em (9 + 2 * pKc (aC (Gp p) u47)) (aC (Gp p) u47)) false = aC (Gp p) (wA u73 0 333 r74) := by
        rw [ea]
        exact sLo_id (by rw [pLo_em]; rfl)
      have wd : pWd (aC (Gp p) u47) = pWd x.1 := by
        rw [← a5 p hp]
        show wdC (Gp p) u47 = wdC (Gp p) u20
        unfold wdC ovC nD nC
        have q := fun b hb => (k7.1.2.2 b hb).trans (k6.1.2.2 b ⟨hb.1, fun w => hb.2 (by rw [List.mem_singleton.mp w]; decide)⟩)
        rw [e67 321 (by decide), e67 381 (by decide), q 378 (by decide), q 379 (by decide), q 320 (by decide)]
      have q6 := (b6 p).eo
      rw [a5 p hp] at q6
      unfold tFItem tFunc tBody
      rw [if_neg T0, x0, q6, bd_ok, (b7 p).eo, bd_ok, eb]
      rcases h with ⟨u9, h12, rfl, rfl⟩ | ⟨u87, h12, k12, h⟩
      · exact Or.inr ⟨rfl, by simp only [(sNeed (G := Gp p) (m := 32) (by decide) h12 nom Ib).er, bd_er]⟩
      have c12 := sNeed (G := Gp p) (m := 32) (by decide) h12 (fun _ => k12) Ib
      rw [c12.eo, bd_ok]
      rcases h with ⟨u9, h13, rfl, rfl⟩ | ⟨u98, h13, k13, h⟩
      · exact Or.inr ⟨rfl, by simp only [(sOpen (G := Gp p) h13 nom c12.si).er, bd_er]⟩
      have c13 := sOpen (G := Gp p) h13 (fun _ => k13) c12.si
      rw [c13.eo, bd_ok]
      have K13 := c12.ks.tr c13.ks
      have l13 : 1 ≤ (u98.1 0 305).toInt := by have := k13.2.2.2.2.1; have := h13.2.1.1; omega
      rcases h with ⟨u9, h14, rfl, rfl⟩ | ⟨u134, h14, k14, h⟩
      · exact Or.inr ⟨rfl, by simp only [(sStats (G := Gp p) hS h14 c13.si ((lo p).ks K13) l13).er, bd_er]⟩
      have c14 := sStats (G := Gp p) hS h14 c13.si ((lo p).ks K13) l13
      rw [c14.eo, bd_ok]
      rcases h with ⟨u9, h15, rfl, rfl⟩ | ⟨u139, h15, k15, u143, h16, k16, u148, h17, k17, u151, h18, k18, u155, h19, k19, r159, h20, u161, h21, k21, rfl, rfl⟩
      · exact Or.inr ⟨rfl, by simp only [(sExp (G := Gp p) (m := 33) (by decide) h15 nom c14.si).er, bd_er]⟩
      have c15 := sExp (G := Gp p) (m := 33) (by decide) h15 (fun _ => k15) c14.si
      have c16 := sClose (G := Gp p) h16 k16 c15.si
      have c17 := sAdd (G := Gp p) (k := 1) h17 k17 (by decide) (by rfl) c16.2.1
      have c18 := sSet (G := Gp p) h18 k18 c17.2.1
      have c19 := sAdd (G := Gp p) (k := 4) h19 k19 (by decide) (by rfl) c18.2.1
      rw [c15.eo, bd_ok, ← c16.1, ← c17.1, ← c18.1, ← c19.1, bd_ok, bd_ok]
      have rsc : RS (wA u73 0 333 r74) u155 := ((RS.tr (by first | exact k12.2 | exact k12.2.2 | exact k12.2.2.2 | exact k12.2.2.2.2 | exact k12.2.2.2.2.2 | exact k12.2.2.2.2.2.2 | exact k12.2.2.2.2.2.2.2 | exact k12.2.2.2.2.2.2.2.2 | exact k12.2.2.2.2.2.2.2.2.2 | exact k12.2.2.2.2.2.2.2.2.2.2 | exact k12.2.2.2.2.2.2.2.2.2.2.2) (by first | exact k13.2 | exact k13.2.2 | exact k13.2.2.2 | exact k13.2.2.2.2 | exact k13.2.2.2.2.2 | exact k13.2.2.2.2.2.2 | exact k13.2.2.2.2.2.2.2 | exact k13.2.2.2.2.2.2.2.2 | exact k13.2.2.2.2.2.2.2.2.2 | exact k13.2.2.2.2.2.2.2.2.2.2 | exact k13.2.2.2.2.2.2.2.2.2.2.2)).tr (RS.tr (by first | exact k14.2 | exact k14.2.2 | exact k14.2.2.2 | exact k14.2.2.2.2 | exact k14.2.2.2.2.2 | exact k14.2.2.2.2.2.2 | exact k14.2.2.2.2.2.2.2 | exact k14.2.2.2.2.2.2.2.2 | exact k14.2.2.2.2.2.2.2.2.2 | exact k14.2.2.2.2.2.2.2.2.2.2 | exact k14.2.2.2.2.2.2.2.2.2.2.2) (by first | exact k15.2 | exact k15.2.2 | exact k15.2.2.2 | exact k15.2.2.2.2 | exact k15.2.2.2.2.2 | exact k15.2.2.2.2.2.2 | exact k15.2.2.2.2.2.2.2 | exact k15.2.2.2.2.2.2.2.2 | exact k15.2.2.2.2.2.2.2.2.2 | exact k15.2.2.2.2.2.2.2.2.2.2 | exact k15.2.2.2.2.2.2.2.2.2.2.2))).tr ((RS.tr (by first | exact k16.2 | exact k16.2.2 | exact k16.2.2.2 | exact k16.2.2.2.2 | exact k16.2.2.2.2.2 | exact k16.2.2.2.2.2.2 | exact k16.2.2.2.2.2.2.2 | exact k16.2.2.2.2.2.2.2.2 | exact k16.2.2.2.2.2.2.2.2.2 | exact k16.2.2.2.2.2.2.2.2.2.2 | exact k16.2.2.2.2.2.2.2.2.2.2.2) (by first | exact k17.2 | exact k17.2.2 | exact k17.2.2.2 | exact k17.2.2.2.2 | exact k17.2.2.2.2.2 | exact k17.2.2.2.2.2.2 | exact k17.2.2.2.2.2.2.2 | exact k17.2.2.2.2.2.2.2.2 | exact k17.2.2.2.2.2.2.2.2.2 | exact k17.2.2.2.2.2.2.2.2.2.2 | exact k17.2.2.2.2.2.2.2.2.2.2.2)).tr (RS.tr (by first | exact k18.2 | exact k18.2.2 | exact k18.2.2.2 | exact k18.2.2.2.2 | exact k18.2.2.2.2.2 | exact k18.2.2.2.2.2.2 | exact k18.2.2.2.2.2.2.2 | exact k18.2.2.2.2.2.2.2.2 | exact k18.2.2.2.2.2.2.2.2.2 | exact k18.2.2.2.2.2.2.2.2.2.2 | exact k18.2.2.2.2.2.2.2.2.2.2.2) (by first | exact k19.2 | exact k19.2.2 | exact k19.2.2.2 | exact k19.2.2.2.2 | exact k19.2.2.2.2.2 | exact k19.2.2.2.2.2.2 | exact k19.2.2.2.2.2.2.2 | exact k19.2.2.2.2.2.2.2.2 | exact k19.2.2.2.2.2.2.2.2.2 | exact k19.2.2.2.2.2.2.2.2.2.2 | exact k19.2.2.2.2.2.2.2.2.2.2.2)))
      have e155 : u155.1 0 377 = v.1 0 377 := by
        rw [k19.1.2.1 377 (by decide), k18.1.2.1 377 (by decide), k17.1.2.1 377 (by decide), k16.1.2.1 377 (by decide), k15.1.2.1 377 (by decide), k14.1.2.1 377 (by decide), k13.1.2.1 377 (by decide), k12.1.2.1 377 (by decide)]
        show u73.1 0 377 = _
        rw [k11.1.2.1 377 (by decide)]
        show u59.1 0 377 = _
        rw [k10.1.2.1 377 (by decide), c53, e47]
      have c21 := ch (w := u155) e155 (by decide) h21
      have e375 : u.1 0 375 = v.1 0 375 + 1 := by
        rw [c21.2.2.2.2.2.1, k19.1.2.1 375 (by decide), k18.1.2.1 375 (by decide), k17.1.2.1 375 (by decide), k16.1.2.1 375 (by decide), k15.1.2.1 375 (by decide), k14.1.2.1 375 (by decide), k13.1.2.1 375 (by decide), k12.1.2.1 375 (by decide)]
        show u73.1 0 375 = _
        rw [k11.1.2.1 375 (by decide)]
        show u59.1 0 375 = _
        rw [k10.1.2.1 375 (by decide), c53, e67 375 (by decide), e75b]
      have rsd : RS u59 u155 := rsb.tr rsc
      have rse : RS u53 u155 := rs10.tr rsd
      have kpc : KP u53 u155 := kpb.tr ((K13.1.tr (c14.ks.1.tr c15.ks.1)).tr (c16.2.2.1.tr (c17.2.2.1.tr (c18.2.2.1.tr c19.2.2.1))))
      have r161 : ∀ j, rF L1 u (nF v) j = if j = 2 then r159 else rF L1 u53 (nF v) j := fun j => by
        rw [c21.2.2.2.2.1, show rF L1 u155 (nF v) j = rF L1 u53 (nF v) j from congrFun (rse.1 _ (by omega)) j]
        rfl
      have nd : pMo (aC (Gp p) u155) = u155.1 0 315 := by
        have q1 := du_exp c15.eo
        have q2 : u139.1 0 307 ≠ u139.1 0 305 := of_decide_eq_false q1
        have q3 : u155.1 0 307 = u139.1 0 307 := by rw [k19.1.2.1 307 (by decide), k18.1.2.1 307 (by decide), k17.1.2.1 307 (by decide), k16.1.2.1 307 (by decide)]
        have q4 : u155.1 0 305 = u139.1 0 305 := by rw [k19.1.2.1 305 (by decide), k18.1.2.1 305 (by decide), k17.1.2.1 305 (by decide), k16.1.2.1 305 (by decide)]
        show (if u155.1 0 307 = u155.1 0 305 then 0 else u155.1 0 315) = _
        rw [q3, q4, if_neg q2]
      have h20' : r159 = 8 + 4 * u155.1 0 315 := h20
      refine Or.inl ⟨rfl, ?_, c21.2.1 _ _ c19.2.1, by rw [r161, r53]; rfl, e375, ?_, ?_, ?_, by rw [r161, r53]; rfl, rsd.2.tr c21.2.2.2.2.2.2.1⟩
      · show Except.ok (tBegF (aC (Gp p) u155), x.2.1 ++ [(vl (mkE K x.2.2) x.1, pl (mkE K x.2.2) x.1, pKc (aC (Gp p) u47), 8 + 4 * pMo (aC (Gp p) u155), pWd (aC (Gp p) u47))], x.2.2) = _
        rw [r161, r161, r161, r161, r53, r53, r53, nd, wd, ev p hp, ep p hp, ← f5 p, ← f15 p, c21.1, h20']
        rfl
      · exact rw5.tr ((RWq.rs rs67.1).tr (b8.2.2.2.1.tr (b9.2.2.2.1.tr ((RWq.rs rse.1).tr c21.2.2.2.1))))
      · exact kp5.tr (kp67.tr (b8.2.2.1.1.tr (b9.2.2.1.1.tr (kpc.tr c21.2.2.1.1))))
      · exact dp5.tr (rs67.2.tr (b8.2.2.2.2.2.2.1.tr (b9.2.2.2.2.2.2.1.tr (rse.2.tr c21.2.2.2.2.2.2.1))))
    have body : t = false → ∀ G : GH, G.2.2.1 = false → G.2.2.2.2 = [] → tBody S (mkE K x.2.2) (aC G (wA u73 0 333 r74)) = .ok (aC G u) := by
      intro tf G g1 g2
      have I8 := b8.2.1 _ _ (b7 (pv L1 v)).si
      have I9 := b9.2.1 _ _ I8
      have c10 := cAddy (G := Gp (pv L1 v)) h10 k10 I9.1
      have I10 : SIq (Gp (pv L1 v)) L2 (mkE K x.2.2) u59 := I9.st c10.2.1 c10.2.2
      have Ia : SIq (Gp (pv L1 v)) L2 (mkE K x.2.2) (wA (wA u59 0 331 (-1)) 0 332 (-1)) := ⟨(I10.1.w (by decide)).w (by decide), I10.2⟩
      have c11 := sLab (G := Gp (pv L1 v)) h11 k11 Ia
      have Ib : SIq G L2 (mkE K x.2.2) (wA u73 0 333 r74) := ⟨c11.2.1.1.w (by decide), c11.2.1.2.1, g2⟩
      have loG : LO G (wA u73 0 333 r74) := by
        have q1 : (wA u73 0 333 r74).1 0 331 = -1 := k11.1.2.1 331 (by decide)
        have q2 : (wA u73 0 333 r74).1 0 332 = -1 := k11.1.2.1 332 (by decide)
        unfold LO
        rw [q1, q2, g1]
        exact ⟨⟨fun q => (nomatch q), fun q => absurd (by decide) q⟩, ⟨fun q => (nomatch q), fun q => absurd (by decide) q⟩⟩
      unfold tBody
      rcases h with ⟨u9, h12, e1, -⟩ | ⟨u87, h12, k12, h⟩
      · rw [e1] at tf; cases tf
      have c12 := sNeed (G := G) (m := 32) (by decide) h12 (fun _ => k12) Ib
      rw [c12.eo, bd_ok]
      rcases h with ⟨u9, h13, e1, -⟩ | ⟨u98, h13, k13, h⟩
      · rw [e1] at tf; cases tf
      have c13 := sOpen (G := G) h13 (fun _ => k13) c12.si
      rw [c13.eo, bd_ok]
      have K13 := c12.ks.tr c13.ks
      have l13 : 1 ≤ (u98.1 0 305).toInt := by have := k13.2.2.2.2.1; have := h13.2.1.1; omega
      rcases h with ⟨u9, h14, e1, -⟩ | ⟨u134, h14, k14, h⟩
      · rw [e1] at tf; cases tf
      have c14 := sStats (G := G) hS h14 c13.si (loG.ks K13) l13
      rw [c14.eo, bd_ok]
      rcases h with ⟨u9, h15, e1, -⟩ | ⟨u139, h15, k15, u143, h16, k16, u148, h17, k17, u151, h18, k18, u155, h19, k19, r159, h20, u161, h21, k21, -, e2⟩
      · rw [e1] at tf; cases tf
      have c15 := sExp (G := G) (m := 33) (by decide) h15 (fun _ => k15) c14.si
      have c16 := sClose (G := G) h16 k16 c15.si
      have c17 := sAdd (G := G) (k := 1) h17 k17 (by decide) (by rfl) c16.2.1
      have c18 := sSet (G := G) h18 k18 c17.2.1
      have c19 := sAdd (G := G) (k := 4) h19 k19 (by decide) (by rfl) c18.2.1
      have e155 : u155.1 0 377 = v.1 0 377 := by
        rw [k19.1.2.1 377 (by decide), k18.1.2.1 377 (by decide), k17.1.2.1 377 (by decide), k16.1.2.1 377 (by decide), k15.1.2.1 377 (by decide), k14.1.2.1 377 (by decide), k13.1.2.1 377 (by decide), k12.1.2.1 377 (by decide)]
        show u73.1 0 377 = _
        rw [k11.1.2.1 377 (by decide)]
        show u59.1 0 377 = _
        rw [k10.1.2.1 377 (by decide), c53, e47]
      have c21 := ch (w := u155) e155 (by decide) h21
      rw [c15.eo, bd_ok, ← c16.1, ← c17.1, ← c18.1, ← c19.1, e2, c21.1]
    have pf1 : PF L1 (fun i => if i = 1099511627776 + (nF v : Int) then 2 * u47.1 0 312 else pv L1 v i) v := fun f hf1 => by
      show (if 1099511627776 + (f : Int) = 1099511627776 + (nF v : Int) then _ else _) = _
      rw [if_neg (by omega)]
      exact PF_pv f hf1
    rcases main _ pf1 (if_pos rfl) with ⟨rfl, m1, m2, m3, m4, m5, m6, m7, m8, m9⟩ | m
    · have kI := kI rfl
      refine Or.inl ⟨rfl, fun p hp => ?_, fun p => ⟨m2.1, m2.2.1, rfl⟩, ?_, by omega, m4, kI.1.2.1 377 (by decide), m5, m6, m7, m8, ?_, ?_, ?_, kI.2.2.2.2.2.2.2.2.1, fun ov k h1 h2 => ?_⟩
      · have nu : nF u = nF v + 1 := by unfold nF; rw [m4]; exact natS e75 J3.1
        have pfv : PF L1 p v := fun f hf1 => by
          have ne : rowA L1 f ≠ rowA L1 (nF v) := rd.2.1 f (nF v) (by omega) (by omega) (by omega)
          rw [hp f (by omega)]
          unfold rF
          rw [m5 _ ne]
        have q := hp (nF v) (by omega)
        rw [m3] at q
        rcases main p pfv q with ⟨-, q, -⟩ | ⟨q, -⟩
        · exact q
        · cases q
      · rw [← hk]
        exact kC_of (kI.1.2.2 301 (by decide)) (kI.1.2.2 302 (by decide)) (kI.1.2.2 303 (by decide)) (kI.1.2.1 304 (by decide)) (kI.1.2.1 373 (by decide))
      · have := m9.1
        omega
      · have q : ((nD v : Nat) : Int) < (u59.1 0 381).toInt := by
          have := natI z7.1
          unfold nD
          omega
        rw [(m9.2 _ q).1]
        exact hadd.1
      · have q : ((nD v : Nat) : Int) < (u59.1 0 381).toInt := by
          have := natI z7.1
          unfold nD
          omega
        rw [(m9.2 _ q).2]
        exact hadd.2
      · have y21 : (wA u73 0 333 r74).1 0 321 = v.1 0 321 := by
          show u73.1 0 321 = _
          rw [k11.1.2.1 321 (by decide)]
          show u59.1 0 321 = _
          rw [k10.1.2.1 321 (by decide), c53, e67 321 (by decide), g5 321 (by decide)]
        have y81 : (wA u73 0 333 r74).1 0 381 = u59.1 0 381 := by
          show u73.1 0 381 = _
          rw [k11.1.2.1 381 (by decide)]
          rfl
        have y78 : (wA u73 0 333 r74).1 378 = u59.1 378 := by
          show u73.1 378 = _
          rw [k11.1.2.2 378 (by decide)]
          rfl
        have y79 : (wA u73 0 333 r74).1 379 = u59.1 379 := by
          show u73.1 379 = _
          rw [k11.1.2.2 379 (by decide)]
          rfl
        have dpz : DP (wA u73 0 333 r74) u := by
          refine ⟨by rw [y81]; exact m9.1, fun j hj => ?_⟩
          rw [y81] at hj
          rw [y78, y79]
          exact m9.2 j hj
        have l21 := m6.2.2.1
        have ovz : ovC (wA u73 0 333 r74) = false := by
          unfold ovC at ov ⊢
          rw [y21]
          have := of_decide_eq_false ov
          exact decide_eq_false (by omega)
        have z9 := z7.1
        have nv := natI z9
        refine noEnter (body rfl) dpz ⟨by rw [y81, d59]; omega, kI.2.2.2.2.2.2.1.2⟩ ov ovz ⟨by rw [y21]; exact z4.1, by have := z4.1; omega⟩ k ?_ h2
        show (((wA u73 0 333 r74).1 0 381).toNatClampNeg) ≤ k
        rw [y81]
        have := natI (a := u59.1 0 381) (by omega)
        unfold nD at h1
        omega
    · exact Or.inr m
  · refine Or.inr ⟨rfl, ?_⟩
    unfold tFItem
    rw [if_pos (by omega), ep _ PF_pv, sRef h2, sPlace (G := Gp (pv L1 v)) h1 (I _)]
end CFI
