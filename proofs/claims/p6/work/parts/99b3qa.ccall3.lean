/-! the class: the end of a call, calls -/
set_option maxHeartbeats 400000 in
theorem i32_sw (a b c : Int32) : a + b + c = a + c + b := by rw [Int32.add_assoc, Int32.add_comm b, ← Int32.add_assoc]
set_option maxHeartbeats 400000 in
theorem i32_as {a b c d p : Int32} (h : d + 1 = c) : a + (b + (d - p)) + (1 + p) = a + b + c := by
  rw [← h, Int32.add_comm 1 p, ← Int32.add_assoc, Int32.add_assoc a, Int32.add_assoc b, Int32.sub_add_cancel, ← Int32.add_assoc a b d, Int32.add_assoc (a + b) d 1]
set_option maxHeartbeats 400000 in
theorem i32_ne (n : Int32) : (if n = 0 then (0 : Int32) else 1) + 1 = if n = 0 then 1 else 2 := by split <;> decide
set_option maxHeartbeats 400000 in
theorem csum_out {p : Int → Int32} {O : List Nat} {f : Nat → Int32} {c : Nat} (hO : c ∉ O) : ∀ m : Nat, c < m → csum p O f m = csum p (c :: O) f m + ((if f c = 0 then 0 else 1) - p (c : Int))
  | 0, h => by omega
  | m + 1, h => by
    show csum p O f m + (if m ∈ O then 0 else (if f m = 0 then 0 else 1) - p (m : Int)) = csum p (c :: O) f m + (if m ∈ c :: O then 0 else (if f m = 0 then 0 else 1) - p (m : Int)) + _
    by_cases q : c = m
    · rw [csum_cg (O' := c :: O) (f' := f) m (fun j hj => ⟨⟨fun w => List.mem_cons_of_mem _ w, fun w => (List.mem_cons.mp w).elim (fun x => by omega) id⟩, fun _ => rfl⟩)]
      rw [if_pos (show m ∈ c :: O from q ▸ List.mem_cons_self), Int32.add_zero, q, if_neg (q ▸ hO)]
    · rw [csum_out hO m (by omega)]
      have e1 : m ∈ c :: O ↔ m ∈ O := ⟨fun x => (List.mem_cons.mp x).elim (fun y => absurd y.symm q) id, fun x => List.mem_cons_of_mem _ x⟩
      rw [i32_sw]
      congr 1
      congr 1
      by_cases z : m ∈ O
      · rw [if_pos z, if_pos (e1.mpr z)]
      · rw [if_neg z, if_neg (fun w => z (e1.mp w))]
set_option maxHeartbeats 400000 in
theorem setA_app {q : Int32 × Int32 × Int32} {n : Int32} : ∀ (l : CA) (c : Nat), setA (l ++ [q]) c n = if c < l.length then setA l c n ++ [q] else if c = l.length then l ++ [(q.1, q.2.1, n)] else l ++ [q]
  | [], 0 => rfl
  | [], c + 1 => rfl
  | p :: l, 0 => rfl
  | p :: l, c + 1 => by
    show p :: setA (l ++ [q]) c n = _
    rw [setA_app l c]
    simp only [List.length_cons, Nat.add_lt_add_iff_right, Nat.add_right_cancel_iff]
    split
    · rfl
    · split <;> rfl
set_option maxHeartbeats 400000 in
theorem cas_out {O : List Nat} {f g h : Nat → Int32} {c : Nat} {n : Int32} (hO : c ∉ O) (hn : h c = n) : ∀ m : Nat, c < m → setA (cas (c :: O) f g h m) c n = cas O f g h m
  | 0, w => by omega
  | m + 1, w => by
    rw [cas_snoc, cas_snoc, setA_app, cas_len]
    by_cases q : c = m
    · rw [if_neg (by omega), if_pos q, ← q, if_neg hO, hn]
      congr 1
      exact cas_cg (fun j hj => ⟨rfl, rfl, ⟨fun x => (List.mem_cons.mp x).elim (fun y => by omega) id, fun x => List.mem_cons_of_mem _ x⟩, fun _ => rfl⟩)
    · rw [if_pos (by omega), cas_out hO hn m (by omega)]
      congr 1
      have e1 : m ∈ c :: O ↔ m ∈ O := ⟨fun x => (List.mem_cons.mp x).elim (fun y => absurd y.symm q) id, fun x => List.mem_cons_of_mem _ x⟩
      by_cases z : m ∈ O
      · rw [if_pos z, if_pos (e1.mpr z)]
      · rw [if_neg z, if_neg (fun x => z (e1.mp x))]
set_option maxHeartbeats 400000 in
theorem PS_ext {s q : PS} (h1 : pAt s = pAt q) (h2 : pOp s = pOp q) (h3 : pDu s = pDu q) (h4 : pBl s = pBl q) (h5 : pPb s = pPb q) (h6 : pMo s = pMo q) (h7 : pMu s = pMu q) (h8 : pDi s = pDi q) (h9 : pLo s = pLo q) (h10 : pOv s = pOv q) (h11 : pWd s = pWd q) (h12 : pKc s = pKc q) (h13 : pKn s = pKn q) (h14 : pCa s = pCa q) : s = q := by
  show mkP (pAt s) (pOp s) (pDu s) (pBl s) (pPb s) (pMo s) (pMu s) (pDi s) (pLo s) (pOv s) (pWd s) (pKc s) (pKn s) (pCa s) = mkP (pAt q) (pOp q) (pDu q) (pBl q) (pPb q) (pMo q) (pMu q) (pDi q) (pLo q) (pOv q) (pWd q) (pKc q) (pKn q) (pCa q)
  rw [h1, h2, h3, h4, h5, h6, h7, h8, h9, h10, h11, h12, h13, h14]
set_option maxHeartbeats 400000 in
theorem pAt_sWd (s : PS) (x : Int32) : pAt (sWd s x) = pAt s := rfl
set_option maxHeartbeats 400000 in
theorem pAt_sCa (s : PS) (o : Bool) (x : Int32) (c : CA) : pAt (sCa s o x c) = pAt s := rfl
set_option maxHeartbeats 400000 in
theorem pOp_sWd (s : PS) (x : Int32) : pOp (sWd s x) = pOp s := rfl
set_option maxHeartbeats 400000 in
theorem pOp_sCa (s : PS) (o : Bool) (x : Int32) (c : CA) : pOp (sCa s o x c) = pOp s := rfl
set_option maxHeartbeats 400000 in
theorem pDu_sWd (s : PS) (x : Int32) : pDu (sWd s x) = pDu s := rfl
set_option maxHeartbeats 400000 in
theorem pDu_sCa (s : PS) (o : Bool) (x : Int32) (c : CA) : pDu (sCa s o x c) = pDu s := rfl
set_option maxHeartbeats 400000 in
theorem pBl_sWd (s : PS) (x : Int32) : pBl (sWd s x) = pBl s := rfl
set_option maxHeartbeats 400000 in
theorem pBl_sCa (s : PS) (o : Bool) (x : Int32) (c : CA) : pBl (sCa s o x c) = pBl s := rfl
set_option maxHeartbeats 400000 in
theorem pPb_sWd (s : PS) (x : Int32) : pPb (sWd s x) = pPb s := rfl
set_option maxHeartbeats 400000 in
theorem pPb_sCa (s : PS) (o : Bool) (x : Int32) (c : CA) : pPb (sCa s o x c) = pPb s := rfl
set_option maxHeartbeats 400000 in
theorem pMo_sWd (s : PS) (x : Int32) : pMo (sWd s x) = pMo s := rfl
set_option maxHeartbeats 400000 in
theorem pMo_sCa (s : PS) (o : Bool) (x : Int32) (c : CA) : pMo (sCa s o x c) = pMo s := rfl
set_option maxHeartbeats 400000 in
theorem pMu_sWd (s : PS) (x : Int32) : pMu (sWd s x) = pMu s := rfl
set_option maxHeartbeats 400000 in
theorem pMu_sCa (s : PS) (o : Bool) (x : Int32) (c : CA) : pMu (sCa s o x c) = pMu s := rfl
set_option maxHeartbeats 400000 in
theorem pDi_sWd (s : PS) (x : Int32) : pDi (sWd s x) = pDi s := rfl
set_option maxHeartbeats 400000 in
theorem pDi_sCa (s : PS) (o : Bool) (x : Int32) (c : CA) : pDi (sCa s o x c) = pDi s := rfl
set_option maxHeartbeats 400000 in
theorem pLo_sWd (s : PS) (x : Int32) : pLo (sWd s x) = pLo s := rfl
set_option maxHeartbeats 400000 in
theorem pLo_sCa (s : PS) (o : Bool) (x : Int32) (c : CA) : pLo (sCa s o x c) = pLo s := rfl
set_option maxHeartbeats 400000 in
theorem pKc_sWd (s : PS) (x : Int32) : pKc (sWd s x) = pKc s := rfl
set_option maxHeartbeats 400000 in
theorem pKc_sCa (s : PS) (o : Bool) (x : Int32) (c : CA) : pKc (sCa s o x c) = pKc s := rfl
set_option maxHeartbeats 400000 in
theorem pKn_sWd (s : PS) (x : Int32) : pKn (sWd s x) = pKn s := rfl
set_option maxHeartbeats 400000 in
theorem pKn_sCa (s : PS) (o : Bool) (x : Int32) (c : CA) : pKn (sCa s o x c) = pKn s := rfl
set_option maxHeartbeats 400000 in
theorem pAt_aC (G : GH) (v : MS) : pAt (aC G v) = v.1 0 305 := rfl
set_option maxHeartbeats 400000 in
theorem pAt_gO (G : GH) (c : Nat) (w : MS) : pAt (aC (gO G c) w) = pAt (aC G w) := by rw [pAt_aC, pAt_aC]
set_option maxHeartbeats 400000 in
theorem pOp_aC (G : GH) (v : MS) : pOp (aC G v) = v.1 0 306 := rfl
set_option maxHeartbeats 400000 in
theorem pOp_gO (G : GH) (c : Nat) (w : MS) : pOp (aC (gO G c) w) = pOp (aC G w) := by rw [pOp_aC, pOp_aC]
set_option maxHeartbeats 400000 in
theorem pDu_aC (G : GH) (v : MS) : pDu (aC G v) = decide (v.1 0 307 = v.1 0 305) := rfl
set_option maxHeartbeats 400000 in
theorem pDu_gO (G : GH) (c : Nat) (w : MS) : pDu (aC (gO G c) w) = pDu (aC G w) := by rw [pDu_aC, pDu_aC]
set_option maxHeartbeats 400000 in
theorem pBl_aC (G : GH) (v : MS) : pBl (aC G v) = v.1 0 313 := rfl
set_option maxHeartbeats 400000 in
theorem pBl_gO (G : GH) (c : Nat) (w : MS) : pBl (aC (gO G c) w) = pBl (aC G w) := by rw [pBl_aC, pBl_aC]
set_option maxHeartbeats 400000 in
theorem pPb_aC (G : GH) (v : MS) : pPb (aC G v) = v.1 0 314 := rfl
set_option maxHeartbeats 400000 in
theorem pPb_gO (G : GH) (c : Nat) (w : MS) : pPb (aC (gO G c) w) = pPb (aC G w) := by rw [pPb_aC, pPb_aC]
set_option maxHeartbeats 400000 in
theorem pMo_aC (G : GH) (v : MS) : pMo (aC G v) = (if v.1 0 307 = v.1 0 305 then 0 else v.1 0 315) := rfl
set_option maxHeartbeats 400000 in
theorem pMo_gO (G : GH) (c : Nat) (w : MS) : pMo (aC (gO G c) w) = pMo (aC G w) := by rw [pMo_aC, pMo_aC]
set_option maxHeartbeats 400000 in
theorem pMu_aC (G : GH) (v : MS) : pMu (aC G v) = (G.1 || dhas isT (v.1 378) (v.1 379) (nD v)) := rfl
set_option maxHeartbeats 400000 in
theorem pMu_gO (G : GH) (c : Nat) (w : MS) : pMu (aC (gO G c) w) = pMu (aC G w) := by rw [pMu_aC, pMu_aC]; rfl
set_option maxHeartbeats 400000 in
theorem pDi_aC (G : GH) (v : MS) : pDi (aC G v) = (G.2.1 || dhas isD (v.1 378) (v.1 379) (nD v)) := rfl
set_option maxHeartbeats 400000 in
theorem pDi_gO (G : GH) (c : Nat) (w : MS) : pDi (aC (gO G c) w) = pDi (aC G w) := by rw [pDi_aC, pDi_aC]; rfl
set_option maxHeartbeats 400000 in
theorem pLo_aC (G : GH) (v : MS) : pLo (aC G v) = G.2.2.1 := rfl
set_option maxHeartbeats 400000 in
theorem pLo_gO (G : GH) (c : Nat) (w : MS) : pLo (aC (gO G c) w) = pLo (aC G w) := by rw [pLo_aC, pLo_aC]; rfl
set_option maxHeartbeats 400000 in
theorem pKc_aC (G : GH) (v : MS) : pKc (aC G v) = v.1 0 312 := rfl
set_option maxHeartbeats 400000 in
theorem pKc_gO (G : GH) (c : Nat) (w : MS) : pKc (aC (gO G c) w) = pKc (aC G w) := by rw [pKc_aC, pKc_aC]
set_option maxHeartbeats 400000 in
theorem pKn_aC (G : GH) (v : MS) : pKn (aC G v) = lst (v.1 311) (v.1 0 312) := rfl
set_option maxHeartbeats 400000 in
theorem pKn_gO (G : GH) (c : Nat) (w : MS) : pKn (aC (gO G c) w) = pKn (aC G w) := by rw [pKn_aC, pKn_aC]
section CC4
variable {G : GH} {L1 L2 : List Nat} {e : PE} {v u w : MS} {t : Bool} {r pa pb pc1 pd : Int32} {cE : RE1} {E : FE} {O : FO} {f g : PS → PX PS}
set_option maxHeartbeats 400000 in
theorem aC_ov (G G' : GH) (h1 : G.1 = G'.1) (h2 : G.2.1 = G'.2.1) (h3 : G.2.2.1 = G'.2.2.1) (ho : ovC w = true) : aC G w = aC G' w := by
  refine aC_eq rfl rfl rfl rfl rfl rfl ?_ ?_ h3 rfl ?_ rfl rfl ?_
  · rw [h1]; rfl
  · rw [h2]; rfl
  · show wdC G w = wdC G' w
    unfold wdC
    rw [if_pos ho, if_pos ho]
  · show caC G w = caC G' w
    unfold caC
    rw [if_pos ho, if_pos ho]
set_option maxHeartbeats 400000 in
theorem cEndCall {c : Nat} {n : Int32} (h : Q_x_X1_add L1 L2 w 21 pa pb u) (k : K_x_X1_add w 21 pa pb u) (J : JC L2 e w) (hpc : ¬ ovC w = true → pa.toInt = (c : Int)) (hc : ovC w = true ∨ (w.1 320 c = n ∧ c < nC w ∧ c ∉ G.2.2.2.2)) : aC G u = tEndCall c n (aC (gO G c) w) ∧ JC L2 e u ∧ KP w u := by
  have a := cAddy (G := G) h k J
  have z : tAddy (dsy G.2.2.2.1.2 21 pa) 21 pa (aC G w) = em (1 + G.2.2.2.1.2 pa.toInt) (aC G w) := by
    unfold tAddy em dsy
    rw [decide_eq_false (by decide : ¬ ((21 : Int32) = 20)), if_pos rfl]
    simp only [Bool.false_and, Bool.or_false]
    split <;> rfl
  rw [z] at a
  refine ⟨?_, a.2.1, a.2.2⟩
  rw [a.1]
  unfold tEndCall em
  by_cases ho : ovC w = true
  · rw [if_pos (show pOv (aC G w) = true from ho), if_pos (show pOv (aC (gO G c) w) = true from ho)]
    exact aC_ov _ _ rfl rfl rfl ho
  · rw [if_neg (show ¬ pOv (aC G w) = true from ho), if_neg (show ¬ pOv (aC (gO G c) w) = true from ho)]
    obtain ⟨h1, h2, h3⟩ := hc.resolve_left ho
    have of : ovC w = false := by
      cases q : ovC w with
      | false => rfl
      | true => exact absurd q ho
    have e1 : wdC G w + (1 + G.2.2.2.1.2 pa.toInt) = wdC (gO G c) w + (if n = 0 then 1 else 2) := by
      unfold wdC
      rw [if_neg ho, if_neg ho, hpc ho, csum_out h3 (nC w) h2, h1]
      exact i32_as (i32_ne n)
    have e2 : caC G w = setA (caC (gO G c) w) c n := by
      unfold caC
      rw [if_neg ho, if_neg ho]
      exact (cas_out h3 h1 (nC w) h2).symm
    exact PS_ext (by rw [pAt_sWd, pAt_sCa, pAt_gO]) (by rw [pOp_sWd, pOp_sCa, pOp_gO]) (by rw [pDu_sWd, pDu_sCa, pDu_gO]) (by rw [pBl_sWd, pBl_sCa, pBl_gO]) (by rw [pPb_sWd, pPb_sCa, pPb_gO]) (by rw [pMo_sWd, pMo_sCa, pMo_gO]) (by rw [pMu_sWd, pMu_sCa, pMu_gO]) (by rw [pDi_sWd, pDi_sCa, pDi_gO]) (by rw [pLo_sWd, pLo_sCa, pLo_gO]) of e1 (by rw [pKc_sWd, pKc_sCa, pKc_gO]) (by rw [pKn_sWd, pKn_sCa, pKn_gO]) e2
set_option maxHeartbeats 400000 in
theorem cCall (hE : HE L2 cE E) (h : Q_x_X2_callFunction L1 L2 cE v t u) (J : JC L2 e v) (og : OG G v) (tp : TPO v) : OKC G L2 e (tCall E e) v t u := by
  obtain ⟨-, -, -, -, -, -, -, -, -, -, r3, hv, r6, hp, r9, u8, h1, k1, r13, -, h⟩ := h
  have ev := cValue (G := G) hv J
  have ep := cPlace (G := G) hp J
  have a1 := cAddCall (G := G) h1 k1 J og
  rw [ev, ep] at a1
  have hc0 : 0 ≤ r9.toInt ∧ r9.toInt ≤ 500 := by
    cases q : ovC u8 with
    | true => have := a1.2.2.2.2 q; omega
    | false =>
      have b := a1.2.2.2.1 q
      have := natI b.2.2.2.2.1
      omega
  have nk : ∀ j : Nat, (j : Int) < (v.1 0 321).toInt → j < 500 → j ≠ r9.toNatClampNeg := by
    intro j h5 h6
    cases q : ovC u8 with
    | true => have := a1.2.2.2.2 q; have := natI hc0.1; omega
    | false =>
      have b := a1.2.2.2.1 q
      have : (nC v : Int) = (v.1 0 321).toInt ∨ (v.1 0 321).toInt < 0 := by unfold nC Int32.toNatClampNeg; omega
      omega
  have hcO : ∀ w : MS, (u8.1 0 321).toInt ≤ (w.1 0 321).toInt → ovC w = true ∨ r9.toNatClampNeg ∈ (gO G (nC v)).2.2.2.2 := by
    intro w hw
    cases q : ovC u8 with
    | true => exact Or.inl (decide_eq_true (Int.le_trans (of_decide_eq_true q) hw))
    | false => exact Or.inr (by rw [(a1.2.2.2.1 q).1]; exact List.mem_cons_self)
  have og8 : OG (gO G (nC v)) u8 := by
    cases q : ovC u8 with
    | true => exact Or.inl q
    | false =>
      have b := a1.2.2.2.1 q
      have z : (nC u8 : Int) = (u8.1 0 321).toInt := natI k1.2.1.1
      refine (og.kp a1.2.2.1).imp (fun w => by rw [q] at w; cases w) (fun w j hj => ?_)
      rcases List.mem_cons.mp hj with y | y
      · omega
      · exact w j y
  have hnO : ovC u8 = false → nC v ∉ G.2.2.2.2 := by
    intro q w
    rcases og with o | o
    · rw [ov_le a1.2.2.1.2.2.1 o] at q
      cases q
    · have := o _ w
      have : (nC v : Int) = (v.1 0 321).toInt ∨ (v.1 0 321).toInt < 0 := by unfold nC Int32.toNatClampNeg; omega
      omega
  have tp8 : TPO u8 := tpo_fr k1.1 (by decide) tp
  have tail : ∀ (w u3 u4 u5 : MS) (n y : Int32), JC L2 e w → KB r9.toNatClampNeg u8 w → (ovC u8 = false → w.1 320 (nC v) = n) → Q_x_X9_expect L1 L2 w 31 false u3 → K_x_X9_expect w 31 u3 → Q_x_X9_close L1 L2 u3 u4 → K_x_X9_close u3 u4 → Q_x_X1_add L1 L2 (wA u4 0 314 (u4.1 0 314 - n)) 21 r9 y u5 → K_x_X1_add (wA u4 0 314 (u4.1 0 314 - n)) 21 r9 y u5 → (bd (tExp 31 e (aC (gO G (nC v)) w)) fun s3 => .ok (tEndCall (pCa (aC G v)).length n (sPb (tClose s3) (pPb s3 - n)))) = .ok (aC G u5) ∧ JC L2 e u5 ∧ KB r9.toNatClampNeg u8 u5 := by
    intro w u3 u4 u5 n y jw kw hn h2 k2 h3 k3 h4 k4
    have b2 := cExpm (G := gO G (nC v)) (m := 31) (by decide) h2 (fun _ => k2) jw
    have b3 := cClose (G := gO G (nC v)) h3 k3 b2.jj
    have kk := kw.tr (((b2.kk.tr b3.2.2).tr (kPb (y := u4.1 0 314 - n))).b _)
    have b4 := cEndCall (G := G) (c := nC v) (n := n) h4 k4 (jPb b3.2.1) (fun no => by
      cases q : ovC u8 with
      | true => exact absurd (ov_le kk.2.2.1 q) no
      | false => exact (natI (a1.2.2.2.1 q).2.2.2.2.1).symm.trans (congrArg Int.ofNat (a1.2.2.2.1 q).1)) (by
      cases q : ovC u8 with
      | true => exact Or.inl (ov_le kk.2.2.1 q)
      | false =>
        have b := a1.2.2.2.1 q
        have z8 : (nC u8 : Int) = (u8.1 0 321).toInt := natI k1.2.1.1
        have l8 : (nC v : Int) < (w.1 0 321).toInt := by have := kw.2.2.1; omega
        refine Or.inr ⟨(((b2.kk.tr b3.2.2).tr (kPb (y := u4.1 0 314 - n))).2.2.2 _ b.2.1 l8).trans (hn q), ?_, hnO q⟩
        have l9 := kk.2.2.1
        unfold nC Int32.toNatClampNeg at *
        omega)
    refine ⟨?_, b4.2.1, kk.tr (b4.2.2.b _)⟩
    have q : u4.1 0 314 = pPb (aC (gO G (nC v)) u3) := congrArg pPb b3.1
    rw [b2.eo, bd_ok, b4.1, aPb, b3.1, q]
    cases qo : ovC u8 with
    | false => rw [(a1.2.2.2.1 qo).2.2.2.2.2]
    | true =>
      have o3 : pOv (sPb (tClose (aC (gO G (nC v)) u3)) (pPb (aC (gO G (nC v)) u3) - n)) = true := ov_le (kw.tr (b2.kk.b _)).2.2.1 qo
      unfold tEndCall
      rw [if_pos o3, if_pos o3]
  have hkp : ∀ w : MS, KB r9.toNatClampNeg u8 w → KP v w := by
    intro w k
    have p := a1.2.2.1
    exact ⟨k.1.trans p.1, fun j hj => ⟨((k.2.1 j (by rw [p.1]; exact hj)).1).trans (p.2.1 j hj).1, ((k.2.1 j (by rw [p.1]; exact hj)).2).trans (p.2.1 j hj).2⟩, Int.le_trans p.2.2.1 k.2.2.1, fun j h5 h6 => (k.2.2.2 j h5 (Int.lt_of_lt_of_le h6 p.2.2.1) (nk j h6 h5)).trans (p.2.2.2 j h5 h6)⟩
  have E0 : tCall E e (aC G v) = bd (tTake e (aC (gO G (nC v)) u8)) fun s1 => bd (tOpen e s1) fun s2 => bd (if (kd e s2).toInt = 31 then .ok (0, s2) else tArgs E 1502 0 e s2) fun q => bd (tExp 31 e q.2) fun s3 => .ok (tEndCall (pCa (aC G v)).length q.1 (sPb (tClose s3) (pPb s3 - q.1))) := by
    unfold tCall
    rw [a1.1]
  rcases h with ⟨u9, h2, rfl, rfl⟩ | ⟨u18, h2, k2, h⟩
  · exact Or.inr ⟨rfl, by rw [E0, (cTake h2 nom a1.2.1).ex, bd_er]⟩
  have a2 := cTake (G := gO G (nC v)) h2 (fun _ => k2) a1.2.1
  rw [a2.eo, bd_ok] at E0
  rcases h with ⟨u9, h3, rfl, rfl⟩ | ⟨u25, h3, k3, r30, h4, h⟩
  · exact Or.inr ⟨rfl, by rw [E0, (cOpen h3 nom a2.jj).ex, bd_er]⟩
  have a3 := cOpen (G := gO G (nC v)) h3 (fun _ => k3) a2.jj
  rw [a3.eo, bd_ok] at E0
  have a4 := cKind (G := gO G (nC v)) h4 a3.jj
  have kp25 := a2.kk.tr a3.kk
  have kb25 : KB r9.toNatClampNeg u8 u25 := kp25.b _
  have tp25 : TPE u25 := tp_open k3 (tpo_fr k2.1 (by decide) tp8)
  have og25 := og8.kp kp25
  have lt8 : ovC u8 = false → nC v < 500 ∧ (nC v : Int) < (u8.1 0 321).toInt := fun q => by
    have b := a1.2.2.2.1 q
    have z8 : (nC u8 : Int) = (u8.1 0 321).toInt := natI k1.2.1.1
    exact ⟨b.2.1, by omega⟩
  have arg25 : ovC u8 = false → u25.1 320 (nC v) = 0 := fun q => (kp25.2.2.2 _ (lt8 q).1 (lt8 q).2).trans (a1.2.2.2.1 q).2.2.2.1
  rcases h with ⟨q, h⟩ | ⟨q, h⟩
  · rw [if_pos (by rw [← a4]; exact q), bd_ok] at E0
    rcases h with ⟨u9, h5, rfl, rfl⟩ | ⟨u35, h5, k5, u39, h6, k6, u47, h7, k7, rfl, rfl⟩
    · exact Or.inr ⟨rfl, by rw [E0, (cExpm (by decide) h5 nom a3.jj).ex, bd_er]⟩
    · have T := tail u25 u35 u39 _ 0 r13 a3.jj kb25 arg25 h5 k5 h6 k6 h7 k7
      exact Or.inl ⟨rfl, by rw [E0]; exact T.1, T.2.1, hkp _ T.2.2⟩
  rw [if_neg (by rw [← a4]; exact q)] at E0
  rcases h with ⟨u9, h5, rfl, rfl⟩ | ⟨u87, h5, k5, ar, ka, w, hr, -, hi5, -, -, -, -, hka, hrs, -, -, -, -, h⟩
  · have b5 := (cArg hE h5 a3.jj og25 tp25 hc0 (hcO u25 kb25.2.2.1)).2 rfl
    exact Or.inr ⟨rfl, by rw [E0, tArgs_eq, b5, bd_er, bd_er]⟩
  have b5 := (cArg (G := gO G (nC v)) hE h5 a3.jj og25 tp25 hc0 (hcO u25 kb25.2.2.1)).1 rfl
  have inv : JC L2 e w ∧ KB r9.toNatClampNeg u8 w ∧ TPE w ∧ ar = ka ∧ 1 ≤ ka.toInt ∧ 2 * ka.toInt ≤ (w.1 0 305).toInt ∧ (ovC u8 = false → w.1 320 (nC v) = ka) ∧ ∃ f : Nat, (f : Int) + ka.toInt = 1502 ∧ tArgs E 1502 0 e (aC (gO G (nC v)) u25) = tMore E f ka e (aC (gO G (nC v)) w) := by
    refine RT.ind (fun (x : Int32 × Int32 × MS) => JC L2 e x.2.2 ∧ KB r9.toNatClampNeg u8 x.2.2 ∧ TPE x.2.2 ∧ x.1 = x.2.1 ∧ 1 ≤ x.2.1.toInt ∧ 2 * x.2.1.toInt ≤ (x.2.2.1 0 305).toInt ∧ (ovC u8 = false → x.2.2.1 320 (nC v) = x.2.1) ∧ ∃ f : Nat, (f : Int) + x.2.1.toInt = 1502 ∧ tArgs E 1502 0 e (aC (gO G (nC v)) u25) = tMore E f x.2.1 e (aC (gO G (nC v)) x.2.2)) hr ?_ ?_
    · have t1 : (1 : Int32).toInt = 1 := by decide
      refine ⟨b5.2.1, kb25.tr b5.2.2.1, ?_, rfl, by rw [t1]; omega, ?_, fun q1 => ?_, 1501, by rw [t1]; rfl, by rw [tArgs_eq, b5.1, bd_ok]; rfl⟩
      · show TPE u87
        unfold TPE at *
        rw [b5.2.2.1.1]
        have := k5.2.2.2.2.2.2.2.2.2.1
        omega
      · have := k5.2.2.2.2.2.2.2.1
        have := k3.2.2.2.2.1
        have := k2.2.2.1
        have := k2.2.1
        have z8 : (0 : Int) ≤ (u8.1 0 305).toInt := h2.2.1.1
        rw [t1]
        show 2 * 1 ≤ (u87.1 0 305).toInt
        omega
      · have b := a1.2.2.2.1 q1
        have l := lt8 q1
        have e1 := b5.2.2.2 (by rw [b.1]; exact l.1) (by rw [b.1]; exact Int.lt_of_lt_of_le l.2 kb25.2.2.1)
        rw [b.1, arg25 q1] at e1
        exact e1.trans (show (0 : Int32) + 1 = 1 by decide)
    · rintro ⟨ar1, ka1, w1⟩ y - ⟨j1, kb1, tp1, ea1, g1, g2, c1, f1, f2, f3⟩ hy
      obtain ⟨-, i5, -, -, -, -, -, -, -, -, -, -, lt, r121, hk1, q37, u152, h6, k6, u166, h7, k7, rfl⟩ := hy
      have j1 : JC L2 e w1 := j1
      have kb1 : KB r9.toNatClampNeg u8 w1 := kb1
      have tp1 : TPE w1 := tp1
      have g1 : 1 ≤ ka1.toInt := g1
      have g2 : 2 * ka1.toInt ≤ (w1.1 0 305).toInt := g2
      have f2 : (f1 : Int) + ka1.toInt = 1502 := f2
      have b6 := cTake (G := gO G (nC v)) h6 (fun _ => k6) j1
      have kb6 := kb1.tr (b6.kk.b _)
      have og6 := og8.le kb6.2.2.1
      have tp6 : TPE u152 := tpe_fr k6.1 (by decide) tp1
      have b7 := (cArg (G := gO G (nC v)) hE h7 b6.jj og6 tp6 hc0 (hcO u152 kb6.2.2.1)).1 rfl
      have ke : (ka1 + (1 : Int32)).toInt = ka1.toInt + 1 := add_z rfl (by decide) (by omega) (by have := lt; omega)
      have hk2 := cKind (G := gO G (nC v)) hk1 j1
      refine ⟨b7.2.1, kb6.tr b7.2.2.1, ?_, ?_, ?_, ?_, fun q1 => ?_, f1 - 1, ?_, ?_⟩
      · show TPE u166
        unfold TPE at *
        rw [b7.2.2.1.1]
        have := k7.2.2.2.2.2.2.2.2.2.1
        omega
      · show ar1 + 1 = ka1 + 1
        rw [show ar1 = ka1 from ea1]
      · show 1 ≤ (ka1 + (1 : Int32)).toInt
        omega
      · show 2 * (ka1 + (1 : Int32)).toInt ≤ (u166.1 0 305).toInt
        have := k7.2.2.2.2.2.2.2.1
        have := k6.2.2.1
        omega
      · show u166.1 320 (nC v) = ka1 + 1
        have b := a1.2.2.2.1 q1
        have l := lt8 q1
        have e1 := b7.2.2.2 (by rw [b.1]; exact l.1) (by rw [b.1]; exact Int.lt_of_lt_of_le l.2 kb6.2.2.1)
        have e2 : u152.1 320 (nC v) = w1.1 320 (nC v) := b6.kk.2.2.2 _ l.1 (Int.lt_of_lt_of_le l.2 kb1.2.2.1)
        rw [b.1, e2, show w1.1 320 (nC v) = ka1 from c1 q1] at e1
        exact e1
      · show ((f1 - 1 : Nat) : Int) + (ka1 + (1 : Int32)).toInt = 1502
        have lt : ka1.toInt < 1500 := lt
        omega
      · have lt : ka1.toInt < 1500 := lt
        have fe : f1 = (f1 - 1) + 1 := by omega
        refine f3.trans ?_
        show tMore E f1 ka1 e (aC (gO G (nC v)) w1) = tMore E (f1 - 1) (ka1 + 1) e (aC (gO G (nC v)) u166)
        conv => lhs; unfold tMore
        rw [if_pos (by rw [← hk2]; exact q37), b6.eo, bd_ok]
        conv => lhs; rw [fe]
        rw [tArgs_eq, b7.1, bd_ok]
  obtain ⟨jw, kw, tw, rfl, g1, g2, cw, f1, f2, f3⟩ := inv
  rw [f3] at E0
  rcases h with ⟨q5, -⟩ | ⟨q5, r121, hk1, h⟩
  · omega
  have hk2 := cKind (G := gO G (nC v)) hk1 jw
  rcases h with ⟨q7, h⟩ | ⟨q7, h⟩
  · unfold tMore at E0
    rw [if_neg (by rw [← hk2]; exact q7), bd_ok] at E0
    rcases h with ⟨u9, h5, rfl, rfl⟩ | ⟨u35, h6, k6, u39, h7, k7, u47, h8, k8, rfl, rfl⟩
    · exact Or.inr ⟨rfl, by rw [E0, (cExpm (by decide) h5 nom jw).ex, bd_er]⟩
    · have T := tail w u35 u39 _ ar r13 jw kw cw h6 k6 h7 k7 h8 k8
      exact Or.inl ⟨rfl, by rw [E0]; exact T.1, T.2.1, hkp _ T.2.2⟩
  · unfold tMore at E0
    rw [if_pos (by rw [← hk2]; exact q7)] at E0
    rcases h with ⟨u9, h5, rfl, rfl⟩ | ⟨u152, h6, k6, u9, h7, rfl, rfl⟩
    · exact Or.inr ⟨rfl, by rw [E0, (cTake h5 nom jw).ex, bd_er, bd_er]⟩
    · have b6 := cTake (G := gO G (nC v)) h6 (fun _ => k6) jw
      have kb6 := kw.tr (b6.kk.b _)
      have b7 := (cArg (G := gO G (nC v)) hE h7 b6.jj (og8.le kb6.2.2.1) (tpe_fr k6.1 (by decide) tw) hc0 (hcO u152 kb6.2.2.1)).2 rfl
      have fe : f1 = (f1 - 1) + 1 := by omega
      refine Or.inr ⟨rfl, ?_⟩
      rw [E0, b6.eo, bd_ok, fe, tArgs_eq, b7, bd_er, bd_er]
end CC4
