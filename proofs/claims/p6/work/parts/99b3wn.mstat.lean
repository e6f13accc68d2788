/-! the reference's orders: what a statement leaves -/
def gWq (v : MS) : Bool × Int32 × Bool := (decide ((v.1 0 55).toInt = -1), v.1 0 56, decide ((v.1 0 52).toInt ≠ 0))
def SAq (K : TK) (v u : MS) (a : List EV) : Prop := ((u.1 0 15).toInt = (v.1 0 15).toInt + loL a ∧ OF v u ∧ CJ v u ∧ MSq K u (v.1 0 39).toInt (gWq v) (v.1 0 15).toNatClampNeg (v.1 0 54) (v.1 0 58) a) ∧ (u.1 0 54 = chn 30 (v.1 0 54) (v.1 0 15).toNatClampNeg a ∧ ((v.1 0 55).toInt = -1 → u.1 0 58 = chn 31 (v.1 0 58) (v.1 0 15).toNatClampNeg a)) ∧ (u.1 0 52 = v.1 0 52 ∧ u.1 0 55 = v.1 0 55 ∧ u.1 0 56 = v.1 0 56) ∧ (∀ b ∈ [62, 64, 66, 63], ∀ j : Nat, (j : Int) < (v.1 0 52).toInt → u.1 b j = v.1 b j)
def SOq (n : Int) (K : TK) (e : PE) (v u : MS) (a : List EV) : Prop := (JM n K e u ∧ ND u) ∧ SAq K v u a ∧ (u.1 0 32 = v.1 0 32 ∧ (v.1 0 30).toInt ≤ (u.1 0 30).toInt ∧ ∀ j : Nat, (j : Int) < (v.1 0 30).toInt → u.1 29 j = v.1 29 j)
def XMs9 (n : Int) (K : TK) (c : RM1) (S : EvS) : Prop := ∀ (e : PE) (v u : MS), c v false u → K_m_statement v u → JM n K e v → ND v → 0 ≤ (v.1 0 15).toInt → ∃ a, S e (knM K v) (v.1 0 32) (v.1 0 47) = some (a, knM K u, u.1 0 47) ∧ SOq n K e v u a
def gLq (v : MS) : GM := (decide ((v.1 0 52).toInt ≠ 0), [])
theorem gLq_lo (v : MS) : (gLq v).1 = true ↔ (v.1 0 52).toInt ≠ 0 := decide_eq_true_iff
section WNS
variable {n : Int} {K : TK} {e : PE} {v u w x y : MS} {a b d a0 : List EV} {q : EV} {r pa pb pd : Int32} {c : RM1} {E : EvE} {S : EvS} {Es : FE} {k : Nat}
theorem MSq.cc {cl : Int} {g : Bool × Int32 × Bool} (hg : g.1 = false) : ∀ (a : List EV) {p : Nat} {b c c' : Int32}, MSq K u cl g p b c a → MSq K u cl g p b c' a
  | [], _, _, _, _, _ => trivial
  | q :: l, p, b, c, c', h => by
    refine ⟨?_, MSq.cc hg l h.2⟩
    have h1 := h.1
    unfold msE at h1 ⊢
    rw [hg, if_neg Bool.false_ne_true] at h1 ⊢
    exact h1
theorem SAq.tr (h : SAq K v u a) (k : SAq K u w b) (h0 : 0 ≤ (v.1 0 15).toInt) : SAq K v w (a ++ b) := by
  obtain ⟨⟨a1, a2, a3, a4⟩, ⟨a5, a6⟩, ⟨a7, a8, a9⟩, a10⟩ := h
  obtain ⟨⟨b1, b2, b3, b4⟩, ⟨b5, b6⟩, ⟨b7, b8, b9⟩, b10⟩ := k
  have n1 := natI h0
  have n2 := natI (a := u.1 0 15) (by omega)
  have eg : gWq u = gWq v := by unfold gWq; rw [a7, a8, a9]
  have ep : (u.1 0 15).toNatClampNeg = (v.1 0 15).toNatClampNeg + loL a := by omega
  rw [eg, ep, a5] at b4
  rw [ep, a5] at b5
  rw [ep] at b6
  refine ⟨⟨by rw [loL_app]; omega, a2.tr b2, a3.tr b3 a2 b2, MSq.app a (MSq.up b2 (Int.le_refl _) a a4) ?_⟩, ⟨by rw [chn_app]; exact b5, fun q => ?_⟩, ⟨b7.trans a7, b8.trans a8, b9.trans a9⟩, fun B hB j hj => (b10 B hB j (by rw [a7]; exact hj)).trans (a10 B hB j hj)⟩
  · have M := MSq.up (OF.rf (v := w)) a2.2.1.1 b b4
    by_cases q : (v.1 0 55).toInt = -1
    · rw [a6 q] at M
      exact M
    · exact MSq.cc (decide_eq_false q) b M
  · rw [chn_app, b6 (by rw [a8]; exact q), a6 q]
theorem SAq.oa (A : OA K v u a) (h52 : u.1 0 52 = v.1 0 52) (h54 : u.1 0 54 = v.1 0 54) (h55 : u.1 0 55 = v.1 0 55) (h56 : u.1 0 56 = v.1 0 56) (h58 : u.1 0 58 = v.1 0 58) (h62 : u.1 62 = v.1 62) (h63 : u.1 63 = v.1 63) (h64 : u.1 64 = v.1 64) (h66 : u.1 66 = v.1 66) : SAq K v u a := by
  obtain ⟨a1, a2, a3, a4⟩ := A
  have M := MSq.mo (g := gWq v) a (b := v.1 0 54) (c := v.1 0 58) a4
  refine ⟨⟨a1, a2, a3, M.1⟩, ⟨by rw [M.2.1]; exact h54, fun _ => by rw [M.2.2]; exact h58⟩, ⟨h52, h55, h56⟩, fun b hb j _ => ?_⟩
  simp only [List.mem_cons, List.not_mem_nil, or_false] at hb
  rcases hb with rfl | rfl | rfl | rfl
  · rw [h62]
  · rw [h64]
  · rw [h66]
  · rw [h63]
theorem SAq.fg {fl al : List Nat} (A : OA K v u a) (f : FG fl al v u) (g1 : 52 ∉ fl ∧ 54 ∉ fl ∧ 55 ∉ fl ∧ 56 ∉ fl ∧ 58 ∉ fl := by decide) (g2 : 62 ∉ al ∧ 63 ∉ al ∧ 64 ∉ al ∧ 66 ∉ al := by decide) : SAq K v u a := SAq.oa A (f.2.1 52 g1.1) (f.2.1 54 g1.2.1) (f.2.1 55 g1.2.2.1) (f.2.1 56 g1.2.2.2.1) (f.2.1 58 g1.2.2.2.2) (f.2.2 62 g2.1) (f.2.2 63 g2.2.1) (f.2.2 64 g2.2.2.1) (f.2.2 66 g2.2.2.2)
theorem SAq.rf : SAq K v v [] := SAq.oa OA.rf rfl rfl rfl rfl rfl rfl rfl rfl rfl
theorem SAq.nt (h : SAq K v u a) (k : SAq K u w []) (h0 : 0 ≤ (v.1 0 15).toInt) : SAq K v w a := by
  have T := h.tr k h0
  rw [List.append_nil] at T
  exact T
theorem SAq.tn (h : SAq K v u []) (k : SAq K u w a) (h0 : 0 ≤ (v.1 0 15).toInt) : SAq K v w a := h.tr k h0
theorem SOq.tr (h : SOq n K e v u a) (k : SOq n K e u w b) (h0 : 0 ≤ (v.1 0 15).toInt) : SOq n K e v w (a ++ b) := ⟨k.1, h.2.1.tr k.2.1 h0, k.2.2.1.trans h.2.2.1, Int.le_trans h.2.2.2.1 k.2.2.2.1, fun j hj => (k.2.2.2.2 j (by have := h.2.2.2.1; omega)).trans (h.2.2.2.2 j hj)⟩
/-- an expression and ';' -/
theorem oPlain (hX : XMe n K (QME k) E) (hE : HME n K (QME k) Es) (h : Q_m_plain k v false u) (J : JM n K e v) : ∃ a, ((E true e (knM K v) (v.1 0 32) (v.1 0 47)).bind fun q => (gTok e 36 q.2).bind fun j => some (q.1 ++ [evx 25 0 0], knM K v, j)) = some (a, knM K u, u.1 0 47) ∧ SOq n K e v u a := by
  have JU := (rPlain (g := g00) hE h J rfl).jj
  obtain ⟨z1, z2, z3, z4, z5, z6, z15, z8, z9, z10, -, -, -, -, h⟩ := h
  rcases h with ⟨u9, -, f9, -⟩ | ⟨u2, h2, k2, ⟨u9, -, f9, -⟩ | ⟨h3, -, -, eu⟩⟩
  · cases f9
  · cases f9
  obtain ⟨a, x1, x2⟩ := hX e v u2 h2 k2 J z15.1
  have N := oNeed (q := (59, 36)) (m := 36) h3 x2.1 (by decide) rfl (by decide)
  have l15 := k2.2.2.2.2.1
  have l47 := k2.2.1.2
  have A1 : OA K u2 u [evx 25 0 0] := by
    rw [eu]
    exact OA.say (o := 9) (z := 0) rfl rfl rfl ⟨by omega, by omega⟩ rfl rfl ⟨rfl, rfl, rfl⟩ loE1 rfl (show upd (u2.1 14) _ 0 _ = 0 from updS)
  have g29 : u.1 29 = v.1 29 := by rw [eu]; exact x2.2.2.1
  have g30 : u.1 0 30 = v.1 0 30 := by rw [eu]; exact x2.2.2.2.1
  refine ⟨_, ?_, ⟨JU.1, JU.2.2⟩, (SAq.fg x2.2.1 k2.1).tr (by rw [eu] at A1 ⊢; exact SAq.oa A1 rfl rfl rfl rfl rfl rfl rfl rfl rfl) z15.1, by rw [eu]; exact x2.2.2.2.2, by rw [g30]; exact Int.le_refl _, fun j _ => by rw [g29]⟩
  rw [x1, Option.bind_some]
  show (gTok e 36 (u2.1 0 47)).bind _ = _
  rw [gTok_of N.2, Option.bind_some, knM_of g29 g30, eu]
  rfl
end WNS
