/-! the reference's words: what a statement leaves -/
def gWw (v : MS) : Bool × Int32 × Bool := (decide ((v.1 0 55).toInt = -1), v.1 0 55, decide ((v.1 0 52).toInt ≠ 0))
def SAw (K : TK) (v u : MS) (a : List EV) : Prop := (BDw v (lwL a) → ((u.1 0 12).toInt = (v.1 0 12).toInt + lwL a ∧ WFq v u ∧ CWq v u ∧ MWq K u (v.1 0 39).toInt (gWw v) (v.1 0 12).toNatClampNeg (v.1 0 53) (v.1 0 57) (v.1 0 59) a ∧ FQq v u (fxL (v.1 0 12).toNatClampNeg a)) ∧ (u.1 0 53 = chw 30 (v.1 0 53) (v.1 0 12).toNatClampNeg a ∧ ((v.1 0 55).toInt = -1 → u.1 0 57 = chw 31 (v.1 0 57) (v.1 0 12).toNatClampNeg a) ∧ u.1 0 59 = chw 32 (v.1 0 59) (v.1 0 12).toNatClampNeg a)) ∧ (u.1 0 52 = v.1 0 52 ∧ u.1 0 55 = v.1 0 55) ∧ (∀ b ∈ [61, 63, 65], ∀ j : Nat, (j : Int) < (v.1 0 52).toInt → u.1 b j = v.1 b j)
def SOw (n : Int) (K : TK) (e : PE) (v u : MS) (a : List EV) : Prop := (JM n K e u ∧ ND u) ∧ SAw K v u a ∧ (u.1 0 32 = v.1 0 32 ∧ (v.1 0 30).toInt ≤ (u.1 0 30).toInt ∧ ∀ j : Nat, (j : Int) < (v.1 0 30).toInt → u.1 29 j = v.1 29 j)
def XWs (n : Int) (K : TK) (c : RM1) (S : EvS) : Prop := ∀ (e : PE) (v u : MS), c v false u → K_m_statement v u → JM n K e v → ND v → ∃ a, S e (knM K v) (v.1 0 32) (v.1 0 47) = some (a, knM K u, u.1 0 47) ∧ SOw n K e v u a
section ZWZ
variable {n : Int} {K : TK} {e : PE} {v u w x y : MS} {a b d a0 : List EV} {q : EV} {r pa pb pd : Int32} {c : RM1} {E : EvE} {S : EvS} {Es : FE} {k : Nat} {P : Prop}
theorem MWq.cc {cl : Int} {g : Bool × Int32 × Bool} (hg : g.1 = false) : ∀ (a : List EV) {p : Nat} {b c c' d : Int32}, MWq K u cl g p b c d a → MWq K u cl g p b c' d a
  | [], _, _, _, _, _, _ => trivial
  | q :: l, p, b, c, c', d, h => by
    refine ⟨?_, MWq.cc hg l h.2⟩
    have h1 := h.1
    unfold mwE at h1 ⊢
    rw [hg, if_neg Bool.false_ne_true] at h1 ⊢
    exact h1
theorem SAw.tr (h : SAw K v u a) (k : SAw K u w b) (_h0 : P := by exact True.intro) : SAw K v w (a ++ b) := by
  obtain ⟨ha, ⟨a7, a8⟩, a10⟩ := h
  obtain ⟨hb, ⟨b7, b8⟩, b10⟩ := k
  refine ⟨fun B => ?_, ⟨b7.trans a7, b8.trans a8⟩, fun B hB j hj => (b10 B hB j (by rw [a7]; exact hj)).trans (a10 B hB j hj)⟩
  obtain ⟨q1, q2, q3⟩ := B
  rw [lwL_app] at q2
  obtain ⟨⟨a1, a2, a3, a4, af⟩, a5, a6, ar⟩ := ha ⟨q1, by omega, q3⟩
  have q4 := a2.2.1.1
  obtain ⟨⟨b1, b2, b3, b4, bf⟩, b5, b6, br⟩ := hb ⟨by omega, by omega, by omega⟩
  have n1 := natI q1
  have n2 := natI (a := u.1 0 12) (by omega)
  have eg : gWw u = gWw v := by unfold gWw; rw [a7, a8]
  have ep : (u.1 0 12).toNatClampNeg = (v.1 0 12).toNatClampNeg + lwL a := by omega
  rw [eg, ep, a5, ar] at b4
  rw [ep, a5] at b5
  rw [ep] at b6 bf
  rw [ep, ar] at br
  refine ⟨⟨by rw [lwL_app]; omega, a2.tr b2, a3.tr b3 a2 b2, MWq.app a (MWq.up b2 (Int.le_refl _) a a4) ?_, ?_⟩, by rw [chw_app]; exact b5, fun q => ?_, by rw [chw_app]; exact br⟩
  · have M := MWq.up (WFq.rf (v := w)) a2.2.2.1.1 b b4
    by_cases q : (v.1 0 55).toInt = -1
    · rw [a6 q] at M
      exact M
    · exact MWq.cc (decide_eq_false q) b M
  · rw [fxL_app]
    exact af.tr bf b2 q3
  · rw [chw_app, b6 (by rw [a8]; exact q), a6 q]
theorem SAw.oa (A : WAi K v u a) (h52 : u.1 0 52 = v.1 0 52) (h53 : u.1 0 53 = v.1 0 53) (h55 : u.1 0 55 = v.1 0 55) (h57 : u.1 0 57 = v.1 0 57) (h59 : u.1 0 59 = v.1 0 59) (h61 : u.1 61 = v.1 61) (h63 : u.1 63 = v.1 63) (h65 : u.1 65 = v.1 65) : SAw K v u a := by
  refine ⟨fun B => ?_, ⟨h52, h55⟩, fun b hb j _ => ?_⟩
  · obtain ⟨a1, a2, a3, a4, a5⟩ := A B
    have M := MWq.mo (g := gWw v) a (b := v.1 0 53) (c := v.1 0 57) (d := v.1 0 59) a4
    exact ⟨⟨a1, a2, a3, M.1, a5⟩, by rw [M.2.1]; exact h53, fun _ => by rw [M.2.2.1]; exact h57, by rw [M.2.2.2]; exact h59⟩
  simp only [List.mem_cons, List.not_mem_nil, or_false] at hb
  rcases hb with rfl | rfl | rfl
  · rw [h61]
  · rw [h63]
  · rw [h65]
theorem SAw.fg {fl al : List Nat} (A : WAi K v u a) (f : FG fl al v u) (g1 : 52 ∉ fl ∧ 53 ∉ fl ∧ 55 ∉ fl ∧ 57 ∉ fl ∧ 59 ∉ fl := by decide) (g2 : 61 ∉ al ∧ 63 ∉ al ∧ 65 ∉ al := by decide) : SAw K v u a := SAw.oa A (f.2.1 52 g1.1) (f.2.1 53 g1.2.1) (f.2.1 55 g1.2.2.1) (f.2.1 57 g1.2.2.2.1) (f.2.1 59 g1.2.2.2.2) (f.2.2 61 g2.1) (f.2.2 63 g2.2.1) (f.2.2 65 g2.2.2)
theorem SAw.rf : SAw K v v [] := SAw.oa WAi.rf rfl rfl rfl rfl rfl rfl rfl rfl
theorem SAw.nt (h : SAw K v u a) (k : SAw K u w []) (_h0 : P := by exact True.intro) : SAw K v w a := by
  have T := h.tr k
  rw [List.append_nil] at T
  exact T
theorem SAw.tn (h : SAw K v u []) (k : SAw K u w a) (_h0 : P := by exact True.intro) : SAw K v w a := h.tr k
theorem SOw.tr (h : SOw n K e v u a) (k : SOw n K e u w b) (_h0 : P := by exact True.intro) : SOw n K e v w (a ++ b) := ⟨k.1, h.2.1.tr k.2.1, k.2.2.1.trans h.2.2.1, Int.le_trans h.2.2.2.1 k.2.2.2.1, fun j hj => (k.2.2.2.2 j (by have := h.2.2.2.1; omega)).trans (h.2.2.2.2 j hj)⟩
theorem wDrop : WAi K v v [evx 25 0 0] := WAi.no rfl (fun _ => rfl) rfl
/-- an expression and ';' -/
theorem oPlainW (hX : XWe n K (QME k) E) (hE : HME n K (QME k) Es) (h : Q_m_plain k v false u) (J : JM n K e v) : ∃ a, ((E true e (knM K v) (v.1 0 32) (v.1 0 47)).bind fun q => (gTok e 36 q.2).bind fun j => some (q.1 ++ [evx 25 0 0], knM K v, j)) = some (a, knM K u, u.1 0 47) ∧ SOw n K e v u a := by
  have JU := (rPlain (g := g00) hE h J rfl).jj
  obtain ⟨z1, z2, z3, z4, z5, z6, z15, z8, z9, z10, -, -, -, -, h⟩ := h
  rcases h with ⟨u9, -, f9, -⟩ | ⟨u2, h2, k2, ⟨u9, -, f9, -⟩ | ⟨h3, -, -, eu⟩⟩
  · cases f9
  · cases f9
  obtain ⟨a, x1, x2⟩ := hX e v u2 h2 k2 J
  have N := oNeed (q := (59, 36)) (m := 36) h3 x2.1 (by decide) rfl (by decide)
  have A1 : WAi K u2 u [evx 25 0 0] := by
    rw [eu]
    exact wDrop.nt (WAi.sm rfl rfl)
  have g29 : u.1 29 = v.1 29 := by rw [eu]; exact x2.2.2.1
  have g30 : u.1 0 30 = v.1 0 30 := by rw [eu]; exact x2.2.2.2.1
  refine ⟨_, ?_, ⟨JU.1, JU.2.2⟩, (SAw.fg x2.2.1 k2.1).tr (by rw [eu] at A1 ⊢; exact SAw.oa A1 rfl rfl rfl rfl rfl rfl rfl rfl), by rw [eu]; exact x2.2.2.2.2, by rw [g30]; exact Int.le_refl _, fun j _ => by rw [g29]⟩
  rw [x1, Option.bind_some]
  show (gTok e 36 (u2.1 0 47)).bind _ = _
  rw [gTok_of N.2, Option.bind_some, knM_of g29 g30, eu]
  rfl
end ZWZ
