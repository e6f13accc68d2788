/-! both meanings to their ends -/
theorem RTn.hd {α : Type} {R : α → α → Prop} : ∀ (n : Nat) (a b : α), RTn R (n + 1) a b → ∃ c, R a c ∧ RTn R n c b
  | 0, a, b, h => by
    obtain ⟨c, hc, k⟩ := h
    have e : a = c := hc
    exact ⟨b, by rw [e]; exact k, rfl⟩
  | n + 1, a, b, h => by
    obtain ⟨c, hc, k⟩ := h
    obtain ⟨d, h1, h2⟩ := RTn.hd n a c hc
    exact ⟨d, h1, c, h2, k⟩
theorem RT.mn {α : Type} {R R' : α → α → Prop} {a b : α} (h : RT R a b) (k : ∀ x y, R x y → R' x y) : RT R' a b := RT.ind (fun x => RT R' a x) h RT.rf (fun x y _ p r => p.st (k x y r))
def RCp (L1 L2 : List Nat) (N : Nat) (v0 : MS) (x y : Int32 × MS) : Prop := AG v0 x.2 ∧ (x.1.toInt < 1000000000 ∧ 0 ≤ x.1.toInt) ∧ (x.2.1 0 362).toInt = -1 ∧ ∃ u, Q_x_X10_doDeed L1 L2 N x.2 u ∧ y = (x.1 + 1, u)
def RMp (N : Nat) (w0 : MS) (x y : MS) : Prop := AGM w0 x ∧ (∃ T E h, MI T E h x (x.1 0 112)) ∧ (x.1 0 121).toInt = -1 ∧ ∃ r u, Q_m_obey x N r u ∧ y = wA u 0 121 r
section YLR
variable {g : GC} {N : Nat} {ng lim : Int} {L1 L2 : List Nat} {K : TK} {fn : Nat → Int32} {v0 w0 : MS} {ka : Int} {v w : MS}
theorem simK (G : PGF g N ng lim L1 L2 K fn v0 w0) (h : SIM g N ng lim v0 w0 ka v w) (h13 : (w.1 0 113).toInt ≤ (w0.1 0 114).toInt) : ka < 1000000000 ∧ v.1 0 362 = -1 ∧ w.1 0 121 = -1 := by
  have hr : ∀ f i, zOk g f i → 0 ≤ zRk g f i := fun f i hf => (G.1 f i hf).1.2.1
  have p0 : 0 ≤ PTT w0 w := by
    unfold PTT
    omega
  rcases h with ⟨f, i, k, B, b, p, ok, S, -, hP⟩ | ⟨c, k, B, b, p, ok, S, -, -, hP⟩ | ⟨f, k, B, b, p, kc, fl, S, -, -, hP⟩
  · have := (SKf.p0 hr k f B b p S.2.2.2.2.2.1).1
    have := hr f i ok
    exact ⟨by omega, S.1⟩
  · have := (SKf.p0 hr k c B b p S.2.2.2.2.2.1).1
    have := hr c 0 ok
    exact ⟨by omega, S.1⟩
  · have := (SKf.p0 hr k f B b p S.2.2.2.2.2.1).1
    exact ⟨by omega, S.1⟩
theorem m1_i {x : Int32} (h : x ≠ -1) : x.toInt ≠ -1 := fun z => h (Int32.toInt_inj.mp (z.trans (by decide)))
theorem simSt {x : MS} (G : PGF g N ng lim L1 L2 K fn v0 w0) (h : SIM g N ng lim v0 w0 ka v w) : w.1 0 121 = -1 := by
  rcases h with ⟨f, i, k, B, b, p, ok, S, -, hP⟩ | ⟨c, k, B, b, p, ok, S, -, -, hP⟩ | ⟨f, k, B, b, p, kc, fl, S, -, -, hP⟩
  · exact S.1.2
  · exact S.1.2
  · exact S.1.2
theorem simRun (G : PGF g N ng lim L1 L2 K fn v0 w0) : ∀ (n nc nr : Nat), nc + nr ≤ n → ∀ (x : Int32 × MS) (w : MS) (xe : Int32 × MS) (we : MS), SIM g N ng lim v0 w0 x.1.toInt x.2 w → RTn (RCp L1 L2 N v0) nc x xe → RTn (RMp N w0) nr w we → (1000000000 ≤ xe.1.toInt ∨ (xe.2.1 0 362).toInt ≠ -1) → (we.1 0 121).toInt ≠ -1 → ∃ ke, FIN ng ke xe.2 we
  | n, nc, 0, _, x, w, xe, we, S, _, hm, _, he => by
    have e : w = we := hm
    rw [← e, simSt (x := w) G S] at he
    exact absurd (by decide) he
  | n, nc, nr + 1, hn, x, w, xe, we, S, hc, hm, hx, he => by
    obtain ⟨w1, ⟨Am, mi, m21, r, u2, Q2, ew⟩, hm2⟩ := RTn.hd nr w we hm
    have l := (fun ⟨T, E, h, m⟩ => MI.lin (T := T) (E := E) (h := h) m : (∃ T E h, MI T E h w (w.1 0 112)) → _) mi
    have h13 : (w.1 0 113).toInt ≤ (w0.1 0 114).toInt := by
      rw [← Am.1 114 (by decide)]
      omega
    obtain ⟨k1, k2, k3⟩ := simK G S h13
    cases nc with
    | zero =>
      have e : x = xe := hc
      rw [← e] at hx
      rcases hx with hx | hx
      · omega
      · rw [k2] at hx
        exact absurd (by decide) hx
    | succ nc =>
      obtain ⟨x1, ⟨A, ⟨hk, hk0⟩, -, u, Q1, ex⟩, hc2⟩ := RTn.hd nc x xe hc
      have i1 : (x.1 + 1).toInt = x.1.toInt + 1 := add_z rfl (by decide) (by omega) (by omega)
      cases n with
      | zero => omega
      | succ n =>
        rcases simStep G S A Am mi hk with T | T | T
        · have S1 := T u Q1
          refine simRun G n nc (nr + 1) (by omega) x1 w xe we ?_ hc2 hm hx he
          rw [ex]
          show SIM g N ng lim v0 w0 (x.1 + 1).toInt u w
          rw [i1]
          exact S1
        · have S1 := T r u2 Q2
          refine simRun G n (nc + 1) nr (by omega) x w1 xe we ?_ hc hm2 hx he
          rw [ew]
          exact S1
        · rcases T u r u2 Q1 Q2 with S1 | S1
          · refine simRun G n nc nr (by omega) x1 w1 xe we ?_ hc2 hm2 hx he
            rw [ex, ew]
            show SIM g N ng lim v0 w0 (x.1 + 1).toInt u _
            rw [i1]
            exact S1
          · have f1 := S1.1.1
            have f2 := S1.1.2
            have ec : x1 = xe := by
              cases nc with
              | zero => exact hc2
              | succ nc =>
                obtain ⟨x2, ⟨-, -, z, -⟩, -⟩ := RTn.hd nc x1 xe hc2
                rw [ex] at z
                exact absurd z (m1_i f2)
            have em : w1 = we := by
              cases nr with
              | zero => exact hm2
              | succ nr =>
                obtain ⟨w2, ⟨-, -, z, -⟩, -⟩ := RTn.hd nr w1 we hm2
                rw [ew, ← f1] at z
                exact absurd z (m1_i f2)
            rw [← ec, ← em, ex, ew]
            exact ⟨_, S1⟩
end YLR
