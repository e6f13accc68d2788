/-! the class's deeds: expressions at every level -/
section UXL
variable {L1 L2 : List Nat} {P : Int32 × Int32 × Int32} {s v u w w1 x z : MS} {a b c : List EV} {e : PE} {pa pb pc1 pd r m : Int32} {k : Int32} {R : RE1} {o : RO1} {E : EvE} {O : EvO}
/-- signs that wait below n are kept -/
def KLw (n : Int) (v u : MS) : Prop := ∀ j : Nat, (j : Int) < n → u.1 324 j = v.1 324 j ∧ u.1 325 j = v.1 325 j
theorem KLw.rf {n : Int} : KLw n v v := fun _ _ => ⟨rfl, rfl⟩
theorem KLw.tr {n : Int} (h : KLw n v u) (k : KLw n u w) : KLw n v w := fun j hj => ⟨(k j hj).1.trans (h j hj).1, (k j hj).2.trans (h j hj).2⟩
theorem KLw.fc {n : Int} {fl al : List Nat} (f : FC fl al v u) (h : 324 ∉ al ∧ 325 ∉ al := by decide) : KLw n v u := fun j _ => ⟨congrFun (f.2.2 324 ⟨by decide, h.1⟩) j, congrFun (f.2.2 325 ⟨by decide, h.2⟩) j⟩
theorem mExprM (hM : XM R) (hMo : XMo o) (h : Q_x_X2_expression L1 L2 R o v pa false u) : (v.1 0 321).toInt ≤ (u.1 0 321).toInt := by
  obtain ⟨z4, z5, z6, z12, z21, z26, z73, z81, zd, zl, h⟩ := h
  rcases h with ⟨u9, -, q, -⟩ | ⟨r3, u2, h1, k1, h⟩
  · cases q
  have m1 := hMo _ _ _ _ h1
  rcases h with ⟨q3, ka, w, hr, -, i5, -, -, i26, -, hka, -, -, -, -, h6, h⟩ | ⟨q3, -, eu⟩
  · have inv : (v.1 0 321).toInt ≤ (w.1 0 321).toInt := by
      refine RT.ind (fun (q : Int32 × MS) => (v.1 0 321).toInt ≤ (q.2.1 0 321).toInt) hr m1 ?_
      rintro ⟨k9, w1⟩ y - I1 hy
      obtain ⟨-, i5, -, -, -, -, hk9, -, -, -, -, h61, lt, r38, hk1, r41, hs1, -, hp, r71, hk2, r74, hs2, -, u76, hf, kf, u86, hb1, kb1, u92, ht1, kt1, r109, u108, ho1, ko1, rfl⟩ := hy
      have I1 : (v.1 0 321).toInt ≤ (w1.1 0 321).toInt := I1
      show (v.1 0 321).toInt ≤ (u108.1 0 321).toInt
      have := hMo _ _ _ _ ho1
      have := fc21 kf.1
      have := fc21 kb1.1
      have := fc21 kt1.1
      omega
    have fin : ∀ {y2 : MS} {r51 pb : Int32} , K_x_X2_finishSigns w (v.1 0 326) pb y2 → ((r51.toInt ≠ 38 ∧ false = false ∧ u = y2) ∨ (r51.toInt = 38 ∧ ((∃ u9, Q_x_X2_choice L1 L2 R y2 true u9 ∧ false = true ∧ u = u9) ∨ ∃ u32, Q_x_X2_choice L1 L2 R y2 false u32 ∧ K_x_X2_choice y2 u32 ∧ false = false ∧ u = u32))) → (v.1 0 321).toInt ≤ (u.1 0 321).toInt := by
      intro y2 r51 pb kf h
      have := fc21 kf.1
      rcases h with ⟨n38, -, eu⟩ | ⟨n38, ⟨u9, -, q, -⟩ | ⟨u66, hc, -, -, eu⟩⟩
      · rw [eu]; omega
      · cases q
      · have := mChoiceM hM hc
        rw [eu]; omega
    rcases h with ⟨q5, u10, hf, kf, r17, hk, h⟩ | ⟨-, r38, hk1, r41, hs1, -, h⟩
    · exact fin kf h
    rcases h with ⟨hp, u45, hf, kf, r51, hk2, h⟩ | ⟨hp, r71, hk2, r74, hs2, -, u76, hf, kf, h⟩
    · exact fin kf h
    · rcases h with ⟨u9, -, q, -⟩ | ⟨u86, hb1, kb1, ⟨u9, -, q, -⟩ | ⟨u92, ht1, kt1, u9, -, q, -⟩⟩ <;> cases q
  · rw [eu]; exact m1
/-- what is done of the signs leaves those below the base -/
theorem fin26 (hw : pa.toInt ≤ (w.1 0 326).toInt) (h0 : 0 ≤ pa.toInt) (h : Q_x_X2_finishSigns L1 L2 w pa pb u) : pa.toInt ≤ (u.1 0 326).toInt ∧ (pb.toInt = 0 → u.1 0 326 = pa) ∧ KLw pa.toInt w u := by
  obtain ⟨-, -, -, -, ka, w7, hr, fc, i6, -, hk, e6, rs, -, h⟩ := h
  have inv : pa.toInt ≤ ka.toInt + 1 := by
    refine RT.ind (fun (q : Int32 × MS) => pa.toInt ≤ q.1.toInt + 1) hr ?_ ?_
    · show pa.toInt ≤ ((w.1 0 326) - 1).toInt + 1
      have t9 : (w.1 0 326).toInt < 2147483648 := Int32.toInt_lt _
      have := sub_z (x := w.1 0 326) (y := 1) (b := 1) rfl (by decide) (by omega) (by omega)
      omega
    · rintro ⟨k1, w1⟩ y - I1 hy
      obtain ⟨-, -, -, hk1, e61, -, -, g1, g2, r11, hs, -, g3, hy⟩ := hy
      have g1 : pa.toInt ≤ k1.toInt := g1
      have g2 : 0 ≤ k1.toInt := g2
      have hk1 : -1 ≤ k1.toInt ∧ k1.toInt ≤ 419 := hk1
      have ke : (k1 + (-1 : Int32)).toInt = k1.toInt - 1 := by
        have := add_z (x := k1) (y := -1) (b := -1) rfl (by decide) (by omega) (by omega)
        omega
      have fin : ∀ {x : MS}, pa.toInt ≤ ((k1 + (-1 : Int32)), x).1.toInt + 1 := fun {x} => by
        show pa.toInt ≤ (k1 + (-1 : Int32)).toInt + 1
        omega
      rcases hy with ⟨g4, u19, h1, k1', u22, h2, k2, rfl⟩ | ⟨g4, ⟨g5, u35, h1, k1', rfl⟩ | ⟨g5, u19, h1, k1', u22, h2, k2, rfl⟩⟩ <;> exact fin
  have kl : KLw pa.toInt w w7 := KLw.fc fc
  rcases h with ⟨a, rfl⟩ | ⟨a, ⟨b1, rfl⟩ | ⟨b1, r11, hs, -, b2', rfl⟩⟩
  · exact ⟨by omega, fun _ => Int32.toInt_inj.mp (by omega), kl⟩
  · omega
  · refine ⟨by omega, fun p0 => ?_, kl⟩
    have := stg_s hs
    have := (stg_10 (u.1 324 ka.toNatClampNeg)).1
    have : 0 ≤ r11.toInt := by rw [stg_s hs]; exact this
    omega
theorem psh26 {n : Int} (hn : n ≤ (v.1 0 326).toInt) (h : Q_x_X2_push L1 L2 v pa pb u) : (v.1 0 326).toInt ≤ (u.1 0 326).toInt ∧ KLw n v u := by
  obtain ⟨-, q0, h⟩ := h
  rcases h with ⟨-, e9⟩ | ⟨q, e9⟩
  · rw [e9]
    exact ⟨Int.le_refl _, KLw.rf⟩
  · have n26 := natI (a := v.1 0 326) q0
    rw [e9]
    refine ⟨?_, fun j hj => ⟨?_, ?_⟩⟩
    · show _ ≤ ((v.1 0 326) + (1 : Int32)).toInt
      rw [add_z (x := v.1 0 326) (y := 1) (b := 1) rfl (by decide) (by omega) (by omega)]
      omega
    · show upd (v.1 324) (v.1 0 326).toNatClampNeg pa j = _
      rw [updN_ (by omega)]
    · show upd (v.1 325) (v.1 0 326).toNatClampNeg pb j = _
      rw [updN_ (by omega)]
theorem beg26 {n : Int} (hn : n ≤ (v.1 0 326).toInt) (h : Q_x_X2_beginSign L1 L2 v pa false u) : n ≤ (u.1 0 326).toInt ∧ KLw n v u := by
  obtain ⟨-, -, -, -, -, -, -, -, h⟩ := h
  have go : ∀ {x : MS} {r5 : Int32}, x.1 0 326 = v.1 0 326 → KLw n v x → Q_x_X2_push L1 L2 x pa r5 u → n ≤ (u.1 0 326).toInt ∧ KLw n v u := fun {x r5} y1 y2 y3 => by
    have := psh26 (n := n) (by rw [y1]; exact hn) y3
    rw [y1] at this
    exact ⟨by omega, y2.tr this.2⟩
  rcases h with ⟨c69, r5, u4, h4, k4, -, u12, h12, k12, u17, h17, k17, -, eu⟩ | ⟨c69, ⟨c70, r30, h30, r33, u32, h32, k32, ⟨-, u38, h38, k38, u43, h43, k43, -, eu⟩ | ⟨-, r89, -, u9, -, f9, -⟩⟩ | ⟨c70, r65, u64, h64, k64, -, u70, h70, k70, u75, h75, k75, -, eu⟩⟩
  · rw [← eu] at h17
    exact go ((k12.1.2.1 326 (by decide)).trans (k4.1.2.1 326 (by decide))) ((KLw.fc k4.1).tr (KLw.fc k12.1)) h17
  · rw [← eu] at h43
    have y : KLw n v u38 := (KLw.fc k32.1).tr (KLw.fc k38.1)
    exact go (x := wA u38 0 314 (u38.1 0 314 + 1)) ((k38.1.2.1 326 (by decide)).trans (k32.1.2.1 326 (by decide))) (fun j hj => y j hj) h43
  · cases f9
  · rw [← eu] at h75
    exact go ((k70.1.2.1 326 (by decide)).trans (k64.1.2.1 326 (by decide))) ((KLw.fc k64.1).tr (KLw.fc k70.1)) h75
theorem kExprK (hK : XK R) (hKo : XKo o) (h : Q_x_X2_expression L1 L2 R o v pa false u) : KT v u := by
  obtain ⟨z4, z5, z6, z12, z21, z26, z73, z81, zd, zl, h⟩ := h
  have h0 : 0 ≤ (v.1 0 326).toInt := z26.1
  rcases h with ⟨u9, -, q, -⟩ | ⟨r3, u2, h1, k1, h⟩
  · cases q
  have m1 := hKo _ _ _ _ h1
  rcases h with ⟨q3, ka, w, hr, -, i5, -, -, i26, -, hka, -, -, -, -, h6, h⟩ | ⟨q3, -, eu⟩
  · have inv : (v.1 0 326).toInt ≤ (w.1 0 326).toInt ∧ KLw (v.1 0 326).toInt v w := by
      refine RT.ind (fun (q : Int32 × MS) => (v.1 0 326).toInt ≤ (q.2.1 0 326).toInt ∧ KLw (v.1 0 326).toInt v q.2) hr ⟨?_, m1.2⟩ ?_
      · show (v.1 0 326).toInt ≤ (u2.1 0 326).toInt
        rw [m1.1]
        exact Int.le_refl _
      rintro ⟨k9, w1⟩ y - I1 hy
      obtain ⟨-, i5, -, -, -, -, hk9, -, -, -, -, h61, lt, r38, hk1, r41, hs1, -, hp, r71, hk2, r74, hs2, -, u76, hf, kf, u86, hb1, kb1, u92, ht1, kt1, r109, u108, ho1, ko1, rfl⟩ := hy
      have I1 : (v.1 0 326).toInt ≤ (w1.1 0 326).toInt ∧ KLw (v.1 0 326).toInt v w1 := I1
      show (v.1 0 326).toInt ≤ (u108.1 0 326).toInt ∧ KLw (v.1 0 326).toInt v u108
      have f := fin26 I1.1 h0 hf
      have b := beg26 f.1 hb1
      have k8 := hKo _ _ _ _ ho1
      have t26 : u92.1 0 326 = u86.1 0 326 := kt1.1.2.1 326 (by decide)
      refine ⟨by rw [k8.1, t26]; exact b.1, (((I1.2.tr f.2.2).tr b.2).tr (KLw.fc kt1.1)).tr (fun j hj => k8.2 j ?_)⟩
      have := b.1
      rw [t26]
      omega
    have fin : ∀ {y2 : MS} {r51 pb : Int32}, pb.toInt = 0 → Q_x_X2_finishSigns L1 L2 w (v.1 0 326) pb y2 → ((r51.toInt ≠ 38 ∧ false = false ∧ u = y2) ∨ (r51.toInt = 38 ∧ ((∃ u9, Q_x_X2_choice L1 L2 R y2 true u9 ∧ false = true ∧ u = u9) ∨ ∃ u32, Q_x_X2_choice L1 L2 R y2 false u32 ∧ K_x_X2_choice y2 u32 ∧ false = false ∧ u = u32))) → KT v u := by
      intro y2 r51 pb p0 hf h
      have f := fin26 inv.1 h0 hf
      have T : KT v y2 := ⟨f.2.1 p0, inv.2.tr f.2.2⟩
      rcases h with ⟨n38, -, eu⟩ | ⟨n38, ⟨u9, -, q, -⟩ | ⟨u66, hc, -, -, eu⟩⟩
      · rw [eu]; exact T
      · cases q
      · rw [eu]; exact T.tr (kChoiceK hK hc)
    rcases h with ⟨q5, u10, hf, kf, r17, hk, h⟩ | ⟨-, r38, hk1, r41, hs1, -, h⟩
    · exact fin (by decide) hf h
    rcases h with ⟨hp, u45, hf, kf, r51, hk2, h⟩ | ⟨hp, r71, hk2, r74, hs2, -, u76, hf, kf, h⟩
    · exact fin (by decide) hf h
    · rcases h with ⟨u9, -, q, -⟩ | ⟨u86, hb1, kb1, ⟨u9, -, q, -⟩ | ⟨u92, ht1, kt1, u9, -, q, -⟩⟩ <;> cases q
  · rw [eu]; exact m1
end UXL
/-- all levels: what is waiting is kept, calls never become fewer -/
theorem mkLev {L1 L2 : List Nat} : ∀ n : Nat, (XMo (QO L1 L2 n) ∧ XM (QE L1 L2 n)) ∧ XKo (QO L1 L2 n) ∧ XK (QE L1 L2 n) := by
  have go : ∀ n : Nat, XM (pE L1 L2 n) → XMo (pO L1 L2 n) → XK (pE L1 L2 n) → XKo (pO L1 L2 n) → (XMo (QO L1 L2 n) ∧ XM (QE L1 L2 n)) ∧ XKo (QO L1 L2 n) ∧ XK (QE L1 L2 n) := by
    intro n p1 p2 p3 p4
    have o1 : XMo (QO L1 L2 n) := by
      intro v st r u h
      rw [QO_eq] at h
      exact mOperandM p1 p2 h
    have o2 : XKo (QO L1 L2 n) := by
      intro v st r u h
      rw [QO_eq] at h
      exact kOperandK p3 p4 h
    refine ⟨⟨o1, ?_⟩, o2, ?_⟩
    · intro v st u h
      rw [QE_eq] at h
      exact mExprM p1 o1 h
    · intro v st u h
      rw [QE_eq] at h
      exact kExprK p3 o2 h
  intro n
  induction n with
  | zero => exact go 0 (fun _ _ _ h => h.elim) (fun _ _ _ _ h => h.elim) (fun _ _ _ h => h.elim) (fun _ _ _ _ h => h.elim)
  | succ n ih =>
    exact go (n + 1) ih.1.2 ih.1.1 ih.2.2 ih.2.1
/-- the class's deeds of an expression are the events, at every level -/
theorem eLev {L1 L2 : List Nat} : ∀ n N : Nat, n ≤ N → XO L2 (QO L1 L2 n) (geO N) ∧ XE L2 (QE L1 L2 n) (geE N) := by
  have go : ∀ n N : Nat, XE L2 (pE L1 L2 n) (hgE N) → XO L2 (pO L1 L2 n) (hgO N) → XM (pE L1 L2 n) → XMo (pO L1 L2 n) → XK (pE L1 L2 n) → XKo (pO L1 L2 n) → XO L2 (QO L1 L2 n) (geO N) ∧ XE L2 (QE L1 L2 n) (geE N) := by
    intro n N p1 p2 p3 p4 p5 p6
    have o : XO L2 (QO L1 L2 n) (geO N) := by
      intro v u st r e P h _ J B tp cu
      rw [QO_eq] at h
      rw [geO_eq]
      exact eOperand p1 p3 p5 p2 h J B tp cu
    refine ⟨o, ?_⟩
    intro v u st e P h _ J B tp cu
    rw [QE_eq] at h
    rw [geE_eq]
    exact eExpr p1 p3 p5 o (mkLev n).1.1 (mkLev n).2.1 h J B tp cu
  intro n
  induction n with
  | zero =>
    intro N _
    exact go 0 N (fun _ _ _ _ _ h => h.elim) (fun _ _ _ _ _ _ h => h.elim) (fun _ _ _ h => h.elim) (fun _ _ _ _ h => h.elim) (fun _ _ _ h => h.elim) (fun _ _ _ _ h => h.elim)
  | succ n ih =>
    intro N h
    cases N with
    | zero => omega
    | succ N =>
      have y := ih N (by omega)
      have z := mkLev (L1 := L1) (L2 := L2) n
      exact go (n + 1) (N + 1) y.2 y.1 z.1.2 z.1.1 z.2.2 z.2.1
