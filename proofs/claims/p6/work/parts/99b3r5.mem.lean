/-! the reference: words that are written -/
def EMS (c : Nat) (v u : MS) : Prop := u.2 = v.2 ∧ (∀ a ∈ [3, 6, 7, 8, 10, 23, 26, 29, 35, 36], u.1 a = v.1 a) ∧ (∀ i ∈ [27, 30, 31, 32, 33, 39, 44, 45, 47, 48, 49], u.1 0 i = v.1 0 i) ∧ u.1 0 12 = v.1 0 12 + Int32.ofNat c
section MEM
variable {g : GM} {n : Int} {K : TK} {e : PE} {v u x : MS} {t : Bool} {r pa pb : Int32} {m : Int} {c d : Nat}
theorem EMS.rf : EMS 0 v v := ⟨rfl, fun _ _ => rfl, fun _ _ => rfl, (Int32.add_zero _).symm⟩
theorem EMS.tr (h : EMS c v u) (k : EMS d u x) : EMS (c + d) v x := ⟨k.1.trans h.1, fun a ha => (k.2.1 a ha).trans (h.2.1 a ha), fun a ha => (k.2.2.1 a ha).trans (h.2.2.1 a ha), by rw [k.2.2.2, h.2.2.2, Int32.add_assoc, Int32.ofNat_add]⟩
theorem EMS.wa {a i : Nat} {y : Int32} (h : EMS c v u) (ha : a ∉ [0, 3, 6, 7, 8, 10, 23, 26, 29, 35, 36]) : EMS c v (wA u a i y) := by
  have n0 : (wA u a i y).1 0 = u.1 0 := if_neg (fun q => ha (by rw [← q]; decide))
  refine ⟨h.1, fun b hb => ?_, fun b hb => by rw [n0]; exact h.2.2.1 b hb, by rw [n0]; exact h.2.2.2⟩
  rw [← h.2.1 b hb]
  exact if_neg (fun q => ha (by rw [← q]; exact List.mem_cons_of_mem _ hb))
theorem EMS.w0 {i : Nat} {y : Int32} (h : EMS c v u) (hi : i ∉ [12, 27, 30, 31, 32, 33, 39, 44, 45, 47, 48, 49]) : EMS c v (wA u 0 i y) := by
  refine ⟨h.1, fun b hb => ?_, fun b hb => ?_, ?_⟩
  · rw [← h.2.1 b hb]
    exact if_neg (fun q => by rw [q] at hb; revert hb; decide)
  · rw [← h.2.2.1 b hb]
    exact show upd (u.1 0) i y b = _ from updN_ (fun q => hi (by rw [← q]; exact List.mem_cons_of_mem _ hb))
  · rw [← h.2.2.2]
    exact show upd (u.1 0) i y 12 = _ from updN_ (fun q => hi (by rw [← q]; decide))
theorem EMS.o1 {y : Int32} (h : EMS c v u) (hy : y = u.1 0 12 + 1) : EMS (c + 1) v (wA u 0 12 y) := by
  refine ⟨h.1, fun b hb => ?_, fun b hb => ?_, ?_⟩
  · rw [← h.2.1 b hb]
    exact if_neg (fun q => by rw [q] at hb; revert hb; decide)
  · rw [← h.2.2.1 b hb]
    exact show upd (u.1 0) 12 y b = _ from updN_ (fun q => by rw [q] at hb; revert hb; decide)
  · rw [show (wA u 0 12 y).1 0 12 = y from show upd (u.1 0) 12 y 12 = y from updS, hy, h.2.2.2, Int32.add_assoc, Int32.ofNat_add]
    rfl
theorem EMS.fg {fl al : List Nat} (h : FG fl al v u) (h1 : ∀ a ∈ [3, 6, 7, 8, 10, 23, 26, 29, 35, 36], a ∉ al) (h2 : ∀ i ∈ [12, 27, 30, 31, 32, 33, 39, 44, 45, 47, 48, 49], i ∉ fl) : EMS 0 v u :=
  ⟨h.1, fun a ha => h.2.2 a (h1 a ha), fun i hi => h.2.1 i (h2 i (List.mem_cons_of_mem _ hi)), (h.2.1 12 (h2 12 (by decide))).trans (Int32.add_zero _).symm⟩
theorem EMS.a (h : EMS c v u) : aR g K u = em (Int32.ofNat c) (aR g K v) := by
  have f := h.2.2.1
  exact aR_em (f 47 (by decide)) (f 48 (by decide)) (f 49 (by decide)) (f 31 (by decide)) (f 32 (by decide)) (f 33 (by decide)) (f 44 (by decide)) (f 45 (by decide)) (f 39 (by decide)) (f 30 (by decide)) (h.2.1 29 (by decide)) (h.2.1 35 (by decide)) (h.2.1 36 (by decide)) h.2.2.2
theorem EMS.j (h : EMS c v u) (J : JM n K e v) : JM n K e u := by
  have f := h.2.2.1
  have J4 := J.2.2.2.1
  refine J.of h.1 (fun a ha => h.2.1 a (by revert a; decide)) (f 27 (by decide)) (f 30 (by decide)) ?_ (f 39 (by decide))
  rw [f 49 (by decide), f 47 (by decide)]
  exact ⟨J4.1, J4.2.1, J4.2.2.1⟩
theorem mFix {q : Int32} (k : K_m_fix v pa pb q u) : EMS 0 v u := EMS.fg k.1 (by decide) (by decide)
set_option maxHeartbeats 400000 in
theorem rLoads (h : Q_m_loads v pa u) : ∃ c, EMS c v u ∧ Int32.ofNat c = nsz pa := by
  obtain ⟨-, -, h⟩ := h
  have nz : ∀ {b : Prop} [Decidable b], True := trivial
  rcases h with ⟨a, r11, -, r14, -, r21, -, r24, -, rfl⟩ | ⟨a, ⟨b, r34, -, r37, -, r44, -, r47, -, rfl⟩ | ⟨b, r55, -, rfl⟩⟩
  · refine ⟨2, EMS.o1 (EMS.wa (EMS.o1 (EMS.wa (EMS.w0 (EMS.wa (EMS.wa EMS.rf (by decide)) (by decide)) (by decide)) (by decide)) rfl) (by decide)) rfl, ?_⟩
    unfold nsz
    rw [if_neg (by omega)]
    rfl
  · refine ⟨2, EMS.o1 (EMS.wa (EMS.o1 (EMS.wa (EMS.w0 (EMS.wa (EMS.wa EMS.rf (by decide)) (by decide)) (by decide)) (by decide)) rfl) (by decide)) rfl, ?_⟩
    unfold nsz
    rw [if_neg (by omega)]
    rfl
  · refine ⟨1, EMS.o1 (EMS.wa (EMS.w0 (EMS.wa (EMS.wa EMS.rf (by decide)) (by decide)) (by decide)) (by decide)) rfl, ?_⟩
    unfold nsz
    rw [if_pos (by omega)]
    rfl
theorem rFetch (h : Q_m_fetch v pa pb u) : ∃ c, EMS c v u ∧ Int32.ofNat c = vsz (decide (0 ≤ pa.toInt)) := by
  obtain ⟨-, -, -, -, h⟩ := h
  rcases h with ⟨a, r6, -, u12, -, k12, r17, -, u24, -, k24, rfl⟩ | ⟨a, r43, -, r46, -, rfl⟩
  · have e1 : EMS 1 v u12 := (EMS.o1 (EMS.wa EMS.rf (by decide)) rfl).tr (mFix k12)
    have e2 : EMS 1 u12 u24 := (EMS.o1 (EMS.wa EMS.rf (by decide)) rfl).tr (mFix k24)
    exact ⟨2, EMS.w0 (EMS.wa (EMS.wa (e1.tr e2) (by decide)) (by decide)) (by decide), by rw [decide_eq_false (by omega)]; rfl⟩
  · exact ⟨1, EMS.w0 (EMS.wa (EMS.wa (EMS.o1 (EMS.wa EMS.rf (by decide)) rfl) (by decide)) (by decide)) (by decide), by rw [decide_eq_true a]; rfl⟩
theorem rStore (h : Q_m_store v pa pb u) : ∃ c, EMS c v u ∧ Int32.ofNat c = vsz (decide (0 ≤ pa.toInt)) := by
  obtain ⟨-, -, -, -, h⟩ := h
  rcases h with ⟨a, r6, -, u12, -, k12, r17, -, u24, -, k24, rfl⟩ | ⟨a, r43, -, r46, -, rfl⟩
  · have e1 : EMS 1 v u12 := (EMS.o1 (EMS.wa EMS.rf (by decide)) rfl).tr (mFix k12)
    have e2 : EMS 1 u12 u24 := (EMS.o1 (EMS.wa EMS.rf (by decide)) rfl).tr (mFix k24)
    exact ⟨2, EMS.w0 (EMS.wa (EMS.wa (e1.tr e2) (by decide)) (by decide)) (by decide), by rw [decide_eq_false (by omega)]; rfl⟩
  · exact ⟨1, EMS.w0 (EMS.wa (EMS.wa (EMS.o1 (EMS.wa EMS.rf (by decide)) rfl) (by decide)) (by decide)) (by decide), by rw [decide_eq_true a]; rfl⟩
def opc (pa : Int32) : Nat := if pa = 15649 ∨ pa = 15676 ∨ pa = 15677 ∨ pa = 15678 ∨ pa = 37 then 2 else 1
theorem opc_SC : ∀ y ∈ SC, 53 ≤ y.2.toInt → y.2.toInt ≤ 68 → Int32.ofNat (opc y.1) = opz y.2 := by decide
set_option maxHeartbeats 800000 in
theorem rOper (h : Q_m_operate v pa u) : EMS (opc pa) v u := by
  obtain ⟨-, -, -, h⟩ := h
  have e1 : ∀ {x : Int32}, EMS 1 v (wA (wA (wA (wA (wA v 13 ((v.1 0 15).toNatClampNeg) (21 : Int32)) 14 ((v.1 0 15).toNatClampNeg) pa) 0 15 ((v.1 0 15) + (1 : Int32))) 11 ((v.1 0 12).toNatClampNeg) x) 0 12 ((v.1 0 12) + (1 : Int32))) := EMS.o1 (EMS.wa (EMS.w0 (EMS.wa (EMS.wa EMS.rf (by decide)) (by decide)) (by decide)) (by decide)) rfl
  have e2 : ∀ {x y : Int32}, EMS 2 v (wA (wA (wA (wA (wA (wA (wA v 13 ((v.1 0 15).toNatClampNeg) (21 : Int32)) 14 ((v.1 0 15).toNatClampNeg) pa) 0 15 ((v.1 0 15) + (1 : Int32))) 11 ((v.1 0 12).toNatClampNeg) x) 0 12 ((v.1 0 12) + (1 : Int32))) 11 (((v.1 0 12) + (1 : Int32)).toNatClampNeg) y) 0 12 (((v.1 0 12) + (1 : Int32)) + (1 : Int32))) := EMS.o1 (EMS.wa e1 (by decide)) rfl
  rcases h with ⟨rfl, r11, -, rfl⟩ | ⟨-, h⟩
  · exact e1
  rcases h with ⟨rfl, u22, -, k22, rfl⟩ | ⟨-, h⟩
  · exact e1.tr (mFix k22)
  rcases h with ⟨rfl, r11, -, rfl⟩ | ⟨-, h⟩
  · exact e1
  rcases h with ⟨rfl, r11, -, rfl⟩ | ⟨-, h⟩
  · exact e1
  rcases h with ⟨rfl, r11, -, rfl⟩ | ⟨-, h⟩
  · exact e1
  rcases h with ⟨rfl, r11, -, rfl⟩ | ⟨-, h⟩
  · exact e1
  rcases h with ⟨rfl, r11, -, rfl⟩ | ⟨-, h⟩
  · exact e1
  rcases h with ⟨rfl, r11, -, rfl⟩ | ⟨-, h⟩
  · exact e1
  rcases h with ⟨rfl, r11, -, rfl⟩ | ⟨-, h⟩
  · exact e1
  rcases h with ⟨rfl, r11, -, r12, -, rfl⟩ | ⟨n1, h⟩
  · exact e2
  rcases h with ⟨rfl, r11, -, r12, -, rfl⟩ | ⟨n2, h⟩
  · exact e2
  rcases h with ⟨rfl, r11, -, r12, -, rfl⟩ | ⟨n3, h⟩
  · exact e2
  rcases h with ⟨rfl, r11, -, r12, -, rfl⟩ | ⟨n4, h⟩
  · exact e2
  rcases h with ⟨rfl, r11, -, rfl⟩ | ⟨-, u156, -, k156, h⟩
  · exact e1
  have e3 := e1.tr (mFix k156)
  rcases h with ⟨a, rfl⟩ | ⟨a, r166, -, rfl⟩
  · have : opc pa = 1 := by
      unfold opc
      rw [if_neg (fun q => q.elim n1 (fun q => q.elim n2 (fun q => q.elim n3 (fun q => q.elim n4 (fun q => a (by rw [q]; decide))))))]
    rw [this]
    exact e3
  · have p37 : pa = 37 := Int32.toInt_inj.mp (a.trans (by decide))
    have : opc pa = 2 := by rw [p37]; decide
    rw [this]
    exact EMS.o1 (EMS.wa e3 (by decide)) rfl
end MEM
