/-! the reference's words: a statement by its first word, every level -/
section ZZK
variable {n : Int} {K : TK} {e : PE} {v u w x y X : MS} {a b d a0 cc ca : List EV} {q : EV} {r pa pb pd o zv zn T A bk : Int32} {c : RM1} {E : EvE} {S : EvS} {Es : FE} {Ss : FS} {k : Nat} {cl cl' : Int} {g : Bool × Int32 × Bool} {p : Nat}
set_option maxHeartbeats 800000 in
theorem oPutW (hX : XWe n K (QME k) E) (hE : HME n K (QME k) Es) (J : JM n K e v) (hk : 2 ≤ (e.1 (v.1 0 47)).toInt) (h : (∃ u9, Q_m_take v true u9 ∧ false = true ∧ u = u9) ∨ (Q_m_take v false (wA v 0 47 ((v.1 0 47) + (1 : Int32))) ∧ K_m_take v (wA v 0 47 ((v.1 0 47) + (1 : Int32))) ∧ ((∃ u9, Q_m_open (wA v 0 47 ((v.1 0 47) + (1 : Int32))) 40 true u9 ∧ false = true ∧ u = u9) ∨ (Q_m_open (wA v 0 47 ((v.1 0 47) + (1 : Int32))) 40 false (wA (wA (wA v 0 47 ((v.1 0 47) + (1 : Int32))) 0 47 (((v.1 0 47) + (1 : Int32)) + (1 : Int32))) 0 48 ((v.1 0 48) + (1 : Int32))) ∧ K_m_open (wA v 0 47 ((v.1 0 47) + (1 : Int32))) 40 (wA (wA (wA v 0 47 ((v.1 0 47) + (1 : Int32))) 0 47 (((v.1 0 47) + (1 : Int32)) + (1 : Int32))) 0 48 ((v.1 0 48) + (1 : Int32))) ∧ ((∃ u9, QME k (wA (wA (wA v 0 47 ((v.1 0 47) + (1 : Int32))) 0 47 (((v.1 0 47) + (1 : Int32)) + (1 : Int32))) 0 48 ((v.1 0 48) + (1 : Int32))) true u9 ∧ false = true ∧ u = u9) ∨ (∃ u100, QME k (wA (wA (wA v 0 47 ((v.1 0 47) + (1 : Int32))) 0 47 (((v.1 0 47) + (1 : Int32)) + (1 : Int32))) 0 48 ((v.1 0 48) + (1 : Int32))) false u100 ∧ K_m_expression (wA (wA (wA v 0 47 ((v.1 0 47) + (1 : Int32))) 0 47 (((v.1 0 47) + (1 : Int32)) + (1 : Int32))) 0 48 ((v.1 0 48) + (1 : Int32))) u100 ∧ ((∃ u9, Q_m_close u100 41 true u9 ∧ false = true ∧ u = u9) ∨ (Q_m_close u100 41 false (wA (wA u100 0 47 ((u100.1 0 47) + (1 : Int32))) 0 48 ((u100.1 0 48) - (1 : Int32))) ∧ K_m_close u100 41 (wA (wA u100 0 47 ((u100.1 0 47) + (1 : Int32))) 0 48 ((u100.1 0 48) - (1 : Int32))) ∧ ((∃ u9, Q_m_need (wA (wA u100 0 47 ((u100.1 0 47) + (1 : Int32))) 0 48 ((u100.1 0 48) - (1 : Int32))) 59 true u9 ∧ false = true ∧ u = u9) ∨ (Q_m_need (wA (wA u100 0 47 ((u100.1 0 47) + (1 : Int32))) 0 48 ((u100.1 0 48) - (1 : Int32))) 59 false (wA (wA (wA u100 0 47 ((u100.1 0 47) + (1 : Int32))) 0 48 ((u100.1 0 48) - (1 : Int32))) 0 47 (((u100.1 0 47) + (1 : Int32)) + (1 : Int32))) ∧ K_m_need (wA (wA u100 0 47 ((u100.1 0 47) + (1 : Int32))) 0 48 ((u100.1 0 48) - (1 : Int32))) 59 (wA (wA (wA u100 0 47 ((u100.1 0 47) + (1 : Int32))) 0 48 ((u100.1 0 48) - (1 : Int32))) 0 47 (((u100.1 0 47) + (1 : Int32)) + (1 : Int32))) ∧ ∃ r119, Q_m_addi 17 0 1 r119 ∧ false = false ∧ u = (wA (wA (wA (wA (wA (wA (wA (wA (wA (wA u100 0 47 ((u100.1 0 47) + (1 : Int32))) 0 48 ((u100.1 0 48) - (1 : Int32))) 0 47 (((u100.1 0 47) + (1 : Int32)) + (1 : Int32))) 11 ((u100.1 0 12).toNatClampNeg) r119) 0 12 ((u100.1 0 12) + (1 : Int32))) 11 (((u100.1 0 12) + (1 : Int32)).toNatClampNeg) (115 : Int32)) 0 12 (((u100.1 0 12) + (1 : Int32)) + (1 : Int32))) 13 ((u100.1 0 15).toNatClampNeg) (16 : Int32)) 14 ((u100.1 0 15).toNatClampNeg) (0 : Int32)) 0 15 ((u100.1 0 15) + (1 : Int32))))))))))))) : ∃ a, gPutS E e (knM K v) (v.1 0 32) (v.1 0 47) = some (a, knM K u, u.1 0 47) ∧ SOw n K e v u a := by
  have JU := (rPutZ (g := g00) (t := false) hE J rfl hk h).jj
  rcases h with ⟨u9, -, f9, -⟩ | ⟨h1, k1, ⟨u9, -, f9, -⟩ | ⟨h7, k7, ⟨u9, -, f9, -⟩ | ⟨u100, h8, k8, ⟨u9, -, f9, -⟩ | ⟨h9, k9, ⟨u9, -, f9, -⟩ | ⟨h10, k10, r119, h119, -, eu⟩⟩⟩⟩⟩
  · cases f9
  · cases f9
  · cases f9
  · cases f9
  · cases f9
  obtain rfl := eAddi h119
  have JT := (rTake (g := g00) h1 J hk).jj
  have O1 := oOpen (q := (40, 30)) (m := 30) h7 JT (by decide) rfl (by decide)
  obtain ⟨U, hU⟩ : ∃ U, U = (wA (wA (wA v 0 47 ((v.1 0 47) + (1 : Int32))) 0 47 (((v.1 0 47) + (1 : Int32)) + (1 : Int32))) 0 48 ((v.1 0 48) + (1 : Int32))) := ⟨_, rfl⟩
  rw [← hU] at h8 k8 O1
  have u47 : U.1 0 47 = v.1 0 47 + 1 + 1 := by rw [hU]; rfl
  have u29 : U.1 29 = v.1 29 := by rw [hU]; rfl
  have u30 : U.1 0 30 = v.1 0 30 := by rw [hU]; rfl
  have u32 : U.1 0 32 = v.1 0 32 := by rw [hU]; rfl
  have kU : kpW v U := by rw [hU]; exact ⟨⟨rfl, rfl, rfl, rfl, rfl⟩, rfl, rfl, rfl⟩
  have AU : WAi K v U [] := by rw [hU]; exact WAi.sm rfl rfl
  obtain ⟨ca, x1, x2⟩ := hX e U u100 h8 k8 O1.1
  rw [knM_of u29 u30, u32, u47] at x1
  have Q1 := oClose (q := (41, 31)) (m := 31) h9 x2.1 (by decide) rfl (by decide)
  have N1 := oNeed (q := (59, 36)) (m := 36) h10 Q1.1 (by decide) rfl (by decide)
  have AC : WAi K v u100 ca := AU.tn x2.2.1
  obtain ⟨Y, hY⟩ : ∃ Y, Y = (wA (wA (wA (wA (wA (wA (wA u100 0 47 ((u100.1 0 47) + (1 : Int32))) 0 48 ((u100.1 0 48) - (1 : Int32))) 0 47 (((u100.1 0 47) + (1 : Int32)) + (1 : Int32))) 11 ((u100.1 0 12).toNatClampNeg) (iW 19 17 0 1)) 0 12 ((u100.1 0 12) + (1 : Int32))) 11 (((u100.1 0 12) + (1 : Int32)).toNatClampNeg) (115 : Int32)) 0 12 (((u100.1 0 12) + (1 : Int32)) + (1 : Int32))) := ⟨_, rfl⟩
  have AY : WAi K u100 Y [evx 22 0 0] := by
    rw [hY]
    exact EMi.ev (by rw [rw22]; exact EMi.w2 rfl rfl) rfl
  have eu : u = (wA (wA (wA Y 13 ((u100.1 0 15).toNatClampNeg) (16 : Int32)) 14 ((u100.1 0 15).toNatClampNeg) (0 : Int32)) 0 15 ((u100.1 0 15) + (1 : Int32))) := by rw [eu, hY]
  have A1 : WAi K Y u [] := by
    rw [eu]
    exact WAi.sm rfl rfl
  have kpu : kpW v u := (kU.tr (kpW.fg k8.1)).tr (by rw [eu, hY]; exact ⟨⟨rfl, rfl, rfl, rfl, rfl⟩, rfl, rfl, rfl⟩)
  have g29 : u.1 29 = v.1 29 := by rw [eu, hY]; exact x2.2.2.1.trans u29
  have g30 : u.1 0 30 = v.1 0 30 := by rw [eu, hY]; exact x2.2.2.2.1.trans u30
  refine ⟨_, ?_, ⟨JU.1, JU.2.2⟩, SAw.kp ((AC.tr AY).nt A1) kpu, by rw [eu, hY]; exact x2.2.2.2.2.trans u32, by rw [g30]; exact Int.le_refl _, fun j _ => by rw [g29]⟩
  have t30 : gTok e 30 (v.1 0 47 + 1) = some (v.1 0 47 + 1 + 1) := if_pos O1.2
  have gc : gCond E e (knM K v) (v.1 0 32) (v.1 0 47 + 1) = some (ca, u100.1 0 47 + 1) := by
    unfold gCond
    rw [t30, Option.bind_some, x1, Option.bind_some]
    show (gTok e 31 (u100.1 0 47)).bind _ = _
    rw [gTok_of Q1.2, Option.bind_some]
  have t36 : gTok e 36 (u100.1 0 47 + 1) = some (u100.1 0 47 + 1 + 1) := if_pos N1.2
  unfold gPutS
  rw [gc, Option.bind_some]
  show (gTok e 36 (u100.1 0 47 + 1)).bind _ = _
  rw [t36, Option.bind_some, knM_of g29 g30, eu, hY]
  rfl
set_option maxHeartbeats 1600000 in
theorem oStatW (hX : XWe n K (QME k) E) (hE : HME n K (QME k) Es) (hS : XWs n K c S) (hSs : HMS n K c Ss) (h : Q_m_statement k c v false u) (J : JM n K e v) (nd : ND v) : ∃ a, gStat E S e (knM K v) (v.1 0 32) (v.1 0 47) = some (a, knM K u, u.1 0 47) ∧ SOw n K e v u a := by
  obtain ⟨z1, z2, z3, z4, z5, z6, z15, z8, z9, z10, z11, z12, z13, z14, r3, h3, -, h⟩ := h
  have i3 : r3.toInt ≠ 0 ↔ (e.1 (v.1 0 47)).toInt = 32 := (rIs (g := g00) h3 J (q := (123, 32)) (by decide) rfl).trans (kd_m (m := 32) (by decide))
  have T := rTV J
  have ek : e.1 (v.1 0 47) = _ := rKd (g := g00) J
  unfold gStat
  rcases h with ⟨c3, h⟩ | ⟨c3, h⟩
  · have n32 : ¬ (e.1 (v.1 0 47)).toInt = 32 := fun q => i3.mpr q c3
    rcases h with ⟨c6, r11, h11, -, h⟩ | ⟨c6, h⟩
    · have n3 := kM_n3 (d := v.1 10 (v.1 0 47).toNatClampNeg) T (fun q => c6 (by rw [q]; decide))
      rw [← ek] at n3
      have i11 : r11.toInt ≠ 0 ↔ (e.1 (v.1 0 47)).toInt = 36 := (rIs (g := g00) h11 J (q := (59, 36)) (by decide) rfl).trans (kd_m (m := 36) (by decide))
      rw [if_neg (by omega), if_neg (by omega), if_neg (by omega), if_neg (by omega), if_neg (by omega), if_neg (by omega), if_neg (by omega), if_neg (by omega), if_neg n32]
      rcases h with ⟨c11, h⟩ | ⟨c11, h⟩
      · have n36 : ¬ (e.1 (v.1 0 47)).toInt = 36 := fun q => i11.mpr q c11
        rw [if_neg n36]
        rcases h with ⟨u9, h1, f9, -⟩ | ⟨u15, h1, -, -, eu⟩
        · cases f9
        · rw [eu]
          exact oPlainW hX hE h1 J
      · have k36 := i11.mp c11
        rw [if_pos k36]
        rcases h with ⟨u9, h1, f9, -⟩ | ⟨h1, k1, -, eu⟩
        · cases f9
        · have JT := (rTake (g := g00) h1 J (by show 2 ≤ (e.1 (v.1 0 47)).toInt; omega)).jj
          rw [eu]
          exact ⟨[], rfl, ⟨JT, ndT J k1.1⟩, SAw.oa WAi.w0 rfl rfl rfl rfl rfl rfl rfl rfl, rfl, Int.le_refl _, fun _ _ => rfl⟩
    · have k3 : v.1 6 (v.1 0 47).toNatClampNeg = 3 := Int32.toInt_inj.mp (c6.trans (by decide))
      obtain ⟨y, hy, qy⟩ := T.2.1 k3
      have kdy : e.1 (v.1 0 47) = 10 + y := by
        rw [ek, kM_3 T hy]
        exact ⟨k3, qy⟩
      have vy : (v.2 (v.1 0 47).toNatClampNeg).toInt32 = y := by rw [qy, i64_32]
      have b : ∀ y ∈ KL, 10 ≤ (10 + y : Int32).toInt ∧ (10 + y : Int32).toInt ≤ 20 := by decide
      have hk2 : 2 ≤ (e.1 (v.1 0 47)).toInt := by rw [kdy]; have := b y hy; omega
      rw [vy] at h
      rcases h with ⟨rfl, h⟩ | ⟨n0, h⟩
      · have k0 : (e.1 (v.1 0 47)).toInt = 10 := by rw [kdy]; decide
        rw [if_pos k0]
        rcases h with ⟨u9, h1, f9, -⟩ | ⟨u31, h1, -, -, eu⟩
        · cases f9
        · rw [eu]; exact oLocalW hX hE h1 J hk2
      rcases h with ⟨rfl, h⟩ | ⟨n1, h⟩
      · have k0 : (e.1 (v.1 0 47)).toInt = 11 := by rw [kdy]; decide
        rw [if_neg (by omega), if_pos k0]
        rcases h with ⟨u9, h1, f9, -⟩ | ⟨u31, h1, -, -, eu⟩
        · cases f9
        · rw [eu]; exact oIfMW hX hE hS hSs h1 J hk2
      rcases h with ⟨rfl, u45, h45, -, f9, -⟩ | ⟨n2, h⟩
      · cases f9
      rcases h with ⟨rfl, h⟩ | ⟨n3, h⟩
      · have k0 : (e.1 (v.1 0 47)).toInt = 13 := by rw [kdy]; decide
        rw [if_neg (by omega), if_neg (by omega), if_pos k0]
        rcases h with ⟨u9, h1, f9, -⟩ | ⟨u31, h1, -, -, eu⟩
        · cases f9
        · rw [eu]; exact oWhileW hX hE hS hSs h1 J hk2
      rcases h with ⟨rfl, h⟩ | ⟨n4, h⟩
      · have k0 : (e.1 (v.1 0 47)).toInt = 14 := by rw [kdy]; decide
        rw [if_neg (by omega), if_neg (by omega), if_neg (by omega), if_pos k0]
        rcases h with ⟨u9, h1, f9, -⟩ | ⟨u31, h1, -, -, eu⟩
        · cases f9
        · rw [eu]; exact oDoW hX hE hS hSs h1 J hk2
      rcases h with ⟨rfl, h⟩ | ⟨n5, h⟩
      · have k0 : (e.1 (v.1 0 47)).toInt = 15 := by rw [kdy]; decide
        rw [if_neg (by omega), if_neg (by omega), if_neg (by omega), if_neg (by omega), if_pos k0]
        rcases h with ⟨u9, h1, f9, -⟩ | ⟨u31, h1, -, -, eu⟩
        · cases f9
        · rw [eu]; exact oForW hX hE hS hSs h1 J hk2
      rcases h with ⟨rfl, h⟩ | ⟨n6, h⟩
      · have k0 : (e.1 (v.1 0 47)).toInt = 16 := by rw [kdy]; decide
        rw [if_neg (by omega), if_neg (by omega), if_neg (by omega), if_neg (by omega), if_neg (by omega), if_pos (Or.inl k0)]
        rcases h with ⟨u9, h1, f9, -⟩ | ⟨u31, h1, -, -, eu⟩
        · cases f9
        · rw [eu]; exact oLeaveW h1 J nd (Or.inl kdy)
      rcases h with ⟨rfl, h⟩ | ⟨n7, h⟩
      · have k0 : (e.1 (v.1 0 47)).toInt = 17 := by rw [kdy]; decide
        rw [if_neg (by omega), if_neg (by omega), if_neg (by omega), if_neg (by omega), if_neg (by omega), if_pos (Or.inr k0)]
        rcases h with ⟨u9, h1, f9, -⟩ | ⟨u31, h1, -, -, eu⟩
        · cases f9
        · rw [eu]; exact oLeaveW h1 J nd (Or.inr kdy)
      rcases h with ⟨rfl, h⟩ | ⟨n8, h⟩
      · have k0 : (e.1 (v.1 0 47)).toInt = 18 := by rw [kdy]; decide
        rw [if_neg (by omega), if_neg (by omega), if_neg (by omega), if_neg (by omega), if_neg (by omega), if_neg (by omega), if_pos k0]
        rcases h with ⟨u9, h1, f9, -⟩ | ⟨u31, h1, -, -, eu⟩
        · cases f9
        · rw [eu]; exact oRetW hX hE h1 J hk2
      rcases h with ⟨rfl, h⟩ | ⟨n9, h⟩
      · have k0 : (e.1 (v.1 0 47)).toInt = 19 := by rw [kdy]; decide
        rw [if_neg (by omega), if_neg (by omega), if_neg (by omega), if_neg (by omega), if_neg (by omega), if_neg (by omega), if_neg (by omega), if_pos k0]
        exact oPutW hX hE J hk2 h
      rcases h with ⟨rfl, h⟩ | ⟨n10, h⟩
      · have k0 : (e.1 (v.1 0 47)).toInt = 20 := by rw [kdy]; decide
        rw [if_neg (by omega), if_neg (by omega), if_neg (by omega), if_neg (by omega), if_neg (by omega), if_neg (by omega), if_neg (by omega), if_neg (by omega), if_neg n32, if_neg (by omega)]
        rcases h with ⟨u9, h1, f9, -⟩ | ⟨u31, h1, -, -, eu⟩
        · cases f9
        · rw [eu]; exact oPlainW hX hE h1 J
      · exfalso
        have all : ∀ y ∈ KL, y = 0 ∨ y = 1 ∨ y = 2 ∨ y = 3 ∨ y = 4 ∨ y = 5 ∨ y = 6 ∨ y = 7 ∨ y = 8 ∨ y = 9 ∨ y = 10 := by decide
        rcases all y hy with q | q | q | q | q | q | q | q | q | q | q
        · exact n0 q
        · exact n1 q
        · exact n2 q
        · exact n3 q
        · exact n4 q
        · exact n5 q
        · exact n6 q
        · exact n7 q
        · exact n8 q
        · exact n9 q
        · exact n10 q
  · have k32 := i3.mp c3
    rw [if_neg (by omega), if_neg (by omega), if_neg (by omega), if_neg (by omega), if_neg (by omega), if_neg (by omega), if_neg (by omega), if_neg (by omega), if_pos k32]
    rcases h with ⟨u9, h1, f9, -⟩ | ⟨u154, h1, -, -, eu⟩
    · cases f9
    · rw [eu]; exact oBlockW hS hSs h1 J k32
theorem oSLevW (hX : ∀ m, m ≤ 50 → XWe n K (QME m) E) (hE : ∀ m, m ≤ 50 → HME n K (QME m) Es) (hEb : ∀ e s, (kd e s).toInt = 12 → Es true e s = tBad e s) : ∀ k N : Nat, k ≤ N → k ≤ 50 → XWs n K (QMS k) (geS E N) := by
  intro k
  induction k with
  | zero =>
    intro N _ _
    have p : XWs n K (pMS 0) (hgS E N) := fun _ _ _ h => h.elim
    have p' : HMS n K (pMS 0) (qS Es N) := fun _ _ _ _ _ h => h.elim
    intro e v u h _ J nd
    rw [QMS_eq] at h
    rw [geS_eq]
    exact oStatW (hX _ (by omega)) (hE _ (by omega)) p p' h J nd
  | succ k ih =>
    intro N h1 h2
    cases N with
    | zero => omega
    | succ N =>
      have p : XWs n K (pMS (k + 1)) (hgS E (N + 1)) := ih N (by omega) (by omega)
      have p' : HMS n K (pMS (k + 1)) (tS Es N) := mStat hE hEb k N (by omega) (by omega)
      intro e v u h _ J nd
      rw [QMS_eq] at h
      rw [geS_eq]
      exact oStatW (hX _ (by omega)) (hE _ (by omega)) p p' h J nd
end ZZK
