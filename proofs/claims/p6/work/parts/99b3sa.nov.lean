/-! a text that is read to its end has at most 500 calls -/
def INV (c : Int) (s : PS) : Prop := (pAt s).toInt ≤ 1500 ∧ ((pOv s = false ∧ 3 * ((pCa s).length : Int) ≤ (pAt s).toInt + c) ∨ (pOv s = true ∧ (1503 : Int) ≤ (pAt s).toInt + c))
def GX {α : Type} (p : α → PS) (c : Int) (x : PX α) : Prop := ∀ a, x = .ok a → INV c (p a)
abbrev idp (s : PS) : PS := s
section NOV
variable {α β : Type} {p : α → PS} {q : β → PS} {c d : Int} {e : PE} {s : PS} {E : FE} {O : FO} {S : FS} {k x : Int32} {m : Int}
theorem gx_er {f : Flt} : GX p c (.error f) := fun a h => by cases h
theorem gx_ok {a : α} (h : INV c (p a)) : GX p c (.ok a) := fun b w => by
  rw [← Except.ok.inj w]
  exact h
theorem gx_bd {x : PX α} {f : α → PX β} (h : GX p c x) (k : ∀ a, INV c (p a) → GX q d (f a)) : GX q d (bd x f) := by
  cases x with
  | error f => exact gx_er
  | ok a => exact k a (h a rfl)
theorem gx_bb {x : PX α} {f : α → PX β} (h : GX p c x) (k : ∀ a, INV c (p a) → GX q c (f a)) : GX q c (bd x f) := gx_bd h k
theorem gx_if {P : Prop} [Decidable P] {a b : PX α} (h : GX p c a) (k : GX p c b) : GX p c (if P then a else b) := by
  split
  · exact h
  · exact k
theorem i_if {P : Prop} [Decidable P] {a b : PS} (h : INV c a) (k : INV c b) : INV c (if P then a else b) := by
  split
  · exact h
  · exact k
theorem i_wk (h : INV c s) (hd : c ≤ d) : INV d s := by
  rcases h with ⟨l, ⟨a, b⟩ | ⟨a, b⟩⟩
  · exact ⟨l, Or.inl ⟨a, by omega⟩⟩
  · exact ⟨l, Or.inr ⟨a, by omega⟩⟩
theorem i_sb {s : PS} (h : INV c s) : INV c (idp s) := h
theorem i_em (h : INV c s) : INV c (em k s) := by
  unfold em
  split
  · exact h
  · exact h
theorem i_cl (h : INV c s) : INV c (tClose s) := h
theorem i_op (h : INV c s) : INV c (sOp s x) := h
theorem i_pb (h : INV c s) : INV c (sPb s x) := h
theorem i_mo (h : INV c s) : INV c (sMo s x) := h
theorem i_bl (h : INV c s) : INV c (sBl s x) := h
theorem i_du {y : Bool} (h : INV c s) : INV c (sDu s y) := h
theorem i_lo {y : Bool} (h : INV c s) : INV c (sLo s y) := h
theorem i_kn {l : List Int32} (h : INV c s) : INV c (sKn s x l) := h
theorem i_rem (h : INV c s) : INV c (tRem k s) := h
theorem i_mm (h : INV c s) : INV c (sMm s x) := by
  unfold sMm
  split
  · exact h
  · exact h
theorem i_due (h : INV c s) : INV c (tDue k s) := by
  unfold tDue
  split
  · exact h
  · exact i_mm h
theorem i_end (h : INV c s) : INV c (tEnd k s) := by
  unfold tEnd
  split
  · exact i_em h
  · exact i_em h
theorem i_learn (h : INV c s) : INV c (tLearn x s) := by
  unfold tLearn
  split
  · exact h
  · exact h
theorem i_back {s0 : PS} (h : INV c s) : INV c (tBack s0 s) := h
theorem i_beg (h : INV c s) : INV c (tBegF s) := h
theorem g_take1 (h : INV (c + 1) s) : GX idp c (tTake e s) := by
  unfold tTake
  split
  · exact gx_er
  · rename_i q
    have l : (pAt s).toInt < 1500 := by
      have : ¬ (1500 : Int) ≤ (pAt s).toInt := fun w => q (Or.inl w)
      omega
    have l2 := Int32.le_toInt (pAt s)
    have e1 : (pAt s + 1).toInt = (pAt s).toInt + 1 := add_z rfl (by decide) (by omega) (by omega)
    refine gx_ok ?_
    refine ⟨show (pAt s + 1).toInt ≤ 1500 by omega, ?_⟩
    rcases h with ⟨-, ⟨a, b⟩ | ⟨a, b⟩⟩
    · refine Or.inl ⟨a, ?_⟩
      show 3 * ((pCa s).length : Int) ≤ (pAt s + 1).toInt + c
      omega
    · refine Or.inr ⟨a, ?_⟩
      show (1503 : Int) ≤ (pAt s + 1).toInt + c
      omega
theorem g_take (h : INV c s) : GX idp c (tTake e s) := g_take1 (i_wk h (by omega))
theorem g_bad : GX p c (tBad e s) := gx_er
theorem g_need (h : INV c s) : GX idp c (tNeed m e s) := gx_if (gx_ok h) g_bad
theorem g_exp1 (h : INV (c + 1) s) : GX idp c (tExp m e s) := gx_bd (g_need h) (fun _ k => g_take1 k)
theorem g_exp (h : INV c s) : GX idp c (tExp m e s) := gx_bd (g_need h) (fun _ k => g_take k)
theorem g_open1 (h : INV (c + 1) s) : GX idp c (tOpen e s) := gx_if gx_er (gx_bd (g_take1 h) (fun _ k => gx_ok (i_op k)))
theorem g_open (h : INV c s) : GX idp c (tOpen e s) := g_open1 (i_wk h (by omega))
theorem g_want (h : INV c s) : GX idp c (tWant x e s) := gx_if gx_er (gx_ok (i_mm h))
theorem setA_len {l : CA} : ∀ {c : Nat} {n : Int32}, (setA l c n).length = l.length := by
  induction l with
  | nil => intro c n; rfl
  | cons q t ih =>
    intro c n
    cases c with
    | zero => rfl
    | succ c => exact congrArg (· + 1) ih
theorem i_add {y : Int32} (h : INV c s) : INV (c + 3) (tAddCall x y s) := by
  unfold tAddCall
  obtain ⟨l, h⟩ := h
  rcases h with ⟨a, b⟩ | ⟨a, b⟩
  · rw [if_neg (by rw [a]; exact Bool.false_ne_true)]
    split
    · refine ⟨l, Or.inr ⟨rfl, ?_⟩⟩
      show (1503 : Int) ≤ (pAt s).toInt + (c + 3)
      omega
    · refine ⟨l, Or.inl ⟨rfl, ?_⟩⟩
      show 3 * (((pCa s ++ [(x, y, 0)]).length : Nat) : Int) ≤ (pAt s).toInt + (c + 3)
      rw [List.length_append]
      show 3 * (((pCa s).length + 1 : Nat) : Int) ≤ (pAt s).toInt + (c + 3)
      omega
  · rw [if_pos a]
    exact ⟨l, Or.inr ⟨a, by omega⟩⟩
theorem i_ec {n : Nat} (h : INV c s) : INV c (tEndCall n x s) := by
  unfold tEndCall
  split
  · exact h
  · rename_i q
    obtain ⟨l, h⟩ := h
    rcases h with ⟨a, b⟩ | ⟨a, b⟩
    · refine ⟨l, Or.inl ⟨rfl, ?_⟩⟩
      show 3 * (((setA (pCa s) n x).length : Nat) : Int) ≤ (pAt s).toInt + c
      rw [setA_len]
      exact b
    · exact absurd a q
abbrev HVE (E : FE) : Prop := ∀ (b : Bool) (e : PE) (s : PS) (c : Int), INV c s → GX idp c (E b e s)
abbrev HVO (O : FO) : Prop := ∀ (b : Bool) (e : PE) (s : PS) (c : Int), INV c s → GX Prod.snd c (O b e s)
abbrev HVS (S : FS) : Prop := ∀ (e : PE) (s : PS) (c : Int), INV c s → GX idp c (S e s)
theorem g_index (hE : HVE E) (h : INV c s) : GX idp c (tIndex E e s) := gx_bd (g_open h) fun s1 h1 => gx_bd (hE _ _ _ _ h1) fun s2 h2 => gx_bd (g_exp h2) fun s3 h3 => gx_ok (i_em (i_cl h3))
theorem g_change (hE : HVE E) {row sl : Bool} (h : INV c s) : GX idp c (tChange E row sl e s) := gx_bd (g_want h) fun s1 h1 => gx_bd (g_open (i_if h1 (i_rem h1))) fun s2 h2 => gx_bd (hE _ _ _ _ (i_pb (i_em h2))) fun s3 h3 => gx_ok (i_cl (i_em (i_pb h3)))
theorem g_args (hE : HVE E) : ∀ {f : Nat} {k : Int32} {s : PS}, INV c s → GX Prod.snd c (tArgs E f k e s) := by
  intro f
  induction f with
  | zero => intro k s h; exact gx_er
  | succ f ih =>
    intro k s h
    refine gx_bd (hE _ _ _ _ (i_due h)) (fun s1 h1 => gx_if (gx_bd (g_take (i_pb (i_em h1))) (fun s2 h2 => ih h2)) (gx_ok (i_pb (i_em h1))))
theorem g_call (hE : HVE E) (h : INV c s) : GX idp c (tCall E e s) := by
  unfold tCall
  refine gx_bd (g_take1 (c := c + 2) (i_wk (i_add h) (by omega))) (fun s1 h1 => gx_bd (g_open1 (c := c + 1) (i_wk h1 (by omega))) (fun s2 h2 => gx_bd (p := Prod.snd) (c := c + 1) (gx_if (gx_ok h2) (g_args hE h2)) (fun q h3 => gx_bd (g_exp1 h3) (fun s3 h4 => gx_ok (i_ec (i_pb (i_cl h4)))))))
theorem g_named (hE : HVE E) {st : Bool} (h : INV c s) : GX Prod.snd c (tNamed E st e s) := gx_if (gx_if gx_er (gx_bd (g_call hE h) fun s1 h1 => gx_ok h1)) (gx_if gx_er (gx_bd (g_take h) fun s1 h1 => gx_bd (p := idp) (gx_if (g_index hE h1) (gx_ok h1)) fun s2 h2 => gx_if (gx_bd (g_change hE h2) fun s3 h3 => gx_ok h3) (gx_ok (i_em h2))))
theorem g_operand (hE : HVE E) (hO : HVO O) {st : Bool} (h : INV c s) : GX Prod.snd c (tOperand E O st e s) := gx_if (gx_bd (g_open h) fun s1 h1 => gx_bd (hO _ _ _ _ h1) fun q h2 => gx_ok (i_em (i_cl h2))) (gx_if (gx_bd (g_take h) fun s1 h1 => gx_ok (i_em h1)) (gx_if gx_er (gx_if (gx_bd (g_take h) fun s1 h1 => gx_bd (g_need h1) fun s2 h2 => gx_bd (g_open h2) fun s3 h3 => gx_bd (g_exp h3) fun s4 h4 => gx_ok (i_em (i_cl h4))) (gx_if (gx_bd (g_open h) fun s1 h1 => gx_bd (hE _ _ _ _ h1) fun s2 h2 => gx_bd (g_exp h2) fun s3 h3 => gx_ok (i_cl h3)) (gx_if (g_named hE h) g_bad)))))
theorem g_begin (h : INV c s) : GX idp c (tBegin k e s) := gx_if (gx_ok (i_em h)) (gx_if (gx_ok (i_em h)) (gx_bd (g_want h) fun s1 h1 => gx_ok (i_rem (i_pb (i_em h1)))))
theorem g_J (hO : HVO O) : ∀ {f : Nat} {m : Int} {s : PS}, INV c s → GX idp c (tJ O f m e s) := by
  intro f
  induction f with
  | zero => intro k s h; exact gx_er
  | succ f ih =>
    intro k s h
    exact gx_if (gx_ok h) (gx_bd (g_begin h) (fun s1 h1 => gx_bd (g_take h1) (fun s2 h2 => gx_bd (hO _ _ _ _ h2) (fun q h3 => gx_bd (ih h3) (fun s3 h4 => ih (i_end h4))))))
theorem g_quest (hE : HVE E) (h : INV c s) : GX idp c (tQuest E e s) := gx_if (gx_bd (g_open h) fun s1 h1 => gx_bd (hE _ _ _ _ (i_em h1)) fun s2 h2 => gx_bd (g_exp h2) fun s3 h3 => gx_bd (hE _ _ _ _ (i_em h3)) fun s4 h4 => gx_ok (i_cl h4)) (gx_ok h)
theorem g_expr (hE : HVE E) (hO : HVO O) : HVE (tExpr E O) := fun b e s c h => gx_bd (hO _ _ _ _ h) (fun q h1 => gx_if (gx_ok h1) (gx_bd (g_J hO h1) (fun s2 h2 => g_quest hE h2)))
theorem g_nE : HVE nE := fun _ _ _ _ _ => gx_er
theorem g_nO : HVO nO := fun _ _ _ _ _ => gx_er
theorem g_lev : ∀ n : Nat, HVE (TLV n).1 ∧ HVO (TLV n).2 := by
  intro n
  induction n with
  | zero => exact ⟨g_expr g_nE (fun _ _ _ _ h => g_operand g_nE g_nO h), fun _ _ _ _ h => g_operand g_nE g_nO h⟩
  | succ n ih => exact ⟨g_expr ih.1 (fun _ _ _ _ h => g_operand ih.1 ih.2 h), fun _ _ _ _ h => g_operand ih.1 ih.2 h⟩
theorem g_cond (hE : HVE E) (h : INV c s) : GX idp c (tCond E e s) := gx_bd (g_need h) fun s1 h1 => gx_bd (g_open h1) fun s2 h2 => gx_bd (hE _ _ _ _ h2) fun s3 h3 => gx_bd (g_exp h3) fun s4 h4 => gx_ok (i_cl h4)
theorem g_new (h : INV c s) : GX idp c (tNew e s) := gx_bd (g_need h) fun s1 h1 => gx_if gx_er (gx_ok h1)
theorem g_local (hE : HVE E) (h : INV c s) : GX idp c (tLocal E e s) := gx_bd (g_take h) fun s1 h1 => gx_bd (g_new h1) fun s2 h2 => gx_bd (g_want h2) fun s3 h3 => gx_bd (g_take h3) fun s4 h4 => gx_bd (p := idp) (gx_if (gx_bd (g_take h4) fun s5 h5 => hE _ _ _ _ h5) (gx_ok (i_em h4))) fun s6 h6 => gx_bd (g_exp (i_em h6)) fun s7 h7 => gx_ok (i_learn h7)
theorem g_jump (h : INV c s) : GX idp c (tJump e s) := gx_bd (g_take h) fun s1 h1 => gx_if (g_exp (i_em h1)) gx_er
theorem g_ret (hE : HVE E) (h : INV c s) : GX idp c (tRet E e s) := gx_bd (g_take h) fun s1 h1 => gx_bd (p := idp) (gx_if (gx_ok (i_em h1)) (hE _ _ _ _ h1)) fun s2 h2 => g_exp (i_em h2)
theorem g_put (hE : HVE E) (h : INV c s) : GX idp c (tPut E e s) := gx_bd (g_take h) fun s1 h1 => gx_bd (g_cond hE h1) fun s2 h2 => g_exp (i_em h2)
theorem g_inner (hS : HVS S) (h : INV c s) : GX idp c (tInner S e s) := gx_bd (hS _ _ _ (i_bl h)) fun s1 h1 => gx_ok (i_back h1)
theorem g_stats (hS : HVS S) : ∀ {f : Nat} {s : PS}, INV c s → GX idp c (tStats S f e s) := by
  intro f
  induction f with
  | zero => intro s h; exact gx_er
  | succ f ih => intro s h; exact gx_if (gx_ok h) (gx_bd (hS _ _ _ h) (fun s1 h1 => ih h1))
theorem g_block (hS : HVS S) (h : INV c s) : GX idp c (tBlock S e s) := gx_bd (g_open (i_bl h)) fun s1 h1 => gx_bd (g_stats hS h1) fun s2 h2 => gx_bd (g_exp h2) fun s3 h3 => gx_ok (i_back (i_cl h3))
theorem g_ifs (hE : HVE E) (hS : HVS S) (h : INV c s) : GX idp c (tIf E S e s) := gx_bd (g_open h) fun s1 h1 => gx_bd (g_cond hE h1) fun s2 h2 => gx_bd (g_inner hS (i_em h2)) fun s3 h3 => gx_if (gx_bd (g_take h3) fun s4 h4 => gx_bd (g_inner hS (i_em h4)) fun s5 h5 => gx_ok (i_cl h5)) (gx_ok (i_cl h3))
theorem g_lp (hS : HVS S) (h : INV c s) : GX idp c (tLp S e s) := gx_bd (g_inner hS (i_lo h)) fun s1 h1 => gx_ok (i_lo h1)
theorem g_while (hE : HVE E) (hS : HVS S) (h : INV c s) : GX idp c (tWhile E S e s) := gx_bd (g_cond hE h) fun s1 h1 => gx_bd (g_lp hS (i_em h1)) fun s2 h2 => gx_ok (i_em h2)
theorem g_do (hE : HVE E) (hS : HVS S) (h : INV c s) : GX idp c (tDo E S e s) := gx_bd (g_lp hS h) fun s1 h1 => gx_bd (g_exp h1) fun s2 h2 => gx_bd (g_cond hE h2) fun s3 h3 => g_exp (i_em h3)
theorem g_opt (hE : HVE E) (h : INV c s) : GX Prod.snd c (tOpt E m e s) := gx_if (gx_ok h) (gx_bd (hE _ _ _ _ h) fun s1 h1 => gx_ok h1)
theorem g_for (hE : HVE E) (hS : HVS S) (h : INV c s) : GX idp c (tFor E S e s) := gx_bd (g_need h) fun s1 h1 => gx_bd (g_open h1) fun s2 h2 => gx_bd (g_opt hE h2) fun q3 h3 => gx_bd (g_exp h3) fun s4 h4 => gx_bd (g_opt hE h4) fun q5 h5 => gx_bd (g_exp (i_if (i_em h5) h5)) fun s6 h6 => gx_bd (g_opt hE (i_em h6)) fun q7 h7 => gx_bd (g_exp h7) fun s8 h8 => gx_bd (g_lp hS (i_em (i_cl h8))) fun s9 h9 => gx_ok (i_em h9)
theorem g_loop (hE : HVE E) (hS : HVS S) (h : INV c s) : GX idp c (tLoop m E S e s) := gx_bd (g_open h) (fun s1 h1 => gx_bd (p := idp) (gx_if (g_while hE hS h1) (gx_if (g_do hE hS h1) (g_for hE hS h1))) (fun s2 h2 => gx_ok (i_cl h2)))
theorem g_stat (hE : HVE E) (hS : HVS S) : HVS (tStat E S) := fun e s c h => gx_if (g_local hE h) (gx_if (g_ifs hE hS h) (gx_if (g_loop hE hS h) (gx_if (g_jump h) (gx_if (g_ret hE h) (gx_if (g_put hE h) (gx_if (g_block hS h) (gx_if (g_take h) (gx_bd (hE _ _ _ _ h) (fun s1 h1 => g_exp h1)))))))))
theorem g_S (hE : HVE E) : ∀ n : Nat, HVS (tS E n) := by
  intro n
  induction n with
  | zero => exact g_stat hE (fun _ _ _ _ => gx_er)
  | succ n ih => exact g_stat hE ih
theorem g_param (h : INV c s) : GX idp c (tParam e s) := gx_bd (g_exp h) fun s1 h1 => gx_bd (g_new h1) fun s2 h2 => gx_if gx_er (gx_bd (g_want h2) fun s3 h3 => gx_bd (g_take h3) fun s4 h4 => gx_ok (i_learn h4))
theorem g_moreP : ∀ {f : Nat} {s : PS}, INV c s → GX idp c (tMoreP f e s) := by
  intro f
  induction f with
  | zero => intro s h; exact gx_er
  | succ f ih => intro s h; exact gx_if (gx_bd (g_take h) (fun s1 h1 => gx_bd (g_param h1) (fun s2 h2 => ih h2))) (gx_ok h)
theorem g_params (h : INV c s) : GX idp c (tParams e s) := gx_bd (g_open h) (fun s1 h1 => gx_bd (p := idp) (gx_if (gx_ok h1) (gx_bd (g_param h1) (fun s2 h2 => g_moreP h2))) (fun s3 h3 => gx_bd (g_exp h3) (fun s4 h4 => gx_ok (i_cl h4))))
theorem g_body (hS : HVS S) (h : INV c s) : GX idp c (tBody S e s) := gx_bd (g_need h) fun s1 h1 => gx_bd (g_open h1) fun s2 h2 => gx_bd (g_stats hS h2) fun s3 h3 => gx_bd (g_exp h3) fun s4 h4 => gx_ok (i_em (i_em (i_cl h4)))
theorem g_func (hS : HVS S) (h : INV c s) : GX (fun q => q.1) c (tFunc S e s) := gx_bd (g_take (i_beg h)) (fun s1 h1 => gx_bd (g_params h1) (fun s2 h2 => gx_bd (g_body hS (i_lo (i_em h2))) (fun s3 h3 => gx_ok h3)))
variable {K : TK} {y : IS}
theorem g_fitem (hS : HVS S) (h : INV c y.1) : GX (fun q : IS => q.1) c (tFItem S K y) := gx_if gx_er (gx_bd (g_func hS h) (fun q h1 => gx_ok (i_beg h1)))
theorem g_rown (h : INV c s) : GX Prod.snd c (tRowN e s) := gx_bd (g_open h) (fun s1 h1 => gx_if gx_er (gx_bd (g_need h1) (fun s2 h2 => gx_if gx_er (gx_bd (g_take h2) (fun s3 h3 => gx_bd (g_exp h3) (fun s4 h4 => gx_ok (i_cl h4)))))))
theorem g_gitem (h : INV c y.1) : GX (fun q : IS => q.1) c (tGItem K y) := gx_if gx_er (gx_bd (g_take h) (fun s1 h1 => gx_bd (p := Prod.snd) (gx_if (g_rown h1) (gx_ok h1)) (fun q h2 => gx_bd (g_exp h2) (fun s3 h3 => gx_ok h3))))
theorem g_head (h : INV c y.1) : GX (fun q : IS => q.1) c (tHead K y) := gx_bd (g_exp h) (fun s1 h1 => gx_bd (g_need h1) (fun s2 h2 => gx_if gx_er (gx_ok h2)))
theorem g_item (hS : HVS S) (h : INV c y.1) : GX (fun q : IS => q.1) c (tItem S K y) := gx_bd (g_head h) (fun z h1 => gx_if (g_fitem hS h1) (g_gitem h1))
theorem g_items (hS : HVS S) : ∀ {f : Nat} {y : IS}, INV c y.1 → GX (fun q : IS => q.1) c (tItems S K f y) := by
  intro f
  induction f with
  | zero => intro y h; exact gx_er
  | succ f ih => intro y h; exact gx_if (gx_ok h) (gx_bd (g_item hS h) (fun z h1 => ih h1))
theorem g_nov (hS : HVS S) {f : Nat} (h : tItems S K f X0 = .ok y) : pOv y.1 = false ∧ (pAt y.1).toInt ≤ 1500 ∧ 3 * ((pCa y.1).length : Int) ≤ (pAt y.1).toInt := by
  have i0 : INV 0 X0.1 := ⟨by decide, Or.inl ⟨rfl, by decide⟩⟩
  have q : INV 0 y.1 := g_items hS i0 y h
  obtain ⟨l, ⟨a, b⟩ | ⟨a, b⟩⟩ := q
  · exact ⟨a, l, by omega⟩
  · omega
end NOV
def EP : FE := tE 50
def SP : FS := tS EP 50
theorem EP_v : HVE EP := (g_lev 50).1
theorem SP_v : HVS SP := g_S EP_v 50
theorem nov_P {K : TK} {y : IS} (h : tItems SP K 1502 X0 = .ok y) : pOv y.1 = false := (g_nov SP_v h).1
theorem EP_b (e : PE) (s : PS) (h : (kd e s).toInt = 12) : EP true e s = tBad e s := by
  have o : tOperand (tE 49) (tO 49) true e s = tBad e s := by
    unfold tOperand
    rw [if_neg (by omega), if_neg (by omega), if_neg (by omega), if_neg (by omega), if_neg (by omega), if_neg (by omega)]
  show bd (tOperand (tE 49) (tO 49) true e s) _ = _
  rw [o]
  unfold tBad
  exact bd_er
theorem SP_m {n : Int} {K : TK} : HMS n K (QMS 40) SP := mStat (fun m hm => (mLev m 50 hm).2.2) EP_b 40 50 (by decide) (by decide)
theorem SP_c {L1 L2 : List Nat} : HS L2 (QS L1 L2 39) SP := sLev (fun m hm => (cLev m 50 hm).2) 39 50 (by decide) (by decide)
