/-! the reference's orders: the smallest steps -/
section WBP
variable {K : TK} {v u w x y : MS} {a b c : List EV} {o z r pa pb : Int32} {e : PE} {n : Int}
theorem OA.wa {i j : Nat} {x9 : Int32} (h : i ∉ [0, 13, 14, 25, 35, 38] := by decide) : OA K v (wA v i j x9) [] := by
  have A : ∀ {b : Nat}, b ∈ [0, 13, 14, 25, 35, 38] → (wA v i j x9).1 b = v.1 b := fun hb => if_neg (fun q => h (by rw [← q]; exact hb))
  have e0 : ∀ k, (wA v i j x9).1 0 k = v.1 0 k := fun k => by rw [A (by decide)]
  refine OA.of0 ⟨⟨by rw [e0]; exact Int.le_refl _, fun _ _ => ⟨by rw [A (by decide)], by rw [A (by decide)]⟩⟩, ⟨by rw [e0]; exact Int.le_refl _, fun _ _ => ⟨by rw [A (by decide)], by rw [A (by decide)]⟩⟩, e0 27, A (by decide)⟩ (e0 15) (e0 39)
theorem OA.w0 {j : Nat} {x9 : Int32} (h : j ∉ [15, 27, 39] := by decide) : OA K v (wA v 0 j x9) [] := by
  have e0 : ∀ k, k ∈ [15, 27, 39] → (wA v 0 j x9).1 0 k = v.1 0 k := fun k hk => show upd (v.1 0) j x9 k = _ from updN_ (fun q => h (by rw [← q]; exact hk))
  exact OA.of0 ⟨⟨by rw [e0 15 (by decide)]; exact Int.le_refl _, fun _ _ => ⟨rfl, rfl⟩⟩, ⟨by rw [e0 39 (by decide)]; exact Int.le_refl _, fun _ _ => ⟨rfl, rfl⟩⟩, e0 27 (by decide), rfl⟩ (e0 15 (by decide)) (e0 39 (by decide))
theorem OA.nt (h : OA K v u a) (k : OA K u w []) (h0 : 0 ≤ (v.1 0 15).toInt) : OA K v w a := by
  have T := h.tr k h0
  rw [List.append_nil] at T
  exact T
theorem OA.tn (h : OA K v u []) (k : OA K u w a) (h0 : 0 ≤ (v.1 0 15).toInt) : OA K v w a := h.tr k h0
/-- a word -/
theorem OA.em {i : Nat} {x9 y9 : Int32} : OA K v (wA (wA v 11 i x9) 0 12 y9) [] := by
  have A : OA K v (wA v 11 i x9) [] := OA.wa
  have B : OA K (wA v 11 i x9) (wA (wA v 11 i x9) 0 12 y9) [] := OA.w0
  exact OA.of0 (A.2.1.tr B.2.1) rfl rfl
theorem oLoads (h : Q_m_loads v pa u) : OA K v u [evx 2 pa 0] := by
  obtain ⟨z12, z15, h⟩ := h
  rcases h with ⟨-, r11, -, r14, -, r21, -, r24, -, rfl⟩ | ⟨-, ⟨-, r34, -, r37, -, r44, -, r47, -, rfl⟩ | ⟨-, r55, -, rfl⟩⟩
  · exact OA.say (o := 0) (z := pa) rfl rfl rfl ⟨z15.1, by omega⟩ rfl rfl ⟨rfl, rfl, rfl⟩ loE1 rfl (show upd (v.1 14) _ pa _ = pa from updS)
  · exact OA.say (o := 0) (z := pa) rfl rfl rfl ⟨z15.1, by omega⟩ rfl rfl ⟨rfl, rfl, rfl⟩ loE1 rfl (show upd (v.1 14) _ pa _ = pa from updS)
  · exact OA.say (o := 0) (z := pa) rfl rfl rfl ⟨z15.1, by omega⟩ rfl rfl ⟨rfl, rfl, rfl⟩ loE1 rfl (show upd (v.1 14) _ pa _ = pa from updS)
theorem oFetch (h : Q_m_fetch v pa pb u) : OA K v u [if 0 ≤ pa.toInt then evx 3 pa 0 else evx 5 pb 0] := by
  obtain ⟨z12, z15, z43, z27, h⟩ := h
  rcases h with ⟨c, r6, -, u12, -, k12, r17, -, u24, -, k24, rfl⟩ | ⟨c, r43, -, r46, -, rfl⟩
  · rw [if_neg (by omega)]
    have A1 : OA K v (wA (wA v 11 ((v.1 0 12).toNatClampNeg) r6) 0 12 ((v.1 0 12) + (1 : Int32))) [] := OA.em
    have A3 : OA K u12 (wA (wA u12 11 ((u12.1 0 12).toNatClampNeg) r17) 0 12 ((u12.1 0 12) + (1 : Int32))) [] := OA.em
    have A : OA K v u24 [] := ((A1.nt (OA.fg k12.1) z15.1).nt A3 z15.1).nt (OA.fg k24.1) z15.1
    have e15 : u24.1 0 15 = v.1 0 15 := by
      rw [k24.1.2.1 15 (by decide)]
      show u12.1 0 15 = _
      rw [k12.1.2.1 15 (by decide)]
      rfl
    have e27 : u24.1 0 27 = v.1 0 27 := A.2.1.2.2.1
    refine A.tn (OA.say (o := 3) (z := u24.1 25 pb.toNatClampNeg) rfl rfl rfl ⟨by rw [e15]; exact z15.1, by rw [e15]; omega⟩ rfl rfl ⟨rfl, rfl, rfl⟩ loE1 rfl ?_) z15.1
    show (pb.toNatClampNeg : Int) < (u24.1 0 27).toInt ∧ upd (u24.1 14) _ (u24.1 25 pb.toNatClampNeg) _ = u24.1 25 pb.toNatClampNeg
    have pb0 : 0 ≤ pb.toInt ∧ pb.toInt < (v.1 0 27).toInt := by
      rcases z27.1 with q | q
      · omega
      · exact q
    have nb := natI pb0.1
    exact ⟨by rw [e27]; omega, updS⟩
  · rw [if_pos c]
    exact OA.say (o := 1) (z := pa) rfl rfl rfl ⟨z15.1, by omega⟩ rfl rfl ⟨rfl, rfl, rfl⟩ loE1 rfl (show upd (v.1 14) _ pa _ = pa from updS)
theorem oStore (h : Q_m_store v pa pb u) : OA K v u [if 0 ≤ pa.toInt then evx 4 pa 1 else evx 6 pb 0] := by
  obtain ⟨z12, z15, z43, z27, h⟩ := h
  rcases h with ⟨c, r6, -, u12, -, k12, r17, -, u24, -, k24, rfl⟩ | ⟨c, r43, -, r46, -, rfl⟩
  · rw [if_neg (by omega)]
    have A1 : OA K v (wA (wA v 11 ((v.1 0 12).toNatClampNeg) r6) 0 12 ((v.1 0 12) + (1 : Int32))) [] := OA.em
    have A3 : OA K u12 (wA (wA u12 11 ((u12.1 0 12).toNatClampNeg) r17) 0 12 ((u12.1 0 12) + (1 : Int32))) [] := OA.em
    have A : OA K v u24 [] := ((A1.nt (OA.fg k12.1) z15.1).nt A3 z15.1).nt (OA.fg k24.1) z15.1
    have e15 : u24.1 0 15 = v.1 0 15 := by
      rw [k24.1.2.1 15 (by decide)]
      show u12.1 0 15 = _
      rw [k12.1.2.1 15 (by decide)]
      rfl
    have e27 : u24.1 0 27 = v.1 0 27 := A.2.1.2.2.1
    refine A.tn (OA.say (o := 4) (z := u24.1 25 pb.toNatClampNeg) rfl rfl rfl ⟨by rw [e15]; exact z15.1, by rw [e15]; omega⟩ rfl rfl ⟨rfl, rfl, rfl⟩ loE1 rfl ?_) z15.1
    show (pb.toNatClampNeg : Int) < (u24.1 0 27).toInt ∧ upd (u24.1 14) _ (u24.1 25 pb.toNatClampNeg) _ = u24.1 25 pb.toNatClampNeg
    have pb0 : 0 ≤ pb.toInt ∧ pb.toInt < (v.1 0 27).toInt := by
      rcases z27.1 with q | q
      · omega
      · exact q
    have nb := natI pb0.1
    exact ⟨by rw [e27]; omega, updS⟩
  · rw [if_pos c]
    exact OA.say (o := 2) (z := pa) rfl rfl rfl ⟨z15.1, by omega⟩ rfl rfl ⟨rfl, rfl, rfl⟩ rfl rfl (show upd (v.1 14) _ pa _ = pa from updS)
theorem oOper {zz : Int32 × Int32} {s : Int32} (hz : zz ∈ SC) (h1 : zz.1 = pa) (h : Q_m_operate v pa u) : OA K v u [evx 20 zz.2 s] := by
  obtain ⟨z12, z15, z43, h⟩ := h
  have S : ∀ {w : MS}, w.1 13 = upd (v.1 13) (v.1 0 15).toNatClampNeg 21 → w.1 14 = upd (v.1 14) (v.1 0 15).toNatClampNeg pa → w.1 0 15 = v.1 0 15 + 1 → w.1 0 39 = v.1 0 39 → w.1 0 27 = v.1 0 27 → (w.1 35 = v.1 35 ∧ w.1 38 = v.1 38 ∧ w.1 25 = v.1 25) → OA K v w [evx 20 zz.2 s] := fun {w} g1 g2 g3 g4 g5 g6 => OA.say (o := 21) (z := pa) g1 g2 g3 ⟨z15.1, by omega⟩ g4 g5 g6 loE1 rfl ⟨zz, hz, rfl, by rw [g2, h1]; exact updS⟩
  have p15 : (v.1 0 15 + 1).toInt = (v.1 0 15).toInt + 1 := add_z rfl (by decide) (by omega) (by omega)
  rcases h with ⟨-, r11, -, rfl⟩ | ⟨-, ⟨-, u22, -, k22, rfl⟩ | ⟨-, ⟨-, r30, -, rfl⟩ | ⟨-, ⟨-, r38, -, rfl⟩ | ⟨-, ⟨-, r46, -, rfl⟩ | ⟨-, ⟨-, r54, -, rfl⟩ | ⟨-, ⟨-, r62, -, rfl⟩ | ⟨-, ⟨-, r70, -, rfl⟩ | ⟨-, ⟨-, r78, -, rfl⟩ | ⟨-, ⟨-, r86, -, r93, -, rfl⟩ | ⟨-, ⟨-, r101, -, r108, -, rfl⟩ | ⟨-, ⟨-, r116, -, r123, -, rfl⟩ | ⟨-, ⟨-, r131, -, r138, -, rfl⟩ | ⟨-, ⟨-, r146, -, rfl⟩ | ⟨-, u156, -, k156, ⟨-, rfl⟩ | ⟨-, r166, -, rfl⟩⟩⟩⟩⟩⟩⟩⟩⟩⟩⟩⟩⟩⟩⟩
  · exact S rfl rfl rfl rfl rfl ⟨rfl, rfl, rfl⟩
  · exact (S (w := wA (wA (wA (wA (wA v 13 ((v.1 0 15).toNatClampNeg) (21 : Int32)) 14 ((v.1 0 15).toNatClampNeg) pa) 0 15 ((v.1 0 15) + (1 : Int32))) 11 ((v.1 0 12).toNatClampNeg) (0 : Int32)) 0 12 ((v.1 0 12) + (1 : Int32))) rfl rfl rfl rfl rfl ⟨rfl, rfl, rfl⟩).nt (OA.fg k22.1) z15.1
  · exact S rfl rfl rfl rfl rfl ⟨rfl, rfl, rfl⟩
  · exact S rfl rfl rfl rfl rfl ⟨rfl, rfl, rfl⟩
  · exact S rfl rfl rfl rfl rfl ⟨rfl, rfl, rfl⟩
  · exact S rfl rfl rfl rfl rfl ⟨rfl, rfl, rfl⟩
  · exact S rfl rfl rfl rfl rfl ⟨rfl, rfl, rfl⟩
  · exact S rfl rfl rfl rfl rfl ⟨rfl, rfl, rfl⟩
  · exact S rfl rfl rfl rfl rfl ⟨rfl, rfl, rfl⟩
  · exact S rfl rfl rfl rfl rfl ⟨rfl, rfl, rfl⟩
  · exact S rfl rfl rfl rfl rfl ⟨rfl, rfl, rfl⟩
  · exact S rfl rfl rfl rfl rfl ⟨rfl, rfl, rfl⟩
  · exact S rfl rfl rfl rfl rfl ⟨rfl, rfl, rfl⟩
  · exact S rfl rfl rfl rfl rfl ⟨rfl, rfl, rfl⟩
  · exact (S (w := wA (wA (wA (wA (wA v 13 ((v.1 0 15).toNatClampNeg) (21 : Int32)) 14 ((v.1 0 15).toNatClampNeg) pa) 0 15 ((v.1 0 15) + (1 : Int32))) 11 ((v.1 0 12).toNatClampNeg) (0 : Int32)) 0 12 ((v.1 0 12) + (1 : Int32))) rfl rfl rfl rfl rfl ⟨rfl, rfl, rfl⟩).nt (OA.fg k156.1) z15.1
  · exact ((S (w := wA (wA (wA (wA (wA v 13 ((v.1 0 15).toNatClampNeg) (21 : Int32)) 14 ((v.1 0 15).toNatClampNeg) pa) 0 15 ((v.1 0 15) + (1 : Int32))) 11 ((v.1 0 12).toNatClampNeg) (0 : Int32)) 0 12 ((v.1 0 12) + (1 : Int32))) rfl rfl rfl rfl rfl ⟨rfl, rfl, rfl⟩).nt (OA.fg k156.1) z15.1).nt OA.em z15.1
/-- tokens -/
theorem oTake (h : Q_m_take v false u) : u = wA v 0 47 (v.1 0 47 + 1) ∧ OA K v u [] := by
  obtain ⟨-, h⟩ := h
  rcases h with ⟨-, f, -⟩ | ⟨-, ⟨-, -, e⟩ | ⟨-, f, -⟩⟩
  · cases f
  · exact ⟨e, by rw [e]; exact OA.w0⟩
  · cases f
end WBP
