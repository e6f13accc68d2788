/-! the reference's words: a function's body -/
section ZZM
variable {n : Int} {K : TK} {e : PE} {v u w x y u2 : MS} {a b d a0 cc : List EV} {q : EV} {r pa pb pd o zv zn i : Int32} {c : RM1} {E : EvE} {S : EvS} {Es : FE} {Ss : FS} {k : Nat}
set_option maxHeartbeats 800000 in
theorem oBody0W (hS : XWs n K (QMS k) S) (h : Q_m_body0 k v false u) (J : JM n K e v) : ∃ b kn' j, gTok e 32 (v.1 0 47) = some (v.1 0 47 + 1) ∧ gStats S 1502 e (knM K v) (v.1 0 32) (v.1 0 47 + 1) = some (b, kn', j) ∧ gTok e 33 j = some (u.1 0 47) ∧ SAw K v u b := by
  obtain ⟨z1, z2, z3, z4, z5, z6, z15, z8, z9, z10, z11, z12, z13, z14, h⟩ := h
  rcases h with ⟨u9, -, f9, -⟩ | ⟨h1, k1, w24, hr, -, h47, -, h15, -, h39, -, -, h30, -, -, r11, h11, -, h⟩
  · cases f9
  have O1 := oOpen (q := (123, 32)) (m := 32) h1 J (by decide) rfl (by decide)
  have e47 : ((v.1 0 47) + (1 : Int32)).toInt = (v.1 0 47).toInt + 1 := add_z rfl (by decide) (by omega) (by have := k1.1; omega)
  obtain ⟨V, hV⟩ : ∃ V, V = (wA (wA v 0 47 ((v.1 0 47) + (1 : Int32))) 0 48 ((v.1 0 48) + (1 : Int32))) := ⟨_, rfl⟩
  rw [← hV] at hr O1
  have NV : ND V := by rw [hV]; exact ndT J k1.1
  have v47 : V.1 0 47 = v.1 0 47 + 1 := by rw [hV]; rfl
  have AV : SAw K v V [] := by rw [hV]; exact SAw.oa (WAi.sm rfl rfl) rfl rfl rfl rfl rfl rfl rfl rfl
  have v29 : V.1 29 = v.1 29 := by rw [hV]; rfl
  have v30 : V.1 0 30 = v.1 0 30 := by rw [hV]; rfl
  have v32 : V.1 0 32 = v.1 0 32 := by rw [hV]; rfl
  have e33 : ∀ {i : Int32}, e.1 i = 33 ↔ (e.1 i).toInt = 33 := ⟨fun q => by rw [q]; decide, fun q => Int32.toInt_inj.mp (q.trans (by decide))⟩
  have inv : ∃ a f, SOw n K e V w24 a ∧ (1501 : Int) ≤ ((f : Nat) : Int) + (w24.1 0 47).toInt ∧ gStats S 1502 e (knM K V) (V.1 0 32) (V.1 0 47) = (gStats S f e (knM K w24) (V.1 0 32) (w24.1 0 47)).bind fun r => some (a ++ r.1, r.2) := by
    refine RT.ind (fun (y : MS) => ∃ a f, SOw n K e V y a ∧ (1501 : Int) ≤ ((f : Nat) : Int) + (y.1 0 47).toInt ∧ gStats S 1502 e (knM K V) (V.1 0 32) (V.1 0 47) = (gStats S f e (knM K y) (V.1 0 32) (y.1 0 47)).bind fun r => some (a ++ r.1, r.2)) hr ⟨[], 1502, ⟨⟨O1.1, NV⟩, SAw.rf, rfl, Int.le_refl _, fun _ _ => rfl⟩, by show (1501 : Int) ≤ 1502 + (V.1 0 47).toInt; rw [v47]; omega, ?_⟩ ?_
    · cases gStats S 1502 e (knM K V) (V.1 0 32) (V.1 0 47) with
      | none => rfl
      | some q => rfl
    · intro w1 y _ I hb
      obtain ⟨a, f, S1, hm, hf⟩ := I
      obtain ⟨-, a47, -, -, -, -, -, -, -, -, -, r11, h11, -, c11, u27, h27, k27, rfl⟩ := hb
      have i11 : r11.toInt ≠ 0 ↔ e.1 (w1.1 0 47) = 33 := rIs (g := g00) h11 S1.1.1 (q := (125, 33)) (by decide) rfl
      obtain ⟨b, y1, y2⟩ := hS e w1 y h27 k27 S1.1.1 S1.1.2
      obtain ⟨f0, rfl⟩ : ∃ f0, f = f0 + 1 := ⟨f - 1, by omega⟩
      have p47 := k27.2.1.1
      refine ⟨a ++ b, f0, S1.tr y2, by omega, ?_⟩
      rw [hf]
      show (if (e.1 (w1.1 0 47)).toInt = 33 then _ else (S e (knM K w1) (V.1 0 32) (w1.1 0 47)).bind _ : Option (List EV × List Int32 × Int32)).bind _ = _
      rw [if_neg (fun q => i11.mpr (e33.mpr q) c11)]
      rw [S1.2.2.1] at y1
      rw [y1, Option.bind_some]
      show ((gStats S f0 e (knM K y) (V.1 0 32) (y.1 0 47)).bind _).bind _ = _
      cases gStats S f0 e (knM K y) (V.1 0 32) (y.1 0 47) with
      | none => rfl
      | some q =>
        show some (a ++ (b ++ q.1), q.2) = some ((a ++ b) ++ q.1, q.2)
        rw [List.append_assoc]
  obtain ⟨a, f, S1, hm, hf⟩ := inv
  obtain ⟨f0, rfl⟩ : ∃ f0, f = f0 + 1 := ⟨f - 1, by omega⟩
  have i11 : r11.toInt ≠ 0 ↔ e.1 (w24.1 0 47) = 33 := rIs (g := g00) h11 S1.1.1 (q := (125, 33)) (by decide) rfl
  rcases h with ⟨c11, ⟨u9, -, f9, -⟩ | ⟨h3, k3, -, eu⟩⟩ | ⟨-, u9, -, f9, -⟩
  · cases f9
  · have k33 := e33.mp (i11.mp c11)
    have A3 : SAw K w24 u [] := by rw [eu]; exact SAw.oa (WAi.sm rfl rfl) rfl rfl rfl rfl rfl rfl rfl rfl
    refine ⟨a, knM K w24, w24.1 0 47, if_pos O1.2, ?_, ?_, (AV.tn S1.2.1).nt A3⟩
    · rw [← knM_of v29 v30, ← v32, ← v47, hf]
      show (if (e.1 (w24.1 0 47)).toInt = 33 then some ([], knM K w24, w24.1 0 47) else _ : Option (List EV × List Int32 × Int32)).bind _ = _
      rw [if_pos k33, Option.bind_some, List.append_nil]
    · rw [gTok_of k33, eu]
      rfl
  · cases f9
end ZZM
