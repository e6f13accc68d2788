/-! the reference: a function's body -/
section MB0
variable {g : GM} {n : Int} {K : TK} {e : PE} {v u w x : MS} {t : Bool} {r pa pb : Int32} {c : RM1} {E : FE} {S : FS} {f : PS → PX PS} {k N : Nat} {m : Int}
def tBodyC (S : FS) (e : PE) (s : PS) : PX PS := bd (bd (tNeed 32 e s) (tOpen e)) fun s => bd (tStats S 1502 e s) fun s => bd (tExp 33 e s) fun s => .ok (tClose s)
theorem tBody_C {s : PS} : tBody S e s = bd (tBodyC S e s) fun s => .ok (em 4 (em 1 s)) := by
  unfold tBody tBodyC
  simp only [bd_as, bd_ok]
set_option maxHeartbeats 800000 in
theorem rBody0 (hS : HMS n K (QMS k) S) (h : Q_m_body0 k v t u) (J : JM n K e v) (g2 : g.2 = []) (lo : g.1 = true ↔ (v.1 0 52).toInt ≠ 0) : OKZ g n K e (tBodyC S e) v t u := by
  obtain ⟨-, -, -, -, -, -, -, -, -, -, -, -, -, -, h⟩ := h
  unfold OKZ tBodyC
  rcases h with ⟨u9, h1, rfl, rfl⟩ | ⟨h1, k1, w24, hr, -, h47, -, -, -, h39, -, -, h30, -, -, r11, h11, -, h⟩
  · exact Or.inr ⟨rfl, by rw [(rOpen (g := g) (q := (123, 32)) (m := 32) h1 J (by decide) rfl (by decide)).er, bd_er]⟩
  have a1 := rOpen (g := g) (q := (123, 32)) (m := 32) h1 J (by decide) rfl (by decide)
  rw [a1.eo, bd_ok]
  have J1 := a1.jj
  have J4 := J.2.2.2.1
  have e47 : ((v.1 0 47) + (1 : Int32)).toInt = (v.1 0 47).toInt + 1 := add_z rfl (by decide) (by omega) (by have := k1.1; omega)
  have e33 : ∀ s : PS, kd e s = 33 ↔ (kd e s).toInt = 33 := fun s => ⟨fun q => by rw [q]; decide, fun q => Int32.toInt_inj.mp (q.trans (by decide))⟩
  have inv : JM n K e w24 ∧ ZS v w24 ∧ ND w24 ∧ ∃ f : Nat, tStats S 1502 e (aR g K (wA (wA v 0 47 ((v.1 0 47) + (1 : Int32))) 0 48 ((v.1 0 48) + (1 : Int32)))) = tStats S f e (aR g K w24) ∧ (1501 : Int) ≤ f + (w24.1 0 47).toInt := by
    refine RT.ind (fun (y : MS) => JM n K e y ∧ ZS v y ∧ ND y ∧ ∃ f : Nat, tStats S 1502 e (aR g K (wA (wA v 0 47 ((v.1 0 47) + (1 : Int32))) 0 48 ((v.1 0 48) + (1 : Int32)))) = tStats S f e (aR g K y) ∧ (1501 : Int) ≤ f + (y.1 0 47).toInt) hr ⟨J1, ZS.of rfl rfl rfl, ndT J k1.1, 1502, rfl, ?_⟩ ?_
    · show (1501 : Int) ≤ 1502 + ((v.1 0 47) + (1 : Int32)).toInt
      omega
    · intro a b _ I hb
      obtain ⟨Ja, Za, Na, f, hf, hm⟩ := I
      obtain ⟨-, a47, -, -, -, -, -, -, -, -, -, r11, h11, -, c11, u27, h27, k27, rfl⟩ := hb
      have i11 := rIs (g := g) h11 Ja (q := (125, 33)) (by decide) rfl
      have lo2 : g.1 = true ↔ (a.1 0 52).toInt ≠ 0 := by rw [Za.2.1]; exact lo
      have R := hS g e _ _ _ h27 (fun _ => k27) Ja g2 lo2 Na
      obtain ⟨f0, rfl⟩ : ∃ f0, f = f0 + 1 := ⟨f - 1, by omega⟩
      have p47 := k27.2.1.1
      refine ⟨R.jj.1, Za.tr R.jj.2.1, R.jj.2.2, f0, ?_, by omega⟩
      rw [hf]
      show (if (kd e (aR g K a)).toInt = 33 then _ else _) = _
      rw [if_neg (fun q => i11.mpr ((e33 _).mpr q) c11), R.eo, bd_ok]
  obtain ⟨Jw, Zw, Nw, f, hf, hm⟩ := inv
  obtain ⟨f0, rfl⟩ : ∃ f0, f = f0 + 1 := ⟨f - 1, by omega⟩
  have i11 := rIs (g := g) h11 Jw (q := (125, 33)) (by decide) rfl
  have lo2 : g.1 = true ↔ (w24.1 0 52).toInt ≠ 0 := by rw [Zw.2.1]; exact lo
  have hf2 : tStats S 1502 e (aR g K (wA (wA v 0 47 ((v.1 0 47) + (1 : Int32))) 0 48 ((v.1 0 48) + (1 : Int32)))) = if (kd e (aR g K w24)).toInt = 33 then .ok (aR g K w24) else bd (S e (aR g K w24)) (tStats S f0 e) := hf
  rw [hf2]
  rcases h with ⟨c11, h⟩ | ⟨c11, u9, h2, rfl, rfl⟩
  · rw [if_pos ((e33 _).mp (i11.mp c11)), bd_ok]
    rcases h with ⟨u9, h3, rfl, rfl⟩ | ⟨h3, k3, rfl, rfl⟩
    · exact Or.inr ⟨rfl, (rClose (g := g) (q := (125, 33)) (m := 33) h3 Jw (by decide) rfl (by decide)).er⟩
    have a3 := rClose (g := g) (q := (125, 33)) (m := 33) h3 Jw (by decide) rfl (by decide)
    exact Or.inl ⟨rfl, a3.eo, a3.jj, Zw.tr (ZS.of rfl rfl rfl), ndT Jw k3.1⟩
  · rw [if_neg (fun q => i11.mpr ((e33 _).mpr q) c11)]
    exact Or.inr ⟨rfl, by rw [(hS g e _ _ _ h2 nom Jw g2 lo2 Nw).er, bd_er, bd_er]⟩
end MB0
