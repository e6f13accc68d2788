/-! the class: calls never become fewer: operands -/
section UO2
variable {L1 L2 : List Nat} {v u w x z : MS} {pa pb pc1 pd r : Int32} {c : RE1} {o : RO1}
theorem mOperandM (hM : XM c) (hO : XMo o) (h : Q_x_X2_operand L1 L2 c o v pa false r u) : (v.1 0 321).toInt ≤ (u.1 0 321).toInt := by
  have F : ∀ {fl al : List Nat} {v u : MS}, FC fl al v u → 321 ∉ fl → (v.1 0 321).toInt ≤ (u.1 0 321).toInt := fun f h => by rw [f.2.1 321 h]; exact Int.le_refl _
  obtain ⟨-, -, -, -, -, -, -, -, -, -, r3, hk, h⟩ := h
  rcases h with ⟨c2, ⟨u9, -, f, -⟩ | ⟨r7, u6, h1, k1, -, er, eu⟩⟩ | ⟨c2, h⟩
  · cases f
  · rw [eu]; exact mNamedM hM h1
  rcases h with ⟨c3, r11, h1, u13, h2, k2, ⟨u9, -, f, -⟩ | ⟨u19, h3, k3, -, er, eu⟩⟩ | ⟨c3, h⟩
  · cases f
  · rw [eu]; exact Int.le_trans (F k2.1 (by decide)) (F k3.1 (by decide))
  rcases h with ⟨c4, r33, -, u9, -, f, -⟩ | ⟨c4, h⟩
  · cases f
  rcases h with ⟨c5, r11, h1, u13, h2, k2, ⟨u9, -, f, -⟩ | ⟨u19, h3, k3, -, er, eu⟩⟩ | ⟨c5, h⟩
  · cases f
  · rw [eu]; exact Int.le_trans (F k2.1 (by decide)) (F k3.1 (by decide))
  rcases h with ⟨c20, ⟨u9, -, f, -⟩ | ⟨u61, h1, k1, ⟨u9, -, f, -⟩ | ⟨u66, h2, k2, ⟨u9, -, f, -⟩ | ⟨u74, h3, k3, ⟨u9, -, f, -⟩ | ⟨u79, h4, k4, u83, h5, k5, u91, h6, k6, -, er, eu⟩⟩⟩⟩⟩ | ⟨c20, h⟩
  · cases f
  · cases f
  · cases f
  · cases f
  · have e66 : u66 = u61 := by
      obtain ⟨-, -, -, r3', hk', h2⟩ := h2
      rcases h2 with ⟨c, -, e9⟩ | ⟨-, r9, -, ⟨-, r14, -, u9, -, f, -⟩ | ⟨-, r14, -, u9, -, f, -⟩⟩
      · exact e9
      · cases f
      · cases f
    rw [e66] at k3
    rw [eu]
    exact Int.le_trans (Int.le_trans (Int.le_trans (Int.le_trans (F k1.1 (by decide)) (F k3.1 (by decide))) (F k4.1 (by decide))) (F k5.1 (by decide))) (F k6.1 (by decide))
  rcases h with ⟨c30, ⟨u9, -, f, -⟩ | ⟨u116, h1, k1, ⟨u9, -, f, -⟩ | ⟨u128, h2, k2, ⟨u9, -, f, -⟩ | ⟨u133, h3, k3, u137, h4, k4, -, er, eu⟩⟩⟩⟩ | ⟨c30, h⟩
  · cases f
  · cases f
  · cases f
  · rw [eu]
    exact Int.le_trans (Int.le_trans (Int.le_trans (F k1.1 (by decide)) (hM _ _ _ h2)) (F k3.1 (by decide))) (F k4.1 (by decide))
  rcases h with ⟨c40, ⟨u9, -, f, -⟩ | ⟨u150, h1, k1, -, er, eu⟩⟩ | ⟨c40, h⟩
  · cases f
  · rw [eu]; exact mUnaryM hO h1
  rcases h with ⟨c41, ⟨u9, -, f, -⟩ | ⟨u150, h1, k1, -, er, eu⟩⟩ | ⟨c41, h⟩
  · cases f
  · rw [eu]; exact mUnaryM hO h1
  rcases h with ⟨c54, ⟨u9, -, f, -⟩ | ⟨u150, h1, k1, -, er, eu⟩⟩ | ⟨c54, u9, -, f, -⟩
  · cases f
  · rw [eu]; exact mUnaryM hO h1
  · cases f
end UO2
