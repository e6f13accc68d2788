/-! the reference's words: times and over -/
section ZZW
variable {v u w : MS}
theorem updD {f : Nat → Int32} {i : Nat} {x y : Int32} : upd (upd f i x) i y = upd f i y := by
  funext j
  by_cases g : j = i
  · rw [g, updS, updS]
  · rw [updN_ g, updN_ g, updN_ g]
theorem multW (h : Q_m_multiplying v u) : EMi v u tmW [] ∧ u.1 0 67 = v.1 0 12 := by
  obtain ⟨z12, r3, h3, r11, h11, r18, h18, u23, hu23, r27, h27, r35, h35, r42, h42, r49, h49, u54, hu54, x64, h64, r67, h67, r74, h74, u79, hu79, eu⟩ := h
  obtain rfl := eAddi h3
  obtain rfl := eB h11 (f := 99) (by decide)
  obtain rfl := eI h18 (f := 28691) (by decide)
  obtain rfl := eB h27 (f := 99) (by decide)
  obtain rfl := eR h35 (f := 51) (by decide)
  obtain rfl := eI h42 (f := 4115) (by decide)
  obtain rfl := eI h49 (f := 20499) (by decide)
  have e64 := eJmp h64
  obtain rfl := eAddi h67
  obtain rfl := eI h74 (f := 103) (by decide)
  have E1 : EMi v u23 [iW 19 6 0 0, bW 99 10 0 28, iW 28691 7 10 1] [] := by rw [hu23]; exact EMi.w3 rfl rfl
  have E2 : EMi u23 u54 [bW 99 7 0 8, iW 51 6 6 5, iW 4115 5 5 1, iW 20499 10 10 1] [] := by rw [hu54]; exact EMi.w4 rfl rfl
  have e23 : u23.1 0 12 = v.1 0 12 + 1 + 1 + 1 := by rw [hu23]; rfl
  have e54 : u54.1 0 12 = u23.1 0 12 + 1 + 1 + 1 + 1 := by rw [hu54]; rfl
  have a1 := ad1 (n := v.1 0 12) z12.1 (by omega)
  have a3 := ad3 (n := v.1 0 12) z12.1 (by omega)
  rw [← e23] at a3
  have a4 := (ad12 (i := u23.1 0 12) (by omega) (by omega)).2.2.2
  rw [← e54] at a4
  have j64 : jW 0 ((4 : Int32) * ((v.1 0 12 + 1) - u54.1 0 12)) = jW 0 (-24) := by
    rw [jrE (d := -6) (k := 0) (by omega)]
    congr 1
  rw [j64] at e64
  subst e64
  have u11 : u79.1 11 = upd (upd (upd (u54.1 11) (u54.1 0 12).toNatClampNeg (jW 0 (-24))) (u54.1 0 12 + 1).toNatClampNeg (iW 19 10 6 0)) (u54.1 0 12 + 1 + 1).toNatClampNeg (iW 103 0 28 0) := by
    rw [hu79]
    show upd (upd (upd (upd (u54.1 11) _ 0) _ (jW 0 (-24))) _ _) _ _ = _
    rw [updD]
  have u12 : u79.1 0 12 = u54.1 0 12 + 1 + 1 + 1 := by rw [hu79]; rfl
  have uS : SMw u54 u79 := by rw [hu79]; exact ⟨⟨rfl, rfl, rfl, rfl, rfl, rfl⟩, rfl, rfl⟩
  have E3 : EMi u54 u79 [jW 0 (-24), iW 19 10 6 0, iW 103 0 28 0] [] := EMi.w3 u11 u12 uS
  rw [eu]
  refine ⟨(E1.tr E2).tr E3, ?_⟩
  have k1 : u79.1 0 67 = u54.1 0 67 := by rw [hu79]; rfl
  have k2 : u54.1 0 67 = u23.1 0 67 := by rw [hu54]; rfl
  rw [k1, k2, hu23]
  rfl
set_option maxHeartbeats 800000 in
theorem diviW (h : Q_m_dividing v u) : EMi v u ovW [] ∧ u.1 0 68 = v.1 0 12 ∧ u.1 0 67 = v.1 0 67 := by
  obtain ⟨z12, r3, h3, r11, h11, u20, hu20, r24, h24, r32, h32, r39, h39, r46, h46, u51, hu51, r55, h55, r63, h63, r70, h70, r77, h77, u82, hu82, r86, h86, r94, h94, r101, h101, r108, h108, u113, hu113, r117, h117, r125, h125, r132, h132, r139, h139, u144, hu144, r148, h148, r156, h156, r163, h163, r170, h170, u175, hu175, r179, h179, r187, h187, r194, h194, eu⟩ := h
  obtain rfl := eB h3 (f := 4195) (by decide)
  obtain rfl := eAddi h11
  obtain rfl := eR h24 (f := 16435) (by decide)
  obtain rfl := eAddi h32
  obtain rfl := eB h39 (f := 20579) (by decide)
  obtain rfl := eR h46 (f := 1073741875) (by decide)
  obtain rfl := eB h55 (f := 20579) (by decide)
  obtain rfl := eR h63 (f := 1073741875) (by decide)
  obtain rfl := eAddi h70
  obtain rfl := eAddi h77
  obtain rfl := eI h86 (f := 20499) (by decide)
  obtain rfl := eI h94 (f := 4115) (by decide)
  obtain rfl := eI h101 (f := 4115) (by decide)
  obtain rfl := eR h108 (f := 24627) (by decide)
  obtain rfl := eB h117 (f := 24675) (by decide)
  obtain rfl := eR h125 (f := 1073741875) (by decide)
  obtain rfl := eI h132 (f := 24595) (by decide)
  obtain rfl := eAddi h139
  obtain rfl := eB h148 (f := 4195) (by decide)
  obtain rfl := eAddi h156
  obtain rfl := eB h163 (f := 20579) (by decide)
  obtain rfl := eR h170 (f := 1073741875) (by decide)
  obtain rfl := eB h179 (f := 20579) (by decide)
  obtain rfl := eR h187 (f := 1073741875) (by decide)
  obtain rfl := eI h194 (f := 103) (by decide)
  have E1 : EMi v u20 [bW 4195 10 0 12, iW 19 17 0 2, 1048691] [] := by rw [hu20]; exact EMi.w3 rfl rfl
  have E2 : EMi u20 u51 [iW 16435 29 5 10, iW 19 30 5 0, bW 20579 5 0 8, iW 1073741875 5 0 5] [] := by rw [hu51]; exact EMi.w4 rfl rfl
  have E3 : EMi u51 u82 [bW 20579 10 0 8, iW 1073741875 10 0 10, iW 19 6 0 0, iW 19 7 0 32] [] := by rw [hu82]; exact EMi.w4 rfl rfl
  have E4 : EMi u82 u113 [iW 20499 31 5 31, iW 4115 5 5 1, iW 4115 6 6 1, iW 24627 6 6 31] [] := by rw [hu113]; exact EMi.w4 rfl rfl
  have E5 : EMi u113 u144 [bW 24675 6 10 12, iW 1073741875 6 6 10, iW 24595 5 5 1, iW 19 7 7 (-1)] [] := by rw [hu144]; exact EMi.w4 rfl rfl
  have E6 : EMi u144 u175 [bW 4195 7 0 (-32), iW 19 10 5 0, bW 20579 29 0 8, iW 1073741875 10 0 10] [] := by rw [hu175]; exact EMi.w4 rfl rfl
  have E7 : EMi u175 u [bW 20579 30 0 8, iW 1073741875 6 0 6, iW 103 0 28 0] [] := by rw [eu]; exact EMi.w3 rfl rfl
  refine ⟨((((((E1.tr E2).tr E3).tr E4).tr E5).tr E6).tr E7), ?_, ?_⟩
  · have k1 : u.1 0 68 = u175.1 0 68 := by rw [eu]; rfl
    have k2 : u175.1 0 68 = u144.1 0 68 := by rw [hu175]; rfl
    have k3 : u144.1 0 68 = u113.1 0 68 := by rw [hu144]; rfl
    have k4 : u113.1 0 68 = u82.1 0 68 := by rw [hu113]; rfl
    have k5 : u82.1 0 68 = u51.1 0 68 := by rw [hu82]; rfl
    have k6 : u51.1 0 68 = u20.1 0 68 := by rw [hu51]; rfl
    rw [k1, k2, k3, k4, k5, k6, hu20]
    rfl
  · have k1 : u.1 0 67 = u175.1 0 67 := by rw [eu]; rfl
    have k2 : u175.1 0 67 = u144.1 0 67 := by rw [hu175]; rfl
    have k3 : u144.1 0 67 = u113.1 0 67 := by rw [hu144]; rfl
    have k4 : u113.1 0 67 = u82.1 0 67 := by rw [hu113]; rfl
    have k5 : u82.1 0 67 = u51.1 0 67 := by rw [hu82]; rfl
    have k6 : u51.1 0 67 = u20.1 0 67 := by rw [hu51]; rfl
    rw [k1, k2, k3, k4, k5, k6, hu20]
    rfl
end ZZW
