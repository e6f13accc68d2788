theorem NI.w {a : Nat} {v : MS} {i : Nat} {x : Int32} (h : NI a v) (hx : 0 ≤ x.toInt ∧ x.toInt ≤ 1500) : NI a (wA v a i x) := fun j => by
  show 0 ≤ ((if a = a then upd (v.1 a) i x else v.1 a) j).toInt ∧ ((if a = a then upd (v.1 a) i x else v.1 a) j).toInt ≤ 1500
  rw [if_pos rfl]
  by_cases q : j = i
  · rw [q, pk_us]; exact hx
  · rw [pk_un q]; exact h j
theorem NI.fr {fl al : List Nat} {a : Nat} {v u : MS} (h : FG fl al v u) (ha : a ∉ al) (k : NI a v) : NI a u := fun j => by rw [h.2.2 a ha]; exact k j
