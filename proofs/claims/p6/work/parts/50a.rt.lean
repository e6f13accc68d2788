/-! what a loop's rounds lead to -/
def RTn {α : Type} (R : α → α → Prop) : Nat → α → α → Prop
  | 0, a, b => a = b
  | n + 1, a, b => ∃ c, RTn R n a c ∧ R c b
def RT {α : Type} (R : α → α → Prop) (a b : α) : Prop := ∃ n, RTn R n a b
theorem RT.rf {α : Type} {R : α → α → Prop} {a : α} : RT R a a := ⟨0, rfl⟩
theorem RT.st {α : Type} {R : α → α → Prop} {a b c : α} (h : RT R a b) (k : R b c) : RT R a c := h.elim (fun n hn => ⟨n + 1, b, hn, k⟩)
theorem RT.ind {α : Type} {R : α → α → Prop} {a b : α} (P : α → Prop) (h : RT R a b) (h0 : P a) (hs : ∀ x y, RT R a x → P x → R x y → P y) : P b := by
  obtain ⟨n, hn⟩ := h
  induction n generalizing b with
  | zero => exact hn ▸ h0
  | succ n ih => obtain ⟨c, hc, k⟩ := hn; exact hs c b ⟨n, hc⟩ (ih hc) k
