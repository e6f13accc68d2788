set_option maxHeartbeats 4000000 in
set_option maxRecDepth 100000 in
theorem kl_feed (l : Launch) (dC : Nat → ClassId) (dI : Nat → Nat → Nat) (cI cB cZ cJ cR : ClassId) (tb : Nat → Nat) (hst : l.stackTraces = false) (sz x0 N : Nat) (B : Int) (U : va_W) (hN2 : N ≤ 4096) (hB : B + 50000 ≤ 200000000) (tz gz : Int) (xz : List Int32) (hU : KI N B x0 cI cB cR tz gz xz U) (pa : Int32) (pb : Int32) (pc1 : Int32) (pd : Int32) (pe : Int32) : Met l yX11_feed (Cond.code yX11_feed cX11_feed 6 (some .boolean) :: tw_W) ({ frames := 1, cells := 0, slots := 0, locals := 22 }) (pc_ (dC, dI) (tyS cI cB cZ cJ cR) tb U sz [.ref x0, .int pa, .int pb, .int pc1, .int pd, .int pe]) (qi_ (dC, dI) U sz (fun (r : Int32) (u : va_W) => ∃ t2 g2 : Int, KI N (B + 50000) x0 cI cB cR t2 g2 xz u ∧ ((tz + 20 ≤ 4000 ∧ t2 = tz + 20 ∧ r.toInt = 1) ∨ (4000 < tz + 20 ∧ t2 = tz ∧ r.toInt = 0)) ∧ g2 = gz) (fun (u : va_W) => u)) 0 0 (va_A U sz) := by
  obtain ⟨ad, pr, L1, L2, v, ad2, L3, L4, w, sb, a, m, n, f, cnt, mb, hpm, rfl, hC, hS, hot, hog, hox, hon⟩ := hU
  obtain ⟨⟨hL1, hL2, hL3, hL4⟩, ⟨rp, rpw⟩, ⟨hp1, hp2⟩, z373, z381, z344, z391, z353⟩ := hC
  refine Met.lift_i (R := []) _ (List.Perm.trans hpm (p_nil _)) (c_x_X11_feed l dC dI cI cB cZ cJ cR tb sz ad pr N L1 L2 (prW ad2 N cI cR L3 L4 w ++ shC (ad 910) sb a cB m f cnt mb) v pa pb pc1 pd pe  z391) (fun r u hpo => ?_)
  rw [List.append_nil]
  obtain ⟨fr, i391, hpr, bz⟩ := hpo
  have e344 : (u.1 0 344).toInt = (v.1 0 344).toInt := congrArg Int32.toInt (fr.2.1 344 (by decide))
  exact ⟨(u.1 0 391).toInt, (u.1 0 344).toInt, ⟨ad, pr, L1, L2, u, ad2, L3, L4, w, sb, a, m, n, f, cnt, mb, List.Perm.refl _, rfl, ⟨⟨hL1, hL2, hL3, hL4⟩, ⟨fr.1 rp, rpw⟩, ⟨(by rw [fr.2.1 392 (by decide)]; exact hp1), (by rw [fr.2.1 393 (by decide)]; exact hp2)⟩, (by rw [fr.2.1 373 (by decide)]; exact z373), (by rw [fr.2.1 381 (by decide)]; exact z381), (by rw [fr.2.1 344 (by decide)]; exact z344), i391, (by rw [fr.2.1 353 (by decide)]; exact ⟨z353.1, by omega⟩)⟩, hS, rfl, rfl, hox, hon⟩, by omega⟩
set_option maxHeartbeats 4000000 in
set_option maxRecDepth 100000 in
theorem kl_end (l : Launch) (dC : Nat → ClassId) (dI : Nat → Nat → Nat) (cI cB cZ cJ cR : ClassId) (tb : Nat → Nat) (hst : l.stackTraces = false) (sz x0 N : Nat) (B : Int) (U : va_W) (hN2 : N ≤ 4096) (hB : B + 50000 ≤ 200000000) (tz gz : Int) (xz : List Int32) (hU : KI N B x0 cI cB cR tz gz xz U) (pa : Int32) : Met l yX11_end (Cond.code yX11_end cX11_end 2 (some .boolean) :: tw_W) ({ frames := 0, cells := 0, slots := 0, locals := 0 }) (pc_ (dC, dI) (tyS cI cB cZ cJ cR) tb U sz [.ref x0, .int pa]) (qi_ (dC, dI) U sz (fun (r : Int32) (u : va_W) => ∃ t2 g2 : Int, KI N (B + 50000) x0 cI cB cR t2 g2 xz u ∧ (((0 ≤ pa.toInt ∧ pa.toInt ≤ tz) ∧ t2 = pa.toInt ∧ r.toInt = 1) ∨ ((pa.toInt < 0 ∨ tz < pa.toInt) ∧ t2 = tz ∧ r.toInt = 0)) ∧ g2 = gz) (fun (u : va_W) => u)) 0 0 (va_A U sz) := by
  obtain ⟨ad, pr, L1, L2, v, ad2, L3, L4, w, sb, a, m, n, f, cnt, mb, hpm, rfl, hC, hS, hot, hog, hox, hon⟩ := hU
  obtain ⟨⟨hL1, hL2, hL3, hL4⟩, ⟨rp, rpw⟩, ⟨hp1, hp2⟩, z373, z381, z344, z391, z353⟩ := hC
  refine Met.lift_i (R := []) _ (List.Perm.trans hpm (p_nil _)) (c_x_X11_end l dC dI cI cB cZ cJ cR tb sz ad pr N L1 L2 (prW ad2 N cI cR L3 L4 w ++ shC (ad 910) sb a cB m f cnt mb) v pa  z391) (fun r u hpo => ?_)
  rw [List.append_nil]
  obtain ⟨fr, i391, hpr, bz⟩ := hpo
  have e344 : (u.1 0 344).toInt = (v.1 0 344).toInt := congrArg Int32.toInt (fr.2.1 344 (by decide))
  exact ⟨(u.1 0 391).toInt, (u.1 0 344).toInt, ⟨ad, pr, L1, L2, u, ad2, L3, L4, w, sb, a, m, n, f, cnt, mb, List.Perm.refl _, rfl, ⟨⟨hL1, hL2, hL3, hL4⟩, ⟨fr.1 rp, rpw⟩, ⟨(by rw [fr.2.1 392 (by decide)]; exact hp1), (by rw [fr.2.1 393 (by decide)]; exact hp2)⟩, (by rw [fr.2.1 373 (by decide)]; exact z373), (by rw [fr.2.1 381 (by decide)]; exact z381), (by rw [fr.2.1 344 (by decide)]; exact z344), i391, (by rw [fr.2.1 353 (by decide)]; exact ⟨z353.1, by omega⟩)⟩, hS, rfl, rfl, hox, hon⟩, by omega⟩
set_option maxHeartbeats 4000000 in
set_option maxRecDepth 100000 in
theorem kl_fault (l : Launch) (dC : Nat → ClassId) (dI : Nat → Nat → Nat) (cI cB cZ cJ cR : ClassId) (tb : Nat → Nat) (hst : l.stackTraces = false) (sz x0 N : Nat) (B : Int) (U : va_W) (hN2 : N ≤ 4096) (hB : B + 50000 ≤ 200000000) (tz gz : Int) (xz : List Int32) (hU : KI N B x0 cI cB cR tz gz xz U) (pa : Int32) : Met l yX11_fault (Cond.code yX11_fault cX11_fault 2 (some .int) :: tw_W) ({ frames := 0, cells := 0, slots := 0, locals := 0 }) (pc_ (dC, dI) (tyS cI cB cZ cJ cR) tb U sz [.ref x0, .int pa]) (qi_ (dC, dI) U sz (fun (r : Int32) (u : va_W) => KI N (B + 50000) x0 cI cB cR tz gz xz u) (fun (u : va_W) => u)) 0 0 (va_A U sz) := by
  obtain ⟨ad, pr, L1, L2, v, ad2, L3, L4, w, sb, a, m, n, f, cnt, mb, hpm, rfl, hC, hS, hot, hog, hox, hon⟩ := hU
  obtain ⟨⟨hL1, hL2, hL3, hL4⟩, ⟨rp, rpw⟩, ⟨hp1, hp2⟩, z373, z381, z344, z391, z353⟩ := hC
  refine Met.lift_i (R := []) _ (List.Perm.trans hpm (p_nil _)) (c_x_X11_fault l dC dI cI cB cZ cJ cR tb sz ad pr N L1 L2 (prW ad2 N cI cR L3 L4 w ++ shC (ad 910) sb a cB m f cnt mb) v pa  ) (fun r u hpo => ?_)
  rw [List.append_nil]
  obtain rfl := hpo
  have fr : FC [] [] v v := FC.rf v
  exact ⟨ad, pr, L1, L2, v, ad2, L3, L4, w, sb, a, m, n, f, cnt, mb, List.Perm.refl _, rfl, ⟨⟨hL1, hL2, hL3, hL4⟩, ⟨fr.1 rp, rpw⟩, ⟨(by rw [fr.2.1 392 (by decide)]; exact hp1), (by rw [fr.2.1 393 (by decide)]; exact hp2)⟩, (by rw [fr.2.1 373 (by decide)]; exact z373), (by rw [fr.2.1 381 (by decide)]; exact z381), (by rw [fr.2.1 344 (by decide)]; exact z344), (by rw [fr.2.1 391 (by decide)]; exact z391), (by rw [fr.2.1 353 (by decide)]; exact ⟨z353.1, by omega⟩)⟩, hS, hot, hog, hox, hon⟩
set_option maxHeartbeats 4000000 in
set_option maxRecDepth 100000 in
theorem kl_function (l : Launch) (dC : Nat → ClassId) (dI : Nat → Nat → Nat) (cI cB cZ cJ cR : ClassId) (tb : Nat → Nat) (hst : l.stackTraces = false) (sz x0 N : Nat) (B : Int) (U : va_W) (hN2 : N ≤ 4096) (hB : B + 50000 ≤ 200000000) (tz gz : Int) (xz : List Int32) (hU : KI N B x0 cI cB cR tz gz xz U) (pa : Int32) (pb : Int32) : Met l yX11_function (Cond.code yX11_function cX11_function 3 (some .int) :: tw_W) ({ frames := 1, cells := 0, slots := 0, locals := 22 }) (pc_ (dC, dI) (tyS cI cB cZ cJ cR) tb U sz [.ref x0, .int pa, .int pb]) (qi_ (dC, dI) U sz (fun (r : Int32) (u : va_W) => KI N (B + 50000) x0 cI cB cR tz gz xz u) (fun (u : va_W) => u)) 0 0 (va_A U sz) := by
  obtain ⟨ad, pr, L1, L2, v, ad2, L3, L4, w, sb, a, m, n, f, cnt, mb, hpm, rfl, hC, hS, hot, hog, hox, hon⟩ := hU
  obtain ⟨⟨hL1, hL2, hL3, hL4⟩, ⟨rp, rpw⟩, ⟨hp1, hp2⟩, z373, z381, z344, z391, z353⟩ := hC
  refine Met.lift_i (R := []) _ (List.Perm.trans hpm (p_nil _)) (c_x_X11_function l dC dI cI cB cZ cJ cR tb sz ad pr N L1 L2 (prW ad2 N cI cR L3 L4 w ++ shC (ad 910) sb a cB m f cnt mb) v pa pb (v.1 0 392) hL1 hL2 rp hp1 rfl) (fun r u hpo => ?_)
  rw [List.append_nil]
  obtain rfl := hpo
  have fr : FC [] [] v v := FC.rf v
  exact ⟨ad, pr, L1, L2, v, ad2, L3, L4, w, sb, a, m, n, f, cnt, mb, List.Perm.refl _, rfl, ⟨⟨hL1, hL2, hL3, hL4⟩, ⟨fr.1 rp, rpw⟩, ⟨(by rw [fr.2.1 392 (by decide)]; exact hp1), (by rw [fr.2.1 393 (by decide)]; exact hp2)⟩, (by rw [fr.2.1 373 (by decide)]; exact z373), (by rw [fr.2.1 381 (by decide)]; exact z381), (by rw [fr.2.1 344 (by decide)]; exact z344), (by rw [fr.2.1 391 (by decide)]; exact z391), (by rw [fr.2.1 353 (by decide)]; exact ⟨z353.1, by omega⟩)⟩, hS, hot, hog, hox, hon⟩
set_option maxHeartbeats 4000000 in
set_option maxRecDepth 100000 in
theorem kl_global (l : Launch) (dC : Nat → ClassId) (dI : Nat → Nat → Nat) (cI cB cZ cJ cR : ClassId) (tb : Nat → Nat) (hst : l.stackTraces = false) (sz x0 N : Nat) (B : Int) (U : va_W) (hN2 : N ≤ 4096) (hB : B + 50000 ≤ 200000000) (tz gz : Int) (xz : List Int32) (hU : KI N B x0 cI cB cR tz gz xz U) (pa : Int32) (pb : Int32) : Met l yX11_global (Cond.code yX11_global cX11_global 3 (some .int) :: tw_W) ({ frames := 1, cells := 0, slots := 0, locals := 22 }) (pc_ (dC, dI) (tyS cI cB cZ cJ cR) tb U sz [.ref x0, .int pa, .int pb]) (qi_ (dC, dI) U sz (fun (r : Int32) (u : va_W) => KI N (B + 50000) x0 cI cB cR tz gz xz u) (fun (u : va_W) => u)) 0 0 (va_A U sz) := by
  obtain ⟨ad, pr, L1, L2, v, ad2, L3, L4, w, sb, a, m, n, f, cnt, mb, hpm, rfl, hC, hS, hot, hog, hox, hon⟩ := hU
  obtain ⟨⟨hL1, hL2, hL3, hL4⟩, ⟨rp, rpw⟩, ⟨hp1, hp2⟩, z373, z381, z344, z391, z353⟩ := hC
  refine Met.lift_i (R := []) _ (List.Perm.trans hpm (p_nil _)) (c_x_X11_global l dC dI cI cB cZ cJ cR tb sz ad pr N L1 L2 (prW ad2 N cI cR L3 L4 w ++ shC (ad 910) sb a cB m f cnt mb) v pa pb (v.1 0 392) hL1 hL2 rp hp1 rfl) (fun r u hpo => ?_)
  rw [List.append_nil]
  obtain rfl := hpo
  have fr : FC [] [] v v := FC.rf v
  exact ⟨ad, pr, L1, L2, v, ad2, L3, L4, w, sb, a, m, n, f, cnt, mb, List.Perm.refl _, rfl, ⟨⟨hL1, hL2, hL3, hL4⟩, ⟨fr.1 rp, rpw⟩, ⟨(by rw [fr.2.1 392 (by decide)]; exact hp1), (by rw [fr.2.1 393 (by decide)]; exact hp2)⟩, (by rw [fr.2.1 373 (by decide)]; exact z373), (by rw [fr.2.1 381 (by decide)]; exact z381), (by rw [fr.2.1 344 (by decide)]; exact z344), (by rw [fr.2.1 391 (by decide)]; exact z391), (by rw [fr.2.1 353 (by decide)]; exact ⟨z353.1, by omega⟩)⟩, hS, hot, hog, hox, hon⟩
set_option maxHeartbeats 4000000 in
set_option maxRecDepth 100000 in
theorem kl_give (l : Launch) (dC : Nat → ClassId) (dI : Nat → Nat → Nat) (cI cB cZ cJ cR : ClassId) (tb : Nat → Nat) (hst : l.stackTraces = false) (sz x0 N : Nat) (B : Int) (U : va_W) (hN2 : N ≤ 4096) (hB : B + 50000 ≤ 200000000) (tz gz : Int) (xz : List Int32) (hU : KI N B x0 cI cB cR tz gz xz U) (pa : Int32) : Met l yX11_give (Cond.code yX11_give cX11_give 2 (some .int) :: tw_W) ({ frames := 1, cells := 0, slots := 0, locals := 21 }) (pc_ (dC, dI) (tyS cI cB cZ cJ cR) tb U sz [.ref x0, .int pa]) (qi_ (dC, dI) U sz (fun (r : Int32) (u : va_W) => ∃ t2 g2 : Int, KI N (B + 50000) x0 cI cB cR t2 g2 xz u ∧ ((gz < 64 ∧ g2 = gz + 1 ∧ r.toInt = gz + 1) ∨ (gz = 64 ∧ g2 = gz ∧ r.toInt = -1)) ∧ t2 = tz) (fun (u : va_W) => u)) 0 0 (va_A U sz) := by
  obtain ⟨ad, pr, L1, L2, v, ad2, L3, L4, w, sb, a, m, n, f, cnt, mb, hpm, rfl, hC, hS, hot, hog, hox, hon⟩ := hU
  obtain ⟨⟨hL1, hL2, hL3, hL4⟩, ⟨rp, rpw⟩, ⟨hp1, hp2⟩, z373, z381, z344, z391, z353⟩ := hC
  refine Met.lift_i (R := []) _ (List.Perm.trans hpm (p_nil _)) (c_x_X11_give l dC dI cI cB cZ cJ cR tb sz ad pr N L1 L2 (prW ad2 N cI cR L3 L4 w ++ shC (ad 910) sb a cB m f cnt mb) v pa  z344) (fun r u hpo => ?_)
  rw [List.append_nil]
  obtain ⟨fr, i344, hpr⟩ := hpo
  have e391 : (u.1 0 391).toInt = (v.1 0 391).toInt := congrArg Int32.toInt (fr.2.1 391 (by decide))
  exact ⟨(u.1 0 391).toInt, (u.1 0 344).toInt, ⟨ad, pr, L1, L2, u, ad2, L3, L4, w, sb, a, m, n, f, cnt, mb, List.Perm.refl _, rfl, ⟨⟨hL1, hL2, hL3, hL4⟩, ⟨fr.1 rp, rpw⟩, ⟨(by rw [fr.2.1 392 (by decide)]; exact hp1), (by rw [fr.2.1 393 (by decide)]; exact hp2)⟩, (by rw [fr.2.1 373 (by decide)]; exact z373), (by rw [fr.2.1 381 (by decide)]; exact z381), i344, (by rw [fr.2.1 391 (by decide)]; exact z391), (by rw [fr.2.1 353 (by decide)]; exact ⟨z353.1, by omega⟩)⟩, hS, rfl, rfl, hox, hon⟩, by omega⟩
set_option maxHeartbeats 4000000 in
set_option maxRecDepth 100000 in
theorem kl_forget (l : Launch) (dC : Nat → ClassId) (dI : Nat → Nat → Nat) (cI cB cZ cJ cR : ClassId) (tb : Nat → Nat) (hst : l.stackTraces = false) (sz x0 N : Nat) (B : Int) (U : va_W) (hN2 : N ≤ 4096) (hB : B + 50000 ≤ 200000000) (tz gz : Int) (xz : List Int32) (hU : KI N B x0 cI cB cR tz gz xz U)  : Met l yX11_forget (Cond.code yX11_forget cX11_forget 1 (some .int) :: tw_W) ({ frames := 1, cells := 0, slots := 0, locals := 21 }) (pc_ (dC, dI) (tyS cI cB cZ cJ cR) tb U sz [.ref x0]) (qi_ (dC, dI) U sz (fun (r : Int32) (u : va_W) => ∃ t2 g2 : Int, KI N (B + 50000) x0 cI cB cR t2 g2 xz u ∧ g2 = 0 ∧ r.toInt = gz ∧ t2 = tz) (fun (u : va_W) => u)) 0 0 (va_A U sz) := by
  obtain ⟨ad, pr, L1, L2, v, ad2, L3, L4, w, sb, a, m, n, f, cnt, mb, hpm, rfl, hC, hS, hot, hog, hox, hon⟩ := hU
  obtain ⟨⟨hL1, hL2, hL3, hL4⟩, ⟨rp, rpw⟩, ⟨hp1, hp2⟩, z373, z381, z344, z391, z353⟩ := hC
  refine Met.lift_i (R := []) _ (List.Perm.trans hpm (p_nil _)) (c_x_X11_forget l dC dI cI cB cZ cJ cR tb sz ad pr N L1 L2 (prW ad2 N cI cR L3 L4 w ++ shC (ad 910) sb a cB m f cnt mb) v   z344) (fun r u hpo => ?_)
  rw [List.append_nil]
  obtain ⟨fr, i344, hpr⟩ := hpo
  have e391 : (u.1 0 391).toInt = (v.1 0 391).toInt := congrArg Int32.toInt (fr.2.1 391 (by decide))
  exact ⟨(u.1 0 391).toInt, (u.1 0 344).toInt, ⟨ad, pr, L1, L2, u, ad2, L3, L4, w, sb, a, m, n, f, cnt, mb, List.Perm.refl _, rfl, ⟨⟨hL1, hL2, hL3, hL4⟩, ⟨fr.1 rp, rpw⟩, ⟨(by rw [fr.2.1 392 (by decide)]; exact hp1), (by rw [fr.2.1 393 (by decide)]; exact hp2)⟩, (by rw [fr.2.1 373 (by decide)]; exact z373), (by rw [fr.2.1 381 (by decide)]; exact z381), i344, (by rw [fr.2.1 391 (by decide)]; exact z391), (by rw [fr.2.1 353 (by decide)]; exact ⟨z353.1, by omega⟩)⟩, hS, rfl, rfl, hox, hon⟩, by omega⟩
set_option maxHeartbeats 4000000 in
set_option maxRecDepth 100000 in
theorem kl_result (l : Launch) (dC : Nat → ClassId) (dI : Nat → Nat → Nat) (cI cB cZ cJ cR : ClassId) (tb : Nat → Nat) (hst : l.stackTraces = false) (sz x0 N : Nat) (B : Int) (U : va_W) (hN2 : N ≤ 4096) (hB : B + 50000 ≤ 200000000) (tz gz : Int) (xz : List Int32) (hU : KI N B x0 cI cB cR tz gz xz U)  : Met l yX11_result (Cond.code yX11_result cX11_result 1 (some .int) :: tw_W) ({ frames := 1, cells := 0, slots := 0, locals := 21 }) (pc_ (dC, dI) (tyS cI cB cZ cJ cR) tb U sz [.ref x0]) (qi_ (dC, dI) U sz (fun (r : Int32) (u : va_W) => KI N (B + 50000) x0 cI cB cR tz gz xz u) (fun (u : va_W) => u)) 0 0 (va_A U sz) := by
  obtain ⟨ad, pr, L1, L2, v, ad2, L3, L4, w, sb, a, m, n, f, cnt, mb, hpm, rfl, hC, hS, hot, hog, hox, hon⟩ := hU
  obtain ⟨⟨hL1, hL2, hL3, hL4⟩, ⟨rp, rpw⟩, ⟨hp1, hp2⟩, z373, z381, z344, z391, z353⟩ := hC
  refine Met.lift_i (R := []) _ (List.Perm.trans hpm (p_nil _)) (c_x_X11_result l dC dI cI cB cZ cJ cR tb sz ad pr N L1 L2 (prW ad2 N cI cR L3 L4 w ++ shC (ad 910) sb a cB m f cnt mb) v   ) (fun r u hpo => ?_)
  rw [List.append_nil]
  obtain rfl := hpo
  have fr : FC [] [] v v := FC.rf v
  exact ⟨ad, pr, L1, L2, v, ad2, L3, L4, w, sb, a, m, n, f, cnt, mb, List.Perm.refl _, rfl, ⟨⟨hL1, hL2, hL3, hL4⟩, ⟨fr.1 rp, rpw⟩, ⟨(by rw [fr.2.1 392 (by decide)]; exact hp1), (by rw [fr.2.1 393 (by decide)]; exact hp2)⟩, (by rw [fr.2.1 373 (by decide)]; exact z373), (by rw [fr.2.1 381 (by decide)]; exact z381), (by rw [fr.2.1 344 (by decide)]; exact z344), (by rw [fr.2.1 391 (by decide)]; exact z391), (by rw [fr.2.1 353 (by decide)]; exact ⟨z353.1, by omega⟩)⟩, hS, hot, hog, hox, hon⟩
set_option maxHeartbeats 4000000 in
set_option maxRecDepth 100000 in
theorem kl_told (l : Launch) (dC : Nat → ClassId) (dI : Nat → Nat → Nat) (cI cB cZ cJ cR : ClassId) (tb : Nat → Nat) (hst : l.stackTraces = false) (sz x0 N : Nat) (B : Int) (U : va_W) (hN2 : N ≤ 4096) (hB : B + 50000 ≤ 200000000) (tz gz : Int) (xz : List Int32) (hU : KI N B x0 cI cB cR tz gz xz U) (pa : Int32) : Met l yX11_told (Cond.code yX11_told cX11_told 2 (some .int) :: tw_W) ({ frames := 1, cells := 0, slots := 0, locals := 21 }) (pc_ (dC, dI) (tyS cI cB cZ cJ cR) tb U sz [.ref x0, .int pa]) (qi_ (dC, dI) U sz (fun (r : Int32) (u : va_W) => KI N (B + 50000) x0 cI cB cR tz gz xz u) (fun (u : va_W) => u)) 0 0 (va_A U sz) := by
  obtain ⟨ad, pr, L1, L2, v, ad2, L3, L4, w, sb, a, m, n, f, cnt, mb, hpm, rfl, hC, hS, hot, hog, hox, hon⟩ := hU
  obtain ⟨⟨hL1, hL2, hL3, hL4⟩, ⟨rp, rpw⟩, ⟨hp1, hp2⟩, z373, z381, z344, z391, z353⟩ := hC
  refine Met.lift_i (R := []) _ (List.Perm.trans hpm (p_nil _)) (c_x_X11_told l dC dI cI cB cZ cJ cR tb sz ad pr N L1 L2 (prW ad2 N cI cR L3 L4 w ++ shC (ad 910) sb a cB m f cnt mb) v pa  ) (fun r u hpo => ?_)
  rw [List.append_nil]
  obtain rfl := hpo
  have fr : FC [] [] v v := FC.rf v
  exact ⟨ad, pr, L1, L2, v, ad2, L3, L4, w, sb, a, m, n, f, cnt, mb, List.Perm.refl _, rfl, ⟨⟨hL1, hL2, hL3, hL4⟩, ⟨fr.1 rp, rpw⟩, ⟨(by rw [fr.2.1 392 (by decide)]; exact hp1), (by rw [fr.2.1 393 (by decide)]; exact hp2)⟩, (by rw [fr.2.1 373 (by decide)]; exact z373), (by rw [fr.2.1 381 (by decide)]; exact z381), (by rw [fr.2.1 344 (by decide)]; exact z344), (by rw [fr.2.1 391 (by decide)]; exact z391), (by rw [fr.2.1 353 (by decide)]; exact ⟨z353.1, by omega⟩)⟩, hS, hot, hog, hox, hon⟩
set_option maxHeartbeats 4000000 in
set_option maxRecDepth 100000 in
theorem kl_count (l : Launch) (dC : Nat → ClassId) (dI : Nat → Nat → Nat) (cI cB cZ cJ cR : ClassId) (tb : Nat → Nat) (hst : l.stackTraces = false) (sz x0 N : Nat) (B : Int) (U : va_W) (hN2 : N ≤ 4096) (hB : B + 50000 ≤ 200000000) (tz gz : Int) (xz : List Int32) (hU : KI N B x0 cI cB cR tz gz xz U) (pa : Int32) : Met l yX11_count (Cond.code yX11_count cX11_count 2 (some .int) :: tw_W) ({ frames := 1, cells := 0, slots := 0, locals := 21 }) (pc_ (dC, dI) (tyS cI cB cZ cJ cR) tb U sz [.ref x0, .int pa]) (qi_ (dC, dI) U sz (fun (r : Int32) (u : va_W) => KI N (B + 50000) x0 cI cB cR tz gz xz u) (fun (u : va_W) => u)) 0 0 (va_A U sz) := by
  obtain ⟨ad, pr, L1, L2, v, ad2, L3, L4, w, sb, a, m, n, f, cnt, mb, hpm, rfl, hC, hS, hot, hog, hox, hon⟩ := hU
  obtain ⟨⟨hL1, hL2, hL3, hL4⟩, ⟨rp, rpw⟩, ⟨hp1, hp2⟩, z373, z381, z344, z391, z353⟩ := hC
  refine Met.lift_i (R := []) _ (List.Perm.trans hpm (p_nil _)) (c_x_X11_count l dC dI cI cB cZ cJ cR tb sz ad pr N L1 L2 (prW ad2 N cI cR L3 L4 w ++ shC (ad 910) sb a cB m f cnt mb) v pa (v.1 0 392) z344 z391 (by omega) hp1 rfl) (fun r u hpo => ?_)
  rw [List.append_nil]
  obtain rfl := hpo
  have fr : FC [] [] v v := FC.rf v
  exact ⟨ad, pr, L1, L2, v, ad2, L3, L4, w, sb, a, m, n, f, cnt, mb, List.Perm.refl _, rfl, ⟨⟨hL1, hL2, hL3, hL4⟩, ⟨fr.1 rp, rpw⟩, ⟨(by rw [fr.2.1 392 (by decide)]; exact hp1), (by rw [fr.2.1 393 (by decide)]; exact hp2)⟩, (by rw [fr.2.1 373 (by decide)]; exact z373), (by rw [fr.2.1 381 (by decide)]; exact z381), (by rw [fr.2.1 344 (by decide)]; exact z344), (by rw [fr.2.1 391 (by decide)]; exact z391), (by rw [fr.2.1 353 (by decide)]; exact ⟨z353.1, by omega⟩)⟩, hS, hot, hog, hox, hon⟩
set_option maxHeartbeats 4000000 in
set_option maxRecDepth 100000 in
theorem kl_start (l : Launch) (dC : Nat → ClassId) (dI : Nat → Nat → Nat) (cI cB cZ cJ cR : ClassId) (tb : Nat → Nat) (hst : l.stackTraces = false) (sz x0 N : Nat) (B : Int) (U : va_W) (hN2 : N ≤ 4096) (hB : B + 50000 ≤ 200000000) (tz gz : Int) (xz : List Int32) (hU : KI N B x0 cI cB cR tz gz xz U) (pa : Int32) (pb : Int32) (pc1 : Int32) : Met l yX11_start (Cond.code yX11_start cX11_start 5 (some .boolean) :: tw_W) ({ frames := 2, cells := 0, slots := 0, locals := 48 }) (pc_ (dC, dI) (tyS cI cB cZ cJ cR) tb U sz [.ref x0, .int pa, .int pb, .int pc1]) (qi_ (dC, dI) U sz (fun (r : Int32) (u : va_W) => KI N (B + 50000) x0 cI cB cR tz gz xz u) (fun (u : va_W) => u)) 0 0 (va_A U sz) := by
  obtain ⟨ad, pr, L1, L2, v, ad2, L3, L4, w, sb, a, m, n, f, cnt, mb, hpm, rfl, hC, hS, hot, hog, hox, hon⟩ := hU
  obtain ⟨⟨hL1, hL2, hL3, hL4⟩, ⟨rp, rpw⟩, ⟨hp1, hp2⟩, z373, z381, z344, z391, z353⟩ := hC
  refine Met.lift_i (R := []) _ (List.Perm.trans hpm (p_nil _)) (c_x_X11_start l dC dI cI cB cZ cJ cR tb sz ad pr N L1 L2 (prW ad2 N cI cR L3 L4 w ++ shC (ad 910) sb a cB m f cnt mb) v pa pb pc1 (v.1 0 392) (by omega) hL1 hL2 rp hp1 rfl z353.1) (fun r u hpo => ?_)
  rw [List.append_nil]
  obtain ⟨fr, pq, bz⟩ := hpo
  exact ⟨ad, pr, L1, L2, u, ad2, L3, L4, w, sb, a, m, n, f, cnt, mb, List.Perm.refl _, rfl, ⟨⟨hL1, hL2, hL3, hL4⟩, ⟨fr.1 rp, rpw⟩, ⟨(by rw [fr.2.1 392 (by decide)]; exact hp1), (by rw [fr.2.1 393 (by decide)]; exact hp2)⟩, (by rw [fr.2.1 373 (by decide)]; exact z373), (by rw [fr.2.1 381 (by decide)]; exact z381), (by rw [fr.2.1 344 (by decide)]; exact z344), (by rw [fr.2.1 391 (by decide)]; exact z391), ⟨by omega, by omega⟩⟩, hS, (by rw [fr.2.1 391 (by decide)]; exact hot), (by rw [fr.2.1 344 (by decide)]; exact hog), hox, hon⟩
set_option maxHeartbeats 4000000 in
set_option maxRecDepth 100000 in
theorem kl_step (l : Launch) (dC : Nat → ClassId) (dI : Nat → Nat → Nat) (cI cB cZ cJ cR : ClassId) (tb : Nat → Nat) (hst : l.stackTraces = false) (sz x0 N : Nat) (B : Int) (U : va_W) (hN2 : N ≤ 4096) (hB : B + 50000 ≤ 200000000) (tz gz : Int) (xz : List Int32) (hU : KI N B x0 cI cB cR tz gz xz U)  : Met l yX11_step (Cond.code yX11_step cX11_step 1 (some .int) :: tw_W) ({ frames := 6, cells := 0, slots := 0, locals := 133 }) (pc_ (dC, dI) (tyS cI cB cZ cJ cR) tb U sz [.ref x0]) (qi_ (dC, dI) U sz (fun (r : Int32) (u : va_W) => KI N (B + 50000) x0 cI cB cR tz gz xz u) (fun (u : va_W) => u)) 0 0 (va_A U sz) := by
  obtain ⟨ad, pr, L1, L2, v, ad2, L3, L4, w, sb, a, m, n, f, cnt, mb, hpm, rfl, hC, hS, hot, hog, hox, hon⟩ := hU
  obtain ⟨⟨hL1, hL2, hL3, hL4⟩, ⟨rp, rpw⟩, ⟨hp1, hp2⟩, z373, z381, z344, z391, z353⟩ := hC
  refine Met.lift_i (R := []) _ (List.Perm.trans hpm (p_nil _)) (c_x_X11_step l dC dI cI cB cZ cJ cR tb sz ad pr N L1 L2 (prW ad2 N cI cR L3 L4 w ++ shC (ad 910) sb a cB m f cnt mb) v   z344 (by omega) ⟨z353.1, by omega⟩) (fun r u hpo => ?_)
  rw [List.append_nil]
  obtain ⟨fr, pq⟩ := hpo
  exact ⟨ad, pr, L1, L2, u, ad2, L3, L4, w, sb, a, m, n, f, cnt, mb, List.Perm.refl _, rfl, ⟨⟨hL1, hL2, hL3, hL4⟩, ⟨fr.1 rp, rpw⟩, ⟨(by rw [fr.2.1 392 (by decide)]; exact hp1), (by rw [fr.2.1 393 (by decide)]; exact hp2)⟩, (by rw [fr.2.1 373 (by decide)]; exact z373), (by rw [fr.2.1 381 (by decide)]; exact z381), (by rw [fr.2.1 344 (by decide)]; exact z344), (by rw [fr.2.1 391 (by decide)]; exact z391), ⟨by omega, by omega⟩⟩, hS, (by rw [fr.2.1 391 (by decide)]; exact hot), (by rw [fr.2.1 344 (by decide)]; exact hog), hox, hon⟩
set_option maxHeartbeats 4000000 in
set_option maxRecDepth 100000 in
theorem kl_code (l : Launch) (dC : Nat → ClassId) (dI : Nat → Nat → Nat) (cI cB cZ cJ cR : ClassId) (tb : Nat → Nat) (hst : l.stackTraces = false) (sz x0 N : Nat) (B : Int) (U : va_W) (hN2 : N ≤ 4096) (hB : B + 50000 ≤ 200000000) (tz gz : Int) (xz : List Int32) (hU : KI N B x0 cI cB cR tz gz xz U) (pa : Int32) : vx_Met l yX11_code (Cond.code yX11_code cX11_code 2 (some .int) :: tw_W) ({ frames := 6, cells := 1, slots := 6, locals := 82 }) (pc_ (dC, dI) (tyS cI cB cZ cJ cR) tb U sz [.ref x0, .int pa]) (qi_ (dC, dI) U sz (fun (r : Int32) (u : va_W) => KI N (B + 50000) x0 cI cB cR tz gz xz u) (fun (u : va_W) => u)) (qxp (dC, dI) U sz (fun E => (E = "java/lang/IndexOutOfBoundsException"))) 1 6 (va_A U sz) := by
  obtain ⟨ad, pr, L1, L2, v, ad2, L3, L4, w, sb, a, m, n, f, cnt, mb, hpm, rfl, hC, hS, hot, hog, hox, hon⟩ := hU
  obtain ⟨⟨hL1, hL2, hL3, hL4⟩, ⟨rp, rpw⟩, ⟨hp1, hp2⟩, z373, z381, z344, z391, z353⟩ := hC
  refine vx_Met.lift_i (R := []) _ (List.Perm.trans hpm (p_nil _)) (c_x_X11_code l dC dI cI cB cZ cJ cR tb sz ad pr N L1 L2 (prW ad2 N cI cR L3 L4 w ++ shC (ad 910) sb a cB m f cnt mb) v pa (v.1 0 392) (by omega) hp1 rfl hst) (fun r u hpo => ?_)
  rw [List.append_nil]
  obtain rfl := hpo
  have fr : FC [] [] v v := FC.rf v
  exact ⟨ad, pr, L1, L2, v, ad2, L3, L4, w, sb, a, m, n, f, cnt, mb, List.Perm.refl _, rfl, ⟨⟨hL1, hL2, hL3, hL4⟩, ⟨fr.1 rp, rpw⟩, ⟨(by rw [fr.2.1 392 (by decide)]; exact hp1), (by rw [fr.2.1 393 (by decide)]; exact hp2)⟩, (by rw [fr.2.1 373 (by decide)]; exact z373), (by rw [fr.2.1 381 (by decide)]; exact z381), (by rw [fr.2.1 344 (by decide)]; exact z344), (by rw [fr.2.1 391 (by decide)]; exact z391), (by rw [fr.2.1 353 (by decide)]; exact ⟨z353.1, by omega⟩)⟩, hS, hot, hog, hox, hon⟩
set_option maxHeartbeats 4000000 in
set_option maxRecDepth 100000 in
theorem kl_run (l : Launch) (dC : Nat → ClassId) (dI : Nat → Nat → Nat) (cI cB cZ cJ cR : ClassId) (tb : Nat → Nat) (hst : l.stackTraces = false) (sz x0 N : Nat) (B : Int) (U : va_W) (hN2 : N ≤ 4096) (hB : B + 50000 ≤ 200000000) (tz gz : Int) (xz : List Int32) (hU : KI N B x0 cI cB cR tz gz xz U) (pa : Int32) : vx_Met l yX11_run (Cond.code yX11_run cX11_run 2 (some .int) :: tw_W) ({ frames := 7, cells := 1, slots := 6, locals := 156 }) (pc_ (dC, dI) (tyS cI cB cZ cJ cR) tb U sz [.ref x0, .int pa]) (qi_ (dC, dI) U sz (fun (r : Int32) (u : va_W) => KI N (B + 50000) x0 cI cB cR tz gz xz u) (fun (u : va_W) => u)) (qxp (dC, dI) U sz (fun E => (E = "java/lang/IllegalArgumentException"))) 1 6 (va_A U sz) := by
  obtain ⟨ad, pr, L1, L2, v, ad2, L3, L4, w, sb, a, m, n, f, cnt, mb, hpm, rfl, hC, hS, hot, hog, hox, hon⟩ := hU
  obtain ⟨⟨hL1, hL2, hL3, hL4⟩, ⟨rp, rpw⟩, ⟨hp1, hp2⟩, z373, z381, z344, z391, z353⟩ := hC
  refine vx_Met.lift_i (R := []) _ (List.Perm.trans hpm (p_nil _)) (c_x_X11_run l dC dI cI cB cZ cJ cR tb sz ad pr N L1 L2 (prW ad2 N cI cR L3 L4 w ++ shC (ad 910) sb a cB m f cnt mb) v pa  z344 (by omega) ⟨z353.1, by omega⟩ hst) (fun r u hpo => ?_)
  rw [List.append_nil]
  obtain ⟨fr, pq⟩ := hpo
  exact ⟨ad, pr, L1, L2, u, ad2, L3, L4, w, sb, a, m, n, f, cnt, mb, List.Perm.refl _, rfl, ⟨⟨hL1, hL2, hL3, hL4⟩, ⟨fr.1 rp, rpw⟩, ⟨(by rw [fr.2.1 392 (by decide)]; exact hp1), (by rw [fr.2.1 393 (by decide)]; exact hp2)⟩, (by rw [fr.2.1 373 (by decide)]; exact z373), (by rw [fr.2.1 381 (by decide)]; exact z381), (by rw [fr.2.1 344 (by decide)]; exact z344), (by rw [fr.2.1 391 (by decide)]; exact z391), ⟨by omega, by omega⟩⟩, hS, (by rw [fr.2.1 391 (by decide)]; exact hot), (by rw [fr.2.1 344 (by decide)]; exact hog), hox, hon⟩
set_option maxHeartbeats 4000000 in
set_option maxRecDepth 100000 in
theorem kl_register (l : Launch) (dC : Nat → ClassId) (dI : Nat → Nat → Nat) (cI cB cZ cJ cR : ClassId) (tb : Nat → Nat) (hst : l.stackTraces = false) (sz x0 N : Nat) (B : Int) (U : va_W) (hN2 : N ≤ 4096) (hB : B + 50000 ≤ 200000000) (tz gz : Int) (xz : List Int32) (hU : KI N B x0 cI cB cR tz gz xz U) (pa : Int32) : vx_Met l yX11_register (Cond.code yX11_register cX11_register 2 (some .int) :: tw_W) ({ frames := 6, cells := 1, slots := 6, locals := 82 }) (pc_ (dC, dI) (tyS cI cB cZ cJ cR) tb U sz [.ref x0, .int pa]) (qi_ (dC, dI) U sz (fun (r : Int32) (u : va_W) => KI N (B + 50000) x0 cI cB cR tz gz xz u) (fun (u : va_W) => u)) (qxp (dC, dI) U sz (fun E => (E = "java/lang/IndexOutOfBoundsException"))) 1 6 (va_A U sz) := by
  obtain ⟨ad, pr, L1, L2, v, ad2, L3, L4, w, sb, a, m, n, f, cnt, mb, hpm, rfl, hC, hS, hot, hog, hox, hon⟩ := hU
  obtain ⟨⟨hL1, hL2, hL3, hL4⟩, ⟨rp, rpw⟩, ⟨hp1, hp2⟩, z373, z381, z344, z391, z353⟩ := hC
  refine vx_Met.lift_i (R := []) _ (List.Perm.trans hpm (p_nil _)) (c_x_X11_register l dC dI cI cB cZ cJ cR tb sz ad pr N L1 L2 (prW ad2 N cI cR L3 L4 w ++ shC (ad 910) sb a cB m f cnt mb) v pa  hst) (fun r u hpo => ?_)
  rw [List.append_nil]
  obtain rfl := hpo
  have fr : FC [] [] v v := FC.rf v
  exact ⟨ad, pr, L1, L2, v, ad2, L3, L4, w, sb, a, m, n, f, cnt, mb, List.Perm.refl _, rfl, ⟨⟨hL1, hL2, hL3, hL4⟩, ⟨fr.1 rp, rpw⟩, ⟨(by rw [fr.2.1 392 (by decide)]; exact hp1), (by rw [fr.2.1 393 (by decide)]; exact hp2)⟩, (by rw [fr.2.1 373 (by decide)]; exact z373), (by rw [fr.2.1 381 (by decide)]; exact z381), (by rw [fr.2.1 344 (by decide)]; exact z344), (by rw [fr.2.1 391 (by decide)]; exact z391), (by rw [fr.2.1 353 (by decide)]; exact ⟨z353.1, by omega⟩)⟩, hS, hot, hog, hox, hon⟩
set_option maxHeartbeats 4000000 in
set_option maxRecDepth 100000 in
theorem kl_word (l : Launch) (dC : Nat → ClassId) (dI : Nat → Nat → Nat) (cI cB cZ cJ cR : ClassId) (tb : Nat → Nat) (hst : l.stackTraces = false) (sz x0 N : Nat) (B : Int) (U : va_W) (hN2 : N ≤ 4096) (hB : B + 50000 ≤ 200000000) (tz gz : Int) (xz : List Int32) (hU : KI N B x0 cI cB cR tz gz xz U) (pa : Int32) : vx_Met l yX11_word (Cond.code yX11_word cX11_word 2 (some .int) :: tw_W) ({ frames := 7, cells := 1, slots := 6, locals := 103 }) (pc_ (dC, dI) (tyS cI cB cZ cJ cR) tb U sz [.ref x0, .int pa]) (qi_ (dC, dI) U sz (fun (r : Int32) (u : va_W) => KI N (B + 50000) x0 cI cB cR tz gz xz u) (fun (u : va_W) => u)) (qxp (dC, dI) U sz (fun E => (E = "java/lang/IllegalArgumentException" ∧ ((pa &&& (3 : Int32)).toInt ≠ 0)) ∨ (E = "java/lang/IndexOutOfBoundsException" ∧ ((pa &&& (3 : Int32)).toInt = 0 ∧ (N : Int) ≤ ((pa.toUInt32 >>> ((2 : Int32).toUInt32 &&& Int32.toUInt32 31)).toInt32).toInt)))) 1 6 (va_A U sz) := by
  obtain ⟨ad, pr, L1, L2, v, ad2, L3, L4, w, sb, a, m, n, f, cnt, mb, hpm, rfl, hC, hS, hot, hog, hox, hon⟩ := hU
  obtain ⟨⟨hL1, hL2, hL3, hL4⟩, ⟨rp, rpw⟩, ⟨hp1, hp2⟩, z373, z381, z344, z391, z353⟩ := hC
  refine vx_Met.lift_i (R := []) _ (List.Perm.trans hpm (p_nil _)) (c_x_X11_word l dC dI cI cB cZ cJ cR tb sz ad pr N L1 L2 (prW ad2 N cI cR L3 L4 w ++ shC (ad 910) sb a cB m f cnt mb) v pa  (by omega) hst) (fun r u hpo => ?_)
  rw [List.append_nil]
  obtain rfl := hpo
  have fr : FC [] [] v v := FC.rf v
  exact ⟨ad, pr, L1, L2, v, ad2, L3, L4, w, sb, a, m, n, f, cnt, mb, List.Perm.refl _, rfl, ⟨⟨hL1, hL2, hL3, hL4⟩, ⟨fr.1 rp, rpw⟩, ⟨(by rw [fr.2.1 392 (by decide)]; exact hp1), (by rw [fr.2.1 393 (by decide)]; exact hp2)⟩, (by rw [fr.2.1 373 (by decide)]; exact z373), (by rw [fr.2.1 381 (by decide)]; exact z381), (by rw [fr.2.1 344 (by decide)]; exact z344), (by rw [fr.2.1 391 (by decide)]; exact z391), (by rw [fr.2.1 353 (by decide)]; exact ⟨z353.1, by omega⟩)⟩, hS, hot, hog, hox, hon⟩
set_option maxHeartbeats 4000000 in
set_option maxRecDepth 100000 in
theorem kl_put (l : Launch) (dC : Nat → ClassId) (dI : Nat → Nat → Nat) (cI cB cZ cJ cR : ClassId) (tb : Nat → Nat) (hst : l.stackTraces = false) (sz x0 N : Nat) (B : Int) (U : va_W) (hN2 : N ≤ 4096) (hB : B + 50000 ≤ 200000000) (tz gz : Int) (xz : List Int32) (hU : KI N B x0 cI cB cR tz gz xz U) (pa : Int32) : vx_Met l yX11_put (Cond.code yX11_put cX11_put 2 (some .int) :: tw_W) ({ frames := 6, cells := 1, slots := 6, locals := 82 }) (pc_ (dC, dI) (tyS cI cB cZ cJ cR) tb U sz [.ref x0, .int pa]) (qi_ (dC, dI) U sz (fun (r : Int32) (u : va_W) => KI N (B + 50000) x0 cI cB cR tz gz xz u) (fun (u : va_W) => u)) (qxp (dC, dI) U sz (fun E => (E = "java/util/NoSuchElementException"))) 1 6 (va_A U sz) := by
  obtain ⟨ad, pr, L1, L2, v, ad2, L3, L4, w, sb, a, m, n, f, cnt, mb, hpm, rfl, hC, hS, hot, hog, hox, hon⟩ := hU
  obtain ⟨⟨hL1, hL2, hL3, hL4⟩, ⟨rp, rpw⟩, ⟨hp1, hp2⟩, z373, z381, z344, z391, z353⟩ := hC
  refine vx_Met.lift_i (R := []) _ (List.Perm.trans hpm (p_nil _)) (c_x_X11_put l dC dI cI cB cZ cJ cR tb sz ad pr N L1 L2 (prW ad2 N cI cR L3 L4 w ++ shC (ad 910) sb a cB m f cnt mb) v pa  hst) (fun r u hpo => ?_)
  rw [List.append_nil]
  obtain rfl := hpo
  have fr : FC [] [] v v := FC.rf v
  exact ⟨ad, pr, L1, L2, v, ad2, L3, L4, w, sb, a, m, n, f, cnt, mb, List.Perm.refl _, rfl, ⟨⟨hL1, hL2, hL3, hL4⟩, ⟨fr.1 rp, rpw⟩, ⟨(by rw [fr.2.1 392 (by decide)]; exact hp1), (by rw [fr.2.1 393 (by decide)]; exact hp2)⟩, (by rw [fr.2.1 373 (by decide)]; exact z373), (by rw [fr.2.1 381 (by decide)]; exact z381), (by rw [fr.2.1 344 (by decide)]; exact z344), (by rw [fr.2.1 391 (by decide)]; exact z391), (by rw [fr.2.1 353 (by decide)]; exact ⟨z353.1, by omega⟩)⟩, hS, hot, hog, hox, hon⟩
set_option maxHeartbeats 4000000 in
set_option maxRecDepth 100000 in
theorem kl_worked (l : Launch) (dC : Nat → ClassId) (dI : Nat → Nat → Nat) (cI cB cZ cJ cR : ClassId) (tb : Nat → Nat) (hst : l.stackTraces = false) (sz x0 N : Nat) (B : Int) (U : va_W) (hN2 : N ≤ 4096) (hB : B + 50000 ≤ 200000000) (tz gz : Int) (xz : List Int32) (hU : KI N B x0 cI cB cR tz gz xz U) (pa : Int32) : vx_Met l yX11_worked (Cond.code yX11_worked cX11_worked 2 (some .int) :: tw_W) ({ frames := 6, cells := 1, slots := 6, locals := 82 }) (pc_ (dC, dI) (tyS cI cB cZ cJ cR) tb U sz [.ref x0, .int pa]) (qi_ (dC, dI) U sz (fun (r : Int32) (u : va_W) => KI N (B + 50000) x0 cI cB cR tz gz xz u) (fun (u : va_W) => u)) (qxp (dC, dI) U sz (fun E => (E = "java/util/NoSuchElementException"))) 1 6 (va_A U sz) := by
  obtain ⟨ad, pr, L1, L2, v, ad2, L3, L4, w, sb, a, m, n, f, cnt, mb, hpm, rfl, hC, hS, hot, hog, hox, hon⟩ := hU
  obtain ⟨⟨hL1, hL2, hL3, hL4⟩, ⟨rp, rpw⟩, ⟨hp1, hp2⟩, z373, z381, z344, z391, z353⟩ := hC
  refine vx_Met.lift_i (R := []) _ (List.Perm.trans hpm (p_nil _)) (c_x_X11_worked l dC dI cI cB cZ cJ cR tb sz ad pr N L1 L2 (prW ad2 N cI cR L3 L4 w ++ shC (ad 910) sb a cB m f cnt mb) v pa  hst) (fun r u hpo => ?_)
  rw [List.append_nil]
  obtain rfl := hpo
  have fr : FC [] [] v v := FC.rf v
  exact ⟨ad, pr, L1, L2, v, ad2, L3, L4, w, sb, a, m, n, f, cnt, mb, List.Perm.refl _, rfl, ⟨⟨hL1, hL2, hL3, hL4⟩, ⟨fr.1 rp, rpw⟩, ⟨(by rw [fr.2.1 392 (by decide)]; exact hp1), (by rw [fr.2.1 393 (by decide)]; exact hp2)⟩, (by rw [fr.2.1 373 (by decide)]; exact z373), (by rw [fr.2.1 381 (by decide)]; exact z381), (by rw [fr.2.1 344 (by decide)]; exact z344), (by rw [fr.2.1 391 (by decide)]; exact z391), (by rw [fr.2.1 353 (by decide)]; exact ⟨z353.1, by omega⟩)⟩, hS, hot, hog, hox, hon⟩
set_option maxHeartbeats 4000000 in
set_option maxRecDepth 100000 in
theorem kl_left (l : Launch) (dC : Nat → ClassId) (dI : Nat → Nat → Nat) (cI cB cZ cJ cR : ClassId) (tb : Nat → Nat) (hst : l.stackTraces = false) (sz x0 N : Nat) (B : Int) (U : va_W) (hN2 : N ≤ 4096) (hB : B + 50000 ≤ 200000000) (tz gz : Int) (xz : List Int32) (hU : KI N B x0 cI cB cR tz gz xz U) (pa : Int32) (pb : Int32) : vx_Met l yX11_left (Cond.code yX11_left cX11_left 3 (some .int) :: tw_W) ({ frames := 6, cells := 1, slots := 6, locals := 82 }) (pc_ (dC, dI) (tyS cI cB cZ cJ cR) tb U sz [.ref x0, .int pa, .int pb]) (qi_ (dC, dI) U sz (fun (r : Int32) (u : va_W) => KI N (B + 50000) x0 cI cB cR tz gz xz u) (fun (u : va_W) => u)) (qxp (dC, dI) U sz (fun E => (E = "java/util/NoSuchElementException"))) 1 6 (va_A U sz) := by
  obtain ⟨ad, pr, L1, L2, v, ad2, L3, L4, w, sb, a, m, n, f, cnt, mb, hpm, rfl, hC, hS, hot, hog, hox, hon⟩ := hU
  obtain ⟨⟨hL1, hL2, hL3, hL4⟩, ⟨rp, rpw⟩, ⟨hp1, hp2⟩, z373, z381, z344, z391, z353⟩ := hC
  refine vx_Met.lift_i (R := []) _ (List.Perm.trans hpm (p_nil _)) (c_x_X11_left l dC dI cI cB cZ cJ cR tb sz ad pr N L1 L2 (prW ad2 N cI cR L3 L4 w ++ shC (ad 910) sb a cB m f cnt mb) v pa pb (v.1 0 392) (by omega) hL1 hL2 rp hp1 rfl hst) (fun r u hpo => ?_)
  rw [List.append_nil]
  obtain rfl := hpo
  have fr : FC [] [] v v := FC.rf v
  exact ⟨ad, pr, L1, L2, v, ad2, L3, L4, w, sb, a, m, n, f, cnt, mb, List.Perm.refl _, rfl, ⟨⟨hL1, hL2, hL3, hL4⟩, ⟨fr.1 rp, rpw⟩, ⟨(by rw [fr.2.1 392 (by decide)]; exact hp1), (by rw [fr.2.1 393 (by decide)]; exact hp2)⟩, (by rw [fr.2.1 373 (by decide)]; exact z373), (by rw [fr.2.1 381 (by decide)]; exact z381), (by rw [fr.2.1 344 (by decide)]; exact z344), (by rw [fr.2.1 391 (by decide)]; exact z391), (by rw [fr.2.1 353 (by decide)]; exact ⟨z353.1, by omega⟩)⟩, hS, hot, hog, hox, hon⟩
set_option maxHeartbeats 4000000 in
set_option maxRecDepth 100000 in
theorem kl_find (l : Launch) (dC : Nat → ClassId) (dI : Nat → Nat → Nat) (cI cB cZ cJ cR : ClassId) (tb : Nat → Nat) (hst : l.stackTraces = false) (sz x0 N : Nat) (B : Int) (U : va_W) (hN2 : N ≤ 4096) (hB : B + 50000 ≤ 200000000) (tz gz : Int) (xz : List Int32) (hU : KI N B x0 cI cB cR tz gz xz U) (pa : Int32) : vx_Met l yX11_find (Cond.code yX11_find cX11_find 5 (some .int) :: tw_W) ({ frames := 6, cells := 1, slots := 6, locals := 82 }) (pc_ (dC, dI) (tyS cI cB cZ cJ cR) tb U sz [.ref x0, .int pa]) (qi_ (dC, dI) U sz (fun (r : Int32) (u : va_W) => KI N (B + 50000) x0 cI cB cR tz gz xz u) (fun (u : va_W) => u)) (qxp (dC, dI) U sz (fun E => (E = "java/lang/IllegalArgumentException"))) 1 6 (va_A U sz) := by
  obtain ⟨ad, pr, L1, L2, v, ad2, L3, L4, w, sb, a, m, n, f, cnt, mb, hpm, rfl, hC, hS, hot, hog, hox, hon⟩ := hU
  obtain ⟨⟨hL1, hL2, hL3, hL4⟩, ⟨rp, rpw⟩, ⟨hp1, hp2⟩, z373, z381, z344, z391, z353⟩ := hC
  refine vx_Met.lift_i (R := []) _ (List.Perm.trans hpm (p_nil _)) (c_x_X11_find l dC dI cI cB cZ cJ cR tb sz ad pr N L1 L2 (prW ad2 N cI cR L3 L4 w ++ shC (ad 910) sb a cB m f cnt mb) v pa (v.1 0 392) z373 z391 hL1 hL2 rp hp1 rfl hst) (fun r u hpo => ?_)
  rw [List.append_nil]
  obtain rfl := hpo
  have fr : FC [] [] v v := FC.rf v
  exact ⟨ad, pr, L1, L2, v, ad2, L3, L4, w, sb, a, m, n, f, cnt, mb, List.Perm.refl _, rfl, ⟨⟨hL1, hL2, hL3, hL4⟩, ⟨fr.1 rp, rpw⟩, ⟨(by rw [fr.2.1 392 (by decide)]; exact hp1), (by rw [fr.2.1 393 (by decide)]; exact hp2)⟩, (by rw [fr.2.1 373 (by decide)]; exact z373), (by rw [fr.2.1 381 (by decide)]; exact z381), (by rw [fr.2.1 344 (by decide)]; exact z344), (by rw [fr.2.1 391 (by decide)]; exact z391), (by rw [fr.2.1 353 (by decide)]; exact ⟨z353.1, by omega⟩)⟩, hS, hot, hog, hox, hon⟩
set_option maxHeartbeats 4000000 in
set_option maxRecDepth 100000 in
theorem kl_work (l : Launch) (dC : Nat → ClassId) (dI : Nat → Nat → Nat) (cI cB cZ cJ cR : ClassId) (tb : Nat → Nat) (hst : l.stackTraces = false) (sz x0 N : Nat) (B : Int) (U : va_W) (hN2 : N ≤ 4096) (hB : B + 50000 ≤ 200000000) (tz gz : Int) (xz : List Int32) (hU : KI N B x0 cI cB cR tz gz xz U) (pa : Int32) (pb : Int32) (pc1 : Int32) (pd : Int32) : vx_Met l yX11_work (Cond.code yX11_work cX11_work 6 (some .int) :: tw_W) ({ frames := 6, cells := 1, slots := 6, locals := 135 }) (pc_ (dC, dI) (tyS cI cB cZ cJ cR) tb U sz [.ref x0, .int pa, .int pb, .int pc1, .int pd]) (qi_ (dC, dI) U sz (fun (r : Int32) (u : va_W) => KI N (B + 50000) x0 cI cB cR tz gz xz u) (fun (u : va_W) => u)) (qxp (dC, dI) U sz (fun E => (E = "java/util/NoSuchElementException") ∨ (E = "java/lang/IllegalArgumentException"))) 1 6 (va_A U sz) := by
  obtain ⟨ad, pr, L1, L2, v, ad2, L3, L4, w, sb, a, m, n, f, cnt, mb, hpm, rfl, hC, hS, hot, hog, hox, hon⟩ := hU
  obtain ⟨⟨hL1, hL2, hL3, hL4⟩, ⟨rp, rpw⟩, ⟨hp1, hp2⟩, z373, z381, z344, z391, z353⟩ := hC
  refine vx_Met.lift_i (R := []) _ (List.Perm.trans hpm (p_nil _)) (c_x_X11_work l dC dI cI cB cZ cJ cR tb sz ad pr N L1 L2 (prW ad2 N cI cR L3 L4 w ++ shC (ad 910) sb a cB m f cnt mb) v pa pb pc1 pd (v.1 0 392) z344 z381 (by omega) hL1 hL2 rp hp1 rfl hst) (fun r u hpo => ?_)
  rw [List.append_nil]
  have fr := hpo
  exact ⟨ad, pr, L1, L2, u, ad2, L3, L4, w, sb, a, m, n, f, cnt, mb, List.Perm.refl _, rfl, ⟨⟨hL1, hL2, hL3, hL4⟩, ⟨fr.1 rp, rpw⟩, ⟨(by rw [fr.2.1 392 (by decide)]; exact hp1), (by rw [fr.2.1 393 (by decide)]; exact hp2)⟩, (by rw [fr.2.1 373 (by decide)]; exact z373), (by rw [fr.2.1 381 (by decide)]; exact z381), (by rw [fr.2.1 344 (by decide)]; exact z344), (by rw [fr.2.1 391 (by decide)]; exact z391), (by rw [fr.2.1 353 (by decide)]; exact ⟨z353.1, by omega⟩)⟩, hS, (by rw [fr.2.1 391 (by decide)]; exact hot), (by rw [fr.2.1 344 (by decide)]; exact hog), hox, hon⟩
set_option maxHeartbeats 4000000 in
set_option maxRecDepth 100000 in
theorem kl_set (l : Launch) (dC : Nat → ClassId) (dI : Nat → Nat → Nat) (cI cB cZ cJ cR : ClassId) (tb : Nat → Nat) (hst : l.stackTraces = false) (sz x0 N : Nat) (B : Int) (U : va_W) (hN2 : N ≤ 4096) (hB : B + 50000 ≤ 200000000) (tz gz : Int) (xz : List Int32) (hU : KI N B x0 cI cB cR tz gz xz U) (pa : Int32) (pb : Int32) : vx_Met l yX11_set (Cond.code yX11_set cX11_set 3 none :: tw_W) ({ frames := 6, cells := 1, slots := 6, locals := 82 }) (pc_ (dC, dI) (tyS cI cB cZ cJ cR) tb U sz [.ref x0, .int pa, .int pb]) (qv_ (dC, dI) U sz (fun (u : va_W) => KI N (B + 50000) x0 cI cB cR tz gz xz u ∧ (0 ≤ pa.toInt ∧ pa.toInt ≤ 32)) (fun (u : va_W) => u)) (qxp (dC, dI) U sz (fun E => (E = "java/lang/IndexOutOfBoundsException" ∧ (pa.toInt < 0 ∨ 32 < pa.toInt)))) 1 6 (va_A U sz) := by
  obtain ⟨ad, pr, L1, L2, v, ad2, L3, L4, w, sb, a, m, n, f, cnt, mb, hpm, rfl, hC, hS, hot, hog, hox, hon⟩ := hU
  obtain ⟨⟨hL1, hL2, hL3, hL4⟩, ⟨rp, rpw⟩, ⟨hp1, hp2⟩, z373, z381, z344, z391, z353⟩ := hC
  refine vx_Met.lift_v (R := []) _ (List.Perm.trans hpm (p_nil _)) (c_x_X11_set l dC dI cI cB cZ cJ cR tb sz ad pr N L1 L2 (prW ad2 N cI cR L3 L4 w ++ shC (ad 910) sb a cB m f cnt mb) v pa pb  hst) (fun u hpo => ?_)
  rw [List.append_nil]
  obtain ⟨fr, ps9⟩ := hpo
  exact ⟨⟨ad, pr, L1, L2, u, ad2, L3, L4, w, sb, a, m, n, f, cnt, mb, List.Perm.refl _, rfl, ⟨⟨hL1, hL2, hL3, hL4⟩, ⟨fr.1 rp, rpw⟩, ⟨(by rw [fr.2.1 392 (by decide)]; exact hp1), (by rw [fr.2.1 393 (by decide)]; exact hp2)⟩, (by rw [fr.2.1 373 (by decide)]; exact z373), (by rw [fr.2.1 381 (by decide)]; exact z381), (by rw [fr.2.1 344 (by decide)]; exact z344), (by rw [fr.2.1 391 (by decide)]; exact z391), (by rw [fr.2.1 353 (by decide)]; exact ⟨z353.1, by omega⟩)⟩, hS, (by rw [fr.2.1 391 (by decide)]; exact hot), (by rw [fr.2.1 344 (by decide)]; exact hog), hox, hon⟩, ps9⟩
set_option maxHeartbeats 4000000 in
set_option maxRecDepth 100000 in
theorem kl_poke (l : Launch) (dC : Nat → ClassId) (dI : Nat → Nat → Nat) (cI cB cZ cJ cR : ClassId) (tb : Nat → Nat) (hst : l.stackTraces = false) (sz x0 N : Nat) (B : Int) (U : va_W) (hN2 : N ≤ 4096) (hB : B + 50000 ≤ 200000000) (tz gz : Int) (xz : List Int32) (hU : KI N B x0 cI cB cR tz gz xz U) (pa : Int32) (pb : Int32) : vx_Met l yX11_poke (Cond.code yX11_poke cX11_poke 3 none :: tw_W) ({ frames := 7, cells := 1, slots := 6, locals := 103 }) (pc_ (dC, dI) (tyS cI cB cZ cJ cR) tb U sz [.ref x0, .int pa, .int pb]) (qv_ (dC, dI) U sz (fun (u : va_W) => KI N (B + 50000) x0 cI cB cR tz gz xz u ∧ ((pa &&& (3 : Int32)).toInt = 0 ∧ ((pa.toUInt32 >>> ((2 : Int32).toUInt32 &&& Int32.toUInt32 31)).toInt32).toInt < (N : Int))) (fun (u : va_W) => u)) (qxp (dC, dI) U sz (fun E => (E = "java/lang/IllegalArgumentException" ∧ ((pa &&& (3 : Int32)).toInt ≠ 0)) ∨ (E = "java/lang/IndexOutOfBoundsException" ∧ ((pa &&& (3 : Int32)).toInt = 0 ∧ (N : Int) ≤ ((pa.toUInt32 >>> ((2 : Int32).toUInt32 &&& Int32.toUInt32 31)).toInt32).toInt)))) 1 6 (va_A U sz) := by
  obtain ⟨ad, pr, L1, L2, v, ad2, L3, L4, w, sb, a, m, n, f, cnt, mb, hpm, rfl, hC, hS, hot, hog, hox, hon⟩ := hU
  obtain ⟨⟨hL1, hL2, hL3, hL4⟩, ⟨rp, rpw⟩, ⟨hp1, hp2⟩, z373, z381, z344, z391, z353⟩ := hC
  refine vx_Met.lift_v (R := []) _ (List.Perm.trans hpm (p_nil _)) (c_x_X11_poke l dC dI cI cB cZ cJ cR tb sz ad pr N L1 L2 (prW ad2 N cI cR L3 L4 w ++ shC (ad 910) sb a cB m f cnt mb) v pa pb  (by omega) hst) (fun u hpo => ?_)
  rw [List.append_nil]
  obtain ⟨fr, pk⟩ := hpo
  exact ⟨⟨ad, pr, L1, L2, u, ad2, L3, L4, w, sb, a, m, n, f, cnt, mb, List.Perm.refl _, rfl, ⟨⟨hL1, hL2, hL3, hL4⟩, ⟨fr.1 rp, rpw⟩, ⟨(by rw [fr.2.1 392 (by decide)]; exact hp1), (by rw [fr.2.1 393 (by decide)]; exact hp2)⟩, (by rw [fr.2.1 373 (by decide)]; exact z373), (by rw [fr.2.1 381 (by decide)]; exact z381), (by rw [fr.2.1 344 (by decide)]; exact z344), (by rw [fr.2.1 391 (by decide)]; exact z391), (by rw [fr.2.1 353 (by decide)]; exact ⟨z353.1, by omega⟩)⟩, hS, (by rw [fr.2.1 391 (by decide)]; exact hot), (by rw [fr.2.1 344 (by decide)]; exact hog), hox, hon⟩, pk⟩
set_option maxHeartbeats 4000000 in
set_option maxRecDepth 100000 in
theorem kl_load (l : Launch) (dC : Nat → ClassId) (dI : Nat → Nat → Nat) (cI cB cZ cJ cR : ClassId) (tb : Nat → Nat) (hst : l.stackTraces = false) (sz x0 N : Nat) (B : Int) (U : va_W) (hN2 : N ≤ 4096) (hB : B + 50000 ≤ 200000000) (tz gz : Int) (xz : List Int32) (hU : KI N B x0 cI cB cR tz gz xz U)  : Met l yX11_load (Cond.codeWith yX11_load cX11_load 2 (some .int) [(30, 41, 44, 99)] :: tw_W) ({ frames := 501, cells := 1, slots := 6, locals := 14023 }) (pc_ (dC, dI) (tyS cI cB cZ cJ cR) tb U sz [.ref x0]) (qi_ (dC, dI) U sz (fun (r : Int32) (u : va_W) => ∃ t2 g2 : Int, KI N (B + 50000) x0 cI cB cR t2 g2 xz u ∧ t2 = 0 ∧ g2 = gz) (fun (u : va_W) => u)) 1 6 (va_A U sz) := by
  obtain ⟨ad, pr, L1, L2, v, ad2, L3, L4, w, sb, a, m, n, f, cnt, mb, hpm, rfl, hC, hS, hot, hog, hox, hon⟩ := hU
  obtain ⟨⟨hL1, hL2, hL3, hL4⟩, ⟨rp, rpw⟩, ⟨hp1, hp2⟩, z373, z381, z344, z391, z353⟩ := hC
  refine Met.lift_i (R := []) _ (List.Perm.trans hpm (List.Perm.trans (swp ad ad2 pr N cI cB cR L1 L2 L3 L4 v w (ad 910) sb a m f cnt mb) (p_nil _))) (c_x_X11_load l dC dI cI cB cZ cJ cR tb sz (swA ad ad2) pr N L3 L4 (prW ad N cI cR L1 L2 v ++ shC (ad 910) sb a cB m f cnt mb) (swV v w) (v.1 0 393) (by omega) hL3 hL4 (sw_rp rpw) hp2 rfl hst) (fun r u hpo => ?_)
  rw [List.append_nil]
  obtain ⟨fr, i373, i391, ld, t0⟩ := hpo
  have e344 : u.1 0 344 = v.1 0 344 := fr.2.1 344 (by decide)
  have e353 : u.1 0 353 = v.1 0 353 := fr.2.1 353 (by decide)
  rcases ld with ⟨e1, e2, h381⟩ | ⟨e1, e2⟩
  · exact ⟨0, gz, ⟨swA ad ad2, pr, L3, L4, u, ad, L1, L2, v, sb, a, m, n, f, cnt, mb, List.Perm.refl _, rfl, ⟨⟨hL3, hL4, hL1, hL2⟩, ⟨fr.1 (sw_rp rpw), rp⟩, ⟨(by rw [e1]; exact hp2), (by rw [e2]; exact hp1)⟩, i373, h381, (by rw [e344]; exact z344), i391, (by rw [e353]; exact ⟨z353.1, by omega⟩)⟩, hS, t0, (by rw [e344]; exact hog), hox, hon⟩, rfl, rfl⟩
  · exact ⟨0, gz, ⟨swA (swA ad ad2) ad, pr, L1, L2, swV u v, swA ad ad2, L3, L4, u, sb, a, m, n, f, cnt, mb, swp (swA ad ad2) ad pr N cI cB cR L3 L4 L1 L2 u v (ad 910) sb a m f cnt mb, rfl, ⟨⟨hL1, hL2, hL3, hL4⟩, ⟨sw_rp rp, fr.1 (sw_rp rpw)⟩, ⟨(show pr (u.1 0 392) = ad 908 by rw [e1]; exact hp1), (show pr (u.1 0 393) = ad2 908 by rw [e2]; exact hp2)⟩, z373, z381, (show 0 ≤ (u.1 0 344).toInt ∧ (u.1 0 344).toInt ≤ 64 by rw [e344]; exact z344), i391, (show 0 ≤ (u.1 0 353).toInt ∧ (u.1 0 353).toInt ≤ B + 50000 by rw [e353]; exact ⟨z353.1, by omega⟩)⟩, hS, (show (u.1 0 391).toInt = 0 from t0), (show (u.1 0 344).toInt = gz by rw [e344]; exact hog), hox, hon⟩, rfl, rfl⟩
set_option maxHeartbeats 4000000 in
set_option maxRecDepth 100000 in
theorem kl_show (l : Launch) (dC : Nat → ClassId) (dI : Nat → Nat → Nat) (cI cB cZ cJ cR : ClassId) (tb : Nat → Nat) (hst : l.stackTraces = false) (sz x0 N : Nat) (B : Int) (U : va_W) (hN2 : N ≤ 4096) (hB : B + 50000 ≤ 200000000) (tz gz : Int) (xz : List Int32) (hU : KI N B x0 cI cB cR tz gz xz U) (w9 : Int32) : Met l yX11_show (Cond.code yX11_show cX11_show 2 (some .int) :: tw_W) ({ frames := 11, cells := 9, slots := 306, locals := 243 }) (pc_ (dC, dI) (tyS cI cB cZ cJ cR) tb U sz [.ref x0, .int w9]) (qi_ (dC, dI) U sz (fun (r : Int32) (u : va_W) => KI N (B + 50000) x0 cI cB cR tz gz (tM w9) u ∧ r.toInt = (nI (lenM w9)).toInt) (fun (u : va_W) => u)) 9 306 (va_A U sz) := by
  obtain ⟨ad, pr, L1, L2, v, ad2, L3, L4, w, sb, a, m, n, f, cnt, mb, hpm, rfl, hC, hS, hot, hog, hox, hon⟩ := hU
  obtain ⟨⟨hL1, hL2, hL3, hL4⟩, ⟨rp, rpw⟩, ⟨hp1, hp2⟩, z373, z381, z344, z391, z353⟩ := hC
  obtain ⟨hm, hnm, rfl, hf⟩ := hS
  refine Met.lift_i (R := cW ad pr N cI cR L1 L2 v ++ prW ad2 N cI cR L3 L4 w) _ (List.Perm.trans hpm (p_show _ _ _ _)) (c_sx_show l dC dI cI cB cZ cJ cR tb sz (ad 909) (ad 299) (v.1 0 391) (pr (v.1 0 392)) (pr (v.1 0 393)) (ad 903) (ad 904) (v.1 0 396) (v.1 0 397) (ad 905) (ad 906) (ad 907) (ad 910) sb a m n f mb w9 hm hf (by omega)) (fun r u hpo => ?_)
  obtain ⟨kZ, aZ, mZ, fZ, mbZ⟩ := u
  obtain ⟨h1, h2, h3, h4⟩ := hpo
  exact ⟨⟨ad, pr, L1, L2, v, ad2, L3, L4, w, sb, aZ, mZ, kZ, fZ, nI kZ, mbZ, (p_show (ad 909, .inr (14, oF_X11 ad pr v)) (cW ad pr N cI cR L1 L2 v) (prW ad2 N cI cR L3 L4 w) _).symm, rfl, ⟨⟨hL1, hL2, hL3, hL4⟩, ⟨rp, rpw⟩, ⟨hp1, hp2⟩, z373, z381, z344, z391, ⟨z353.1, by omega⟩⟩, ⟨h1, h2, rfl, h3⟩, hot, hog, HT.of (show_eq h4).2, tM_nn _⟩, congrArg Int32.toInt (show_eq h4).1⟩
set_option maxHeartbeats 4000000 in
set_option maxRecDepth 100000 in
theorem kl_octet (l : Launch) (dC : Nat → ClassId) (dI : Nat → Nat → Nat) (cI cB cZ cJ cR : ClassId) (tb : Nat → Nat) (hst : l.stackTraces = false) (sz x0 N : Nat) (B : Int) (U : va_W) (hN2 : N ≤ 4096) (hB : B + 50000 ≤ 200000000) (tz gz : Int) (xz : List Int32) (hU : KI N B x0 cI cB cR tz gz xz U) (x9 : Int32) : Met l yX11_octet (Cond.code yX11_octet cX11_octet 2 (some .int) :: tw_W) ({ frames := 5, cells := 0, slots := 0, locals := 109 }) (pc_ (dC, dI) (tyS cI cB cZ cJ cR) tb U sz [.ref x0, .int x9]) (qi_ (dC, dI) U sz (fun (r : Int32) (u : va_W) => KI N (B + 50000) x0 cI cB cR tz gz xz u ∧ r.toInt = ocA xz x9) (fun (u : va_W) => u)) 0 0 (va_A U sz) := by
  obtain ⟨ad, pr, L1, L2, v, ad2, L3, L4, w, sb, a, m, n, f, cnt, mb, hpm, rfl, hC, hS, hot, hog, hox, hon⟩ := hU
  obtain ⟨⟨hL1, hL2, hL3, hL4⟩, ⟨rp, rpw⟩, ⟨hp1, hp2⟩, z373, z381, z344, z391, z353⟩ := hC
  obtain ⟨hm, hnm, rfl, hf⟩ := hS
  refine Met.lift_i (R := cW ad pr N cI cR L1 L2 v ++ prW ad2 N cI cR L3 L4 w) _ (List.Perm.trans hpm (p_show _ _ _ _)) (c_sx_octet l dC dI cI cB cZ cJ cR tb sz (ad 909) (ad 299) (v.1 0 391) (pr (v.1 0 392)) (pr (v.1 0 393)) (ad 903) (ad 904) (v.1 0 396) (v.1 0 397) (ad 905) (ad 906) (ad 907) (ad 910) sb a m n f mb x9 hm hf hnm) (fun r u hpo => ?_)
  exact ⟨⟨ad, pr, L1, L2, v, ad2, L3, L4, w, sb, a, m, n, f, nI n, mb, (p_show (ad 909, .inr (14, oF_X11 ad pr v)) (cW ad pr N cI cR L1 L2 v) (prW ad2 N cI cR L3 L4 w) _).symm, rfl, ⟨⟨hL1, hL2, hL3, hL4⟩, ⟨rp, rpw⟩, ⟨hp1, hp2⟩, z373, z381, z344, z391, ⟨z353.1, by omega⟩⟩, ⟨hm, hnm, rfl, hf⟩, hot, hog, hox, hon⟩, oc_eq hf hox hon hpo⟩
