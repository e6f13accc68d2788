/-! the class as one state: v.1 0 g its field g (a Program by its number), v.1 g its array of field g, v.1 (5000 + a) the row at a -/
def oF_X9 (ad : Nat → Nat) (pr : Int32 → Nat) (v : MS) : List Value := [.ref (pr (v.1 0 300)), .ref (ad 301), .ref (ad 302), .ref (ad 303), .int (v.1 0 304), .int (v.1 0 305), .int (v.1 0 306), .int (v.1 0 307), .int (v.1 0 308), .int (v.1 0 309)]
def oF_X1 (ad : Nat → Nat) (pr : Int32 → Nat) (v : MS) : List Value := [.ref (pr (v.1 0 310)), .ref (ad 311), .int (v.1 0 312), .int (v.1 0 313), .int (v.1 0 314), .int (v.1 0 315), .ref (ad 316), .int (v.1 0 317), .ref (ad 318), .ref (ad 319), .ref (ad 320), .int (v.1 0 321)]
def oF_X2 (ad : Nat → Nat) (pr : Int32 → Nat) (v : MS) : List Value := [.ref (ad 900), .ref (ad 901), .ref (ad 324), .ref (ad 325), .int (v.1 0 326)]
def oF_X5 (ad : Nat → Nat) (pr : Int32 → Nat) (v : MS) : List Value := [.ref (pr (v.1 0 327)), .ref (ad 900), .ref (ad 901), .ref (ad 902), .int (v.1 0 331), .int (v.1 0 332), .int (v.1 0 333)]
def oF_X0 (ad : Nat → Nat) (pr : Int32 → Nat) (v : MS) : List Value := [.ref (pr (v.1 0 334)), .int (v.1 0 335), .ref (ad 336), .int (v.1 0 337), .int (v.1 0 338), .int (v.1 0 339), .int (v.1 0 340), .int (v.1 0 341), .int (v.1 0 342)]
def oF_X3 (ad : Nat → Nat) (pr : Int32 → Nat) (v : MS) : List Value := [.ref (ad 343), .int (v.1 0 344), .int (v.1 0 345)]
def oF_X6 (ad : Nat → Nat) (pr : Int32 → Nat) (v : MS) : List Value := [.ref (ad 346), .ref (ad 347), .int (v.1 0 348), .int (v.1 0 349), .int (v.1 0 350), .int (v.1 0 351), .ref (ad 352), .int (v.1 0 353), .ref (ad 905)]
def oF_X10 (ad : Nat → Nat) (pr : Int32 → Nat) (v : MS) : List Value := [.ref (pr (v.1 0 355)), .ref (ad 905), .int (v.1 0 357), .ref (ad 358), .ref (ad 359), .ref (ad 360), .int (v.1 0 361), .int (v.1 0 362), .int (v.1 0 363), .int (v.1 0 364), .int (v.1 0 365), .int (v.1 0 366), .int (v.1 0 367), .int (v.1 0 368), .int (v.1 0 369), .int (v.1 0 370), .int (v.1 0 371)]
def oF_X7 (ad : Nat → Nat) (pr : Int32 → Nat) (v : MS) : List Value := [.ref (ad 372), .int (v.1 0 373), .ref (ad 374), .int (v.1 0 375), .ref (ad 376), .int (v.1 0 377), .ref (ad 378), .ref (ad 379), .ref (ad 380), .int (v.1 0 381), .ref (ad 382), .int (v.1 0 383), .int (v.1 0 384)]
def cX (ad : Nat → Nat) (pr : Int32 → Nat) (N : Nat) (cI cR : ClassId) (L1 L2 : List Nat) (v : MS) : va_W := [(ad 900, .inr (12, oF_X9 ad pr v)), (ad 901, .inr (5, oF_X1 ad pr v)), (ad 902, .inr (6, oF_X2 ad pr v)), (ad 903, .inr (8, oF_X5 ad pr v)), (ad 904, .inr (4, oF_X0 ad pr v)), (ad 905, .inr (7, oF_X3 ad pr v)), (ad 906, .inr (9, oF_X6 ad pr v)), (ad 907, .inr (13, oF_X10 ad pr v)), (ad 908, .inr (10, oF_X7 ad pr v)), (ad 299, .inl (cI, 4000, .inl (v.1 299))), (ad 301, .inl (cI, 1503, .inl (v.1 301))), (ad 302, .inl (cI, 1503, .inl (v.1 302))), (ad 303, .inl (cI, 1503, .inl (v.1 303))), (ad 311, .inl (cI, 500, .inl (v.1 311))), (ad 316, .inl (cI, 1500, .inl (v.1 316))), (ad 318, .inl (cI, 501, .inl (v.1 318))), (ad 319, .inl (cI, 501, .inl (v.1 319))), (ad 320, .inl (cI, 501, .inl (v.1 320))), (ad 324, .inl (cI, 420, .inl (v.1 324))), (ad 325, .inl (cI, 420, .inl (v.1 325))), (ad 336, .inl (cI, 3009, .inl (v.1 336))), (ad 343, .inl (cI, 64, .inl (v.1 343))), (ad 346, .inl (cI, N, .inl (v.1 346))), (ad 347, .inl (cI, 32, .inl (v.1 347))), (ad 352, .inl (cI, 200, .inl (v.1 352))), (ad 358, .inl (cI, N, .inl (v.1 358))), (ad 359, .inl (cI, N, .inl (v.1 359))), (ad 360, .inl (cI, 200, .inl (v.1 360))), (ad 372, .inl (cI, 4000, .inl (v.1 372))), (ad 378, .inl (cI, 3008, .inl (v.1 378))), (ad 379, .inl (cI, 3008, .inl (v.1 379))), (ad 380, .inl (cI, 3008, .inl (v.1 380))), (ad 382, .inl (cI, N, .inl (v.1 382))), (ad 374, .inl (cR, 40, .inr (.inr (.inr (.inr (fun i => L1[i]?)))))), (ad 376, .inl (cR, 60, .inr (.inr (.inr (.inr (fun i => L2[i]?))))))]
def rw1 (cI : ClassId) (n : Nat) (v : MS) : Nat → va_E := fun a => .inl (cI, n, .inl (v.1 (5000 + a)))
def cW (ad : Nat → Nat) (pr : Int32 → Nat) (N : Nat) (cI cR : ClassId) (L1 L2 : List Nat) (v : MS) : va_W := (cX ad pr N cI cR L1 L2 v ++ va_pl L1 (rw1 cI 6 v)) ++ va_pl L2 (rw1 cI 5 v)
theorem rowE {cI : ClassId} {n : Nat} {v : MS} {b i : Nat} {x : Int32} (h : b < 5000) : rw1 cI n (wA v b i x) = rw1 cI n v := funext (fun a => by
  unfold rw1
  rw [show (wA v b i x).1 (5000 + a) = v.1 (5000 + a) from if_neg (by omega)])
theorem cw_304 (ad : Nat → Nat) (pr : Int32 → Nat) (N : Nat) (cI cR : ClassId) (L1 L2 : List Nat) (v : MS) (x : Int32) : (cW ad pr N cI cR L1 L2 v).set 0 (ad 900, .inr (12, (oF_X9 ad pr v).set 4 (.int x))) = cW ad pr N cI cR L1 L2 (wA v 0 304 x) := by
  unfold cW
  rw [rowE (by decide), rowE (by decide)]
  rfl
theorem cw_305 (ad : Nat → Nat) (pr : Int32 → Nat) (N : Nat) (cI cR : ClassId) (L1 L2 : List Nat) (v : MS) (x : Int32) : (cW ad pr N cI cR L1 L2 v).set 0 (ad 900, .inr (12, (oF_X9 ad pr v).set 5 (.int x))) = cW ad pr N cI cR L1 L2 (wA v 0 305 x) := by
  unfold cW
  rw [rowE (by decide), rowE (by decide)]
  rfl
theorem cw_306 (ad : Nat → Nat) (pr : Int32 → Nat) (N : Nat) (cI cR : ClassId) (L1 L2 : List Nat) (v : MS) (x : Int32) : (cW ad pr N cI cR L1 L2 v).set 0 (ad 900, .inr (12, (oF_X9 ad pr v).set 6 (.int x))) = cW ad pr N cI cR L1 L2 (wA v 0 306 x) := by
  unfold cW
  rw [rowE (by decide), rowE (by decide)]
  rfl
theorem cw_307 (ad : Nat → Nat) (pr : Int32 → Nat) (N : Nat) (cI cR : ClassId) (L1 L2 : List Nat) (v : MS) (x : Int32) : (cW ad pr N cI cR L1 L2 v).set 0 (ad 900, .inr (12, (oF_X9 ad pr v).set 7 (.int x))) = cW ad pr N cI cR L1 L2 (wA v 0 307 x) := by
  unfold cW
  rw [rowE (by decide), rowE (by decide)]
  rfl
theorem cw_308 (ad : Nat → Nat) (pr : Int32 → Nat) (N : Nat) (cI cR : ClassId) (L1 L2 : List Nat) (v : MS) (x : Int32) : (cW ad pr N cI cR L1 L2 v).set 0 (ad 900, .inr (12, (oF_X9 ad pr v).set 8 (.int x))) = cW ad pr N cI cR L1 L2 (wA v 0 308 x) := by
  unfold cW
  rw [rowE (by decide), rowE (by decide)]
  rfl
theorem cw_309 (ad : Nat → Nat) (pr : Int32 → Nat) (N : Nat) (cI cR : ClassId) (L1 L2 : List Nat) (v : MS) (x : Int32) : (cW ad pr N cI cR L1 L2 v).set 0 (ad 900, .inr (12, (oF_X9 ad pr v).set 9 (.int x))) = cW ad pr N cI cR L1 L2 (wA v 0 309 x) := by
  unfold cW
  rw [rowE (by decide), rowE (by decide)]
  rfl
theorem cw_312 (ad : Nat → Nat) (pr : Int32 → Nat) (N : Nat) (cI cR : ClassId) (L1 L2 : List Nat) (v : MS) (x : Int32) : (cW ad pr N cI cR L1 L2 v).set 1 (ad 901, .inr (5, (oF_X1 ad pr v).set 2 (.int x))) = cW ad pr N cI cR L1 L2 (wA v 0 312 x) := by
  unfold cW
  rw [rowE (by decide), rowE (by decide)]
  rfl
theorem cw_313 (ad : Nat → Nat) (pr : Int32 → Nat) (N : Nat) (cI cR : ClassId) (L1 L2 : List Nat) (v : MS) (x : Int32) : (cW ad pr N cI cR L1 L2 v).set 1 (ad 901, .inr (5, (oF_X1 ad pr v).set 3 (.int x))) = cW ad pr N cI cR L1 L2 (wA v 0 313 x) := by
  unfold cW
  rw [rowE (by decide), rowE (by decide)]
  rfl
theorem cw_314 (ad : Nat → Nat) (pr : Int32 → Nat) (N : Nat) (cI cR : ClassId) (L1 L2 : List Nat) (v : MS) (x : Int32) : (cW ad pr N cI cR L1 L2 v).set 1 (ad 901, .inr (5, (oF_X1 ad pr v).set 4 (.int x))) = cW ad pr N cI cR L1 L2 (wA v 0 314 x) := by
  unfold cW
  rw [rowE (by decide), rowE (by decide)]
  rfl
theorem cw_315 (ad : Nat → Nat) (pr : Int32 → Nat) (N : Nat) (cI cR : ClassId) (L1 L2 : List Nat) (v : MS) (x : Int32) : (cW ad pr N cI cR L1 L2 v).set 1 (ad 901, .inr (5, (oF_X1 ad pr v).set 5 (.int x))) = cW ad pr N cI cR L1 L2 (wA v 0 315 x) := by
  unfold cW
  rw [rowE (by decide), rowE (by decide)]
  rfl
theorem cw_317 (ad : Nat → Nat) (pr : Int32 → Nat) (N : Nat) (cI cR : ClassId) (L1 L2 : List Nat) (v : MS) (x : Int32) : (cW ad pr N cI cR L1 L2 v).set 1 (ad 901, .inr (5, (oF_X1 ad pr v).set 7 (.int x))) = cW ad pr N cI cR L1 L2 (wA v 0 317 x) := by
  unfold cW
  rw [rowE (by decide), rowE (by decide)]
  rfl
theorem cw_321 (ad : Nat → Nat) (pr : Int32 → Nat) (N : Nat) (cI cR : ClassId) (L1 L2 : List Nat) (v : MS) (x : Int32) : (cW ad pr N cI cR L1 L2 v).set 1 (ad 901, .inr (5, (oF_X1 ad pr v).set 11 (.int x))) = cW ad pr N cI cR L1 L2 (wA v 0 321 x) := by
  unfold cW
  rw [rowE (by decide), rowE (by decide)]
  rfl
theorem cw_326 (ad : Nat → Nat) (pr : Int32 → Nat) (N : Nat) (cI cR : ClassId) (L1 L2 : List Nat) (v : MS) (x : Int32) : (cW ad pr N cI cR L1 L2 v).set 2 (ad 902, .inr (6, (oF_X2 ad pr v).set 4 (.int x))) = cW ad pr N cI cR L1 L2 (wA v 0 326 x) := by
  unfold cW
  rw [rowE (by decide), rowE (by decide)]
  rfl
theorem cw_331 (ad : Nat → Nat) (pr : Int32 → Nat) (N : Nat) (cI cR : ClassId) (L1 L2 : List Nat) (v : MS) (x : Int32) : (cW ad pr N cI cR L1 L2 v).set 3 (ad 903, .inr (8, (oF_X5 ad pr v).set 4 (.int x))) = cW ad pr N cI cR L1 L2 (wA v 0 331 x) := by
  unfold cW
  rw [rowE (by decide), rowE (by decide)]
  rfl
theorem cw_332 (ad : Nat → Nat) (pr : Int32 → Nat) (N : Nat) (cI cR : ClassId) (L1 L2 : List Nat) (v : MS) (x : Int32) : (cW ad pr N cI cR L1 L2 v).set 3 (ad 903, .inr (8, (oF_X5 ad pr v).set 5 (.int x))) = cW ad pr N cI cR L1 L2 (wA v 0 332 x) := by
  unfold cW
  rw [rowE (by decide), rowE (by decide)]
  rfl
theorem cw_333 (ad : Nat → Nat) (pr : Int32 → Nat) (N : Nat) (cI cR : ClassId) (L1 L2 : List Nat) (v : MS) (x : Int32) : (cW ad pr N cI cR L1 L2 v).set 3 (ad 903, .inr (8, (oF_X5 ad pr v).set 6 (.int x))) = cW ad pr N cI cR L1 L2 (wA v 0 333 x) := by
  unfold cW
  rw [rowE (by decide), rowE (by decide)]
  rfl
theorem cw_335 (ad : Nat → Nat) (pr : Int32 → Nat) (N : Nat) (cI cR : ClassId) (L1 L2 : List Nat) (v : MS) (x : Int32) : (cW ad pr N cI cR L1 L2 v).set 4 (ad 904, .inr (4, (oF_X0 ad pr v).set 1 (.int x))) = cW ad pr N cI cR L1 L2 (wA v 0 335 x) := by
  unfold cW
  rw [rowE (by decide), rowE (by decide)]
  rfl
theorem cw_337 (ad : Nat → Nat) (pr : Int32 → Nat) (N : Nat) (cI cR : ClassId) (L1 L2 : List Nat) (v : MS) (x : Int32) : (cW ad pr N cI cR L1 L2 v).set 4 (ad 904, .inr (4, (oF_X0 ad pr v).set 3 (.int x))) = cW ad pr N cI cR L1 L2 (wA v 0 337 x) := by
  unfold cW
  rw [rowE (by decide), rowE (by decide)]
  rfl
theorem cw_338 (ad : Nat → Nat) (pr : Int32 → Nat) (N : Nat) (cI cR : ClassId) (L1 L2 : List Nat) (v : MS) (x : Int32) : (cW ad pr N cI cR L1 L2 v).set 4 (ad 904, .inr (4, (oF_X0 ad pr v).set 4 (.int x))) = cW ad pr N cI cR L1 L2 (wA v 0 338 x) := by
  unfold cW
  rw [rowE (by decide), rowE (by decide)]
  rfl
theorem cw_339 (ad : Nat → Nat) (pr : Int32 → Nat) (N : Nat) (cI cR : ClassId) (L1 L2 : List Nat) (v : MS) (x : Int32) : (cW ad pr N cI cR L1 L2 v).set 4 (ad 904, .inr (4, (oF_X0 ad pr v).set 5 (.int x))) = cW ad pr N cI cR L1 L2 (wA v 0 339 x) := by
  unfold cW
  rw [rowE (by decide), rowE (by decide)]
  rfl
theorem cw_340 (ad : Nat → Nat) (pr : Int32 → Nat) (N : Nat) (cI cR : ClassId) (L1 L2 : List Nat) (v : MS) (x : Int32) : (cW ad pr N cI cR L1 L2 v).set 4 (ad 904, .inr (4, (oF_X0 ad pr v).set 6 (.int x))) = cW ad pr N cI cR L1 L2 (wA v 0 340 x) := by
  unfold cW
  rw [rowE (by decide), rowE (by decide)]
  rfl
theorem cw_341 (ad : Nat → Nat) (pr : Int32 → Nat) (N : Nat) (cI cR : ClassId) (L1 L2 : List Nat) (v : MS) (x : Int32) : (cW ad pr N cI cR L1 L2 v).set 4 (ad 904, .inr (4, (oF_X0 ad pr v).set 7 (.int x))) = cW ad pr N cI cR L1 L2 (wA v 0 341 x) := by
  unfold cW
  rw [rowE (by decide), rowE (by decide)]
  rfl
theorem cw_342 (ad : Nat → Nat) (pr : Int32 → Nat) (N : Nat) (cI cR : ClassId) (L1 L2 : List Nat) (v : MS) (x : Int32) : (cW ad pr N cI cR L1 L2 v).set 4 (ad 904, .inr (4, (oF_X0 ad pr v).set 8 (.int x))) = cW ad pr N cI cR L1 L2 (wA v 0 342 x) := by
  unfold cW
  rw [rowE (by decide), rowE (by decide)]
  rfl
theorem cw_344 (ad : Nat → Nat) (pr : Int32 → Nat) (N : Nat) (cI cR : ClassId) (L1 L2 : List Nat) (v : MS) (x : Int32) : (cW ad pr N cI cR L1 L2 v).set 5 (ad 905, .inr (7, (oF_X3 ad pr v).set 1 (.int x))) = cW ad pr N cI cR L1 L2 (wA v 0 344 x) := by
  unfold cW
  rw [rowE (by decide), rowE (by decide)]
  rfl
theorem cw_345 (ad : Nat → Nat) (pr : Int32 → Nat) (N : Nat) (cI cR : ClassId) (L1 L2 : List Nat) (v : MS) (x : Int32) : (cW ad pr N cI cR L1 L2 v).set 5 (ad 905, .inr (7, (oF_X3 ad pr v).set 2 (.int x))) = cW ad pr N cI cR L1 L2 (wA v 0 345 x) := by
  unfold cW
  rw [rowE (by decide), rowE (by decide)]
  rfl
theorem cw_348 (ad : Nat → Nat) (pr : Int32 → Nat) (N : Nat) (cI cR : ClassId) (L1 L2 : List Nat) (v : MS) (x : Int32) : (cW ad pr N cI cR L1 L2 v).set 6 (ad 906, .inr (9, (oF_X6 ad pr v).set 2 (.int x))) = cW ad pr N cI cR L1 L2 (wA v 0 348 x) := by
  unfold cW
  rw [rowE (by decide), rowE (by decide)]
  rfl
theorem cw_349 (ad : Nat → Nat) (pr : Int32 → Nat) (N : Nat) (cI cR : ClassId) (L1 L2 : List Nat) (v : MS) (x : Int32) : (cW ad pr N cI cR L1 L2 v).set 6 (ad 906, .inr (9, (oF_X6 ad pr v).set 3 (.int x))) = cW ad pr N cI cR L1 L2 (wA v 0 349 x) := by
  unfold cW
  rw [rowE (by decide), rowE (by decide)]
  rfl
theorem cw_350 (ad : Nat → Nat) (pr : Int32 → Nat) (N : Nat) (cI cR : ClassId) (L1 L2 : List Nat) (v : MS) (x : Int32) : (cW ad pr N cI cR L1 L2 v).set 6 (ad 906, .inr (9, (oF_X6 ad pr v).set 4 (.int x))) = cW ad pr N cI cR L1 L2 (wA v 0 350 x) := by
  unfold cW
  rw [rowE (by decide), rowE (by decide)]
  rfl
theorem cw_351 (ad : Nat → Nat) (pr : Int32 → Nat) (N : Nat) (cI cR : ClassId) (L1 L2 : List Nat) (v : MS) (x : Int32) : (cW ad pr N cI cR L1 L2 v).set 6 (ad 906, .inr (9, (oF_X6 ad pr v).set 5 (.int x))) = cW ad pr N cI cR L1 L2 (wA v 0 351 x) := by
  unfold cW
  rw [rowE (by decide), rowE (by decide)]
  rfl
theorem cw_353 (ad : Nat → Nat) (pr : Int32 → Nat) (N : Nat) (cI cR : ClassId) (L1 L2 : List Nat) (v : MS) (x : Int32) : (cW ad pr N cI cR L1 L2 v).set 6 (ad 906, .inr (9, (oF_X6 ad pr v).set 7 (.int x))) = cW ad pr N cI cR L1 L2 (wA v 0 353 x) := by
  unfold cW
  rw [rowE (by decide), rowE (by decide)]
  rfl
theorem cw_357 (ad : Nat → Nat) (pr : Int32 → Nat) (N : Nat) (cI cR : ClassId) (L1 L2 : List Nat) (v : MS) (x : Int32) : (cW ad pr N cI cR L1 L2 v).set 7 (ad 907, .inr (13, (oF_X10 ad pr v).set 2 (.int x))) = cW ad pr N cI cR L1 L2 (wA v 0 357 x) := by
  unfold cW
  rw [rowE (by decide), rowE (by decide)]
  rfl
theorem cw_361 (ad : Nat → Nat) (pr : Int32 → Nat) (N : Nat) (cI cR : ClassId) (L1 L2 : List Nat) (v : MS) (x : Int32) : (cW ad pr N cI cR L1 L2 v).set 7 (ad 907, .inr (13, (oF_X10 ad pr v).set 6 (.int x))) = cW ad pr N cI cR L1 L2 (wA v 0 361 x) := by
  unfold cW
  rw [rowE (by decide), rowE (by decide)]
  rfl
theorem cw_362 (ad : Nat → Nat) (pr : Int32 → Nat) (N : Nat) (cI cR : ClassId) (L1 L2 : List Nat) (v : MS) (x : Int32) : (cW ad pr N cI cR L1 L2 v).set 7 (ad 907, .inr (13, (oF_X10 ad pr v).set 7 (.int x))) = cW ad pr N cI cR L1 L2 (wA v 0 362 x) := by
  unfold cW
  rw [rowE (by decide), rowE (by decide)]
  rfl
theorem cw_363 (ad : Nat → Nat) (pr : Int32 → Nat) (N : Nat) (cI cR : ClassId) (L1 L2 : List Nat) (v : MS) (x : Int32) : (cW ad pr N cI cR L1 L2 v).set 7 (ad 907, .inr (13, (oF_X10 ad pr v).set 8 (.int x))) = cW ad pr N cI cR L1 L2 (wA v 0 363 x) := by
  unfold cW
  rw [rowE (by decide), rowE (by decide)]
  rfl
theorem cw_364 (ad : Nat → Nat) (pr : Int32 → Nat) (N : Nat) (cI cR : ClassId) (L1 L2 : List Nat) (v : MS) (x : Int32) : (cW ad pr N cI cR L1 L2 v).set 7 (ad 907, .inr (13, (oF_X10 ad pr v).set 9 (.int x))) = cW ad pr N cI cR L1 L2 (wA v 0 364 x) := by
  unfold cW
  rw [rowE (by decide), rowE (by decide)]
  rfl
theorem cw_365 (ad : Nat → Nat) (pr : Int32 → Nat) (N : Nat) (cI cR : ClassId) (L1 L2 : List Nat) (v : MS) (x : Int32) : (cW ad pr N cI cR L1 L2 v).set 7 (ad 907, .inr (13, (oF_X10 ad pr v).set 10 (.int x))) = cW ad pr N cI cR L1 L2 (wA v 0 365 x) := by
  unfold cW
  rw [rowE (by decide), rowE (by decide)]
  rfl
theorem cw_366 (ad : Nat → Nat) (pr : Int32 → Nat) (N : Nat) (cI cR : ClassId) (L1 L2 : List Nat) (v : MS) (x : Int32) : (cW ad pr N cI cR L1 L2 v).set 7 (ad 907, .inr (13, (oF_X10 ad pr v).set 11 (.int x))) = cW ad pr N cI cR L1 L2 (wA v 0 366 x) := by
  unfold cW
  rw [rowE (by decide), rowE (by decide)]
  rfl
theorem cw_367 (ad : Nat → Nat) (pr : Int32 → Nat) (N : Nat) (cI cR : ClassId) (L1 L2 : List Nat) (v : MS) (x : Int32) : (cW ad pr N cI cR L1 L2 v).set 7 (ad 907, .inr (13, (oF_X10 ad pr v).set 12 (.int x))) = cW ad pr N cI cR L1 L2 (wA v 0 367 x) := by
  unfold cW
  rw [rowE (by decide), rowE (by decide)]
  rfl
theorem cw_368 (ad : Nat → Nat) (pr : Int32 → Nat) (N : Nat) (cI cR : ClassId) (L1 L2 : List Nat) (v : MS) (x : Int32) : (cW ad pr N cI cR L1 L2 v).set 7 (ad 907, .inr (13, (oF_X10 ad pr v).set 13 (.int x))) = cW ad pr N cI cR L1 L2 (wA v 0 368 x) := by
  unfold cW
  rw [rowE (by decide), rowE (by decide)]
  rfl
theorem cw_369 (ad : Nat → Nat) (pr : Int32 → Nat) (N : Nat) (cI cR : ClassId) (L1 L2 : List Nat) (v : MS) (x : Int32) : (cW ad pr N cI cR L1 L2 v).set 7 (ad 907, .inr (13, (oF_X10 ad pr v).set 14 (.int x))) = cW ad pr N cI cR L1 L2 (wA v 0 369 x) := by
  unfold cW
  rw [rowE (by decide), rowE (by decide)]
  rfl
theorem cw_370 (ad : Nat → Nat) (pr : Int32 → Nat) (N : Nat) (cI cR : ClassId) (L1 L2 : List Nat) (v : MS) (x : Int32) : (cW ad pr N cI cR L1 L2 v).set 7 (ad 907, .inr (13, (oF_X10 ad pr v).set 15 (.int x))) = cW ad pr N cI cR L1 L2 (wA v 0 370 x) := by
  unfold cW
  rw [rowE (by decide), rowE (by decide)]
  rfl
theorem cw_371 (ad : Nat → Nat) (pr : Int32 → Nat) (N : Nat) (cI cR : ClassId) (L1 L2 : List Nat) (v : MS) (x : Int32) : (cW ad pr N cI cR L1 L2 v).set 7 (ad 907, .inr (13, (oF_X10 ad pr v).set 16 (.int x))) = cW ad pr N cI cR L1 L2 (wA v 0 371 x) := by
  unfold cW
  rw [rowE (by decide), rowE (by decide)]
  rfl
theorem cw_373 (ad : Nat → Nat) (pr : Int32 → Nat) (N : Nat) (cI cR : ClassId) (L1 L2 : List Nat) (v : MS) (x : Int32) : (cW ad pr N cI cR L1 L2 v).set 8 (ad 908, .inr (10, (oF_X7 ad pr v).set 1 (.int x))) = cW ad pr N cI cR L1 L2 (wA v 0 373 x) := by
  unfold cW
  rw [rowE (by decide), rowE (by decide)]
  rfl
theorem cw_375 (ad : Nat → Nat) (pr : Int32 → Nat) (N : Nat) (cI cR : ClassId) (L1 L2 : List Nat) (v : MS) (x : Int32) : (cW ad pr N cI cR L1 L2 v).set 8 (ad 908, .inr (10, (oF_X7 ad pr v).set 3 (.int x))) = cW ad pr N cI cR L1 L2 (wA v 0 375 x) := by
  unfold cW
  rw [rowE (by decide), rowE (by decide)]
  rfl
theorem cw_377 (ad : Nat → Nat) (pr : Int32 → Nat) (N : Nat) (cI cR : ClassId) (L1 L2 : List Nat) (v : MS) (x : Int32) : (cW ad pr N cI cR L1 L2 v).set 8 (ad 908, .inr (10, (oF_X7 ad pr v).set 5 (.int x))) = cW ad pr N cI cR L1 L2 (wA v 0 377 x) := by
  unfold cW
  rw [rowE (by decide), rowE (by decide)]
  rfl
theorem cw_381 (ad : Nat → Nat) (pr : Int32 → Nat) (N : Nat) (cI cR : ClassId) (L1 L2 : List Nat) (v : MS) (x : Int32) : (cW ad pr N cI cR L1 L2 v).set 8 (ad 908, .inr (10, (oF_X7 ad pr v).set 9 (.int x))) = cW ad pr N cI cR L1 L2 (wA v 0 381 x) := by
  unfold cW
  rw [rowE (by decide), rowE (by decide)]
  rfl
theorem cw_383 (ad : Nat → Nat) (pr : Int32 → Nat) (N : Nat) (cI cR : ClassId) (L1 L2 : List Nat) (v : MS) (x : Int32) : (cW ad pr N cI cR L1 L2 v).set 8 (ad 908, .inr (10, (oF_X7 ad pr v).set 11 (.int x))) = cW ad pr N cI cR L1 L2 (wA v 0 383 x) := by
  unfold cW
  rw [rowE (by decide), rowE (by decide)]
  rfl
theorem cw_384 (ad : Nat → Nat) (pr : Int32 → Nat) (N : Nat) (cI cR : ClassId) (L1 L2 : List Nat) (v : MS) (x : Int32) : (cW ad pr N cI cR L1 L2 v).set 8 (ad 908, .inr (10, (oF_X7 ad pr v).set 12 (.int x))) = cW ad pr N cI cR L1 L2 (wA v 0 384 x) := by
  unfold cW
  rw [rowE (by decide), rowE (by decide)]
  rfl
theorem cw_300 (ad : Nat → Nat) (pr : Int32 → Nat) (N : Nat) (cI cR : ClassId) (L1 L2 : List Nat) (v : MS) (x : Int32) : (cW ad pr N cI cR L1 L2 v).set 0 (ad 900, .inr (12, (oF_X9 ad pr v).set 0 (.ref (pr x)))) = cW ad pr N cI cR L1 L2 (wA v 0 300 x) := by
  unfold cW
  rw [rowE (by decide), rowE (by decide)]
  rfl
theorem cw_310 (ad : Nat → Nat) (pr : Int32 → Nat) (N : Nat) (cI cR : ClassId) (L1 L2 : List Nat) (v : MS) (x : Int32) : (cW ad pr N cI cR L1 L2 v).set 1 (ad 901, .inr (5, (oF_X1 ad pr v).set 0 (.ref (pr x)))) = cW ad pr N cI cR L1 L2 (wA v 0 310 x) := by
  unfold cW
  rw [rowE (by decide), rowE (by decide)]
  rfl
theorem cw_327 (ad : Nat → Nat) (pr : Int32 → Nat) (N : Nat) (cI cR : ClassId) (L1 L2 : List Nat) (v : MS) (x : Int32) : (cW ad pr N cI cR L1 L2 v).set 3 (ad 903, .inr (8, (oF_X5 ad pr v).set 0 (.ref (pr x)))) = cW ad pr N cI cR L1 L2 (wA v 0 327 x) := by
  unfold cW
  rw [rowE (by decide), rowE (by decide)]
  rfl
theorem cw_334 (ad : Nat → Nat) (pr : Int32 → Nat) (N : Nat) (cI cR : ClassId) (L1 L2 : List Nat) (v : MS) (x : Int32) : (cW ad pr N cI cR L1 L2 v).set 4 (ad 904, .inr (4, (oF_X0 ad pr v).set 0 (.ref (pr x)))) = cW ad pr N cI cR L1 L2 (wA v 0 334 x) := by
  unfold cW
  rw [rowE (by decide), rowE (by decide)]
  rfl
theorem cw_355 (ad : Nat → Nat) (pr : Int32 → Nat) (N : Nat) (cI cR : ClassId) (L1 L2 : List Nat) (v : MS) (x : Int32) : (cW ad pr N cI cR L1 L2 v).set 7 (ad 907, .inr (13, (oF_X10 ad pr v).set 0 (.ref (pr x)))) = cW ad pr N cI cR L1 L2 (wA v 0 355 x) := by
  unfold cW
  rw [rowE (by decide), rowE (by decide)]
  rfl
theorem cq_299 (ad : Nat → Nat) (pr : Int32 → Nat) (N : Nat) (cI cR : ClassId) (L1 L2 : List Nat) (v : MS) (i : Nat) (x : Int32) : (cW ad pr N cI cR L1 L2 v).set 9 (ad 299, .inl (cI, 4000, .inl (upd (v.1 299) i x))) = cW ad pr N cI cR L1 L2 (wA v 299 i x) := by
  unfold cW
  rw [rowE (by decide), rowE (by decide)]
  rfl
theorem cq_301 (ad : Nat → Nat) (pr : Int32 → Nat) (N : Nat) (cI cR : ClassId) (L1 L2 : List Nat) (v : MS) (i : Nat) (x : Int32) : (cW ad pr N cI cR L1 L2 v).set 10 (ad 301, .inl (cI, 1503, .inl (upd (v.1 301) i x))) = cW ad pr N cI cR L1 L2 (wA v 301 i x) := by
  unfold cW
  rw [rowE (by decide), rowE (by decide)]
  rfl
theorem cq_302 (ad : Nat → Nat) (pr : Int32 → Nat) (N : Nat) (cI cR : ClassId) (L1 L2 : List Nat) (v : MS) (i : Nat) (x : Int32) : (cW ad pr N cI cR L1 L2 v).set 11 (ad 302, .inl (cI, 1503, .inl (upd (v.1 302) i x))) = cW ad pr N cI cR L1 L2 (wA v 302 i x) := by
  unfold cW
  rw [rowE (by decide), rowE (by decide)]
  rfl
theorem cq_303 (ad : Nat → Nat) (pr : Int32 → Nat) (N : Nat) (cI cR : ClassId) (L1 L2 : List Nat) (v : MS) (i : Nat) (x : Int32) : (cW ad pr N cI cR L1 L2 v).set 12 (ad 303, .inl (cI, 1503, .inl (upd (v.1 303) i x))) = cW ad pr N cI cR L1 L2 (wA v 303 i x) := by
  unfold cW
  rw [rowE (by decide), rowE (by decide)]
  rfl
theorem cq_311 (ad : Nat → Nat) (pr : Int32 → Nat) (N : Nat) (cI cR : ClassId) (L1 L2 : List Nat) (v : MS) (i : Nat) (x : Int32) : (cW ad pr N cI cR L1 L2 v).set 13 (ad 311, .inl (cI, 500, .inl (upd (v.1 311) i x))) = cW ad pr N cI cR L1 L2 (wA v 311 i x) := by
  unfold cW
  rw [rowE (by decide), rowE (by decide)]
  rfl
theorem cq_316 (ad : Nat → Nat) (pr : Int32 → Nat) (N : Nat) (cI cR : ClassId) (L1 L2 : List Nat) (v : MS) (i : Nat) (x : Int32) : (cW ad pr N cI cR L1 L2 v).set 14 (ad 316, .inl (cI, 1500, .inl (upd (v.1 316) i x))) = cW ad pr N cI cR L1 L2 (wA v 316 i x) := by
  unfold cW
  rw [rowE (by decide), rowE (by decide)]
  rfl
theorem cq_318 (ad : Nat → Nat) (pr : Int32 → Nat) (N : Nat) (cI cR : ClassId) (L1 L2 : List Nat) (v : MS) (i : Nat) (x : Int32) : (cW ad pr N cI cR L1 L2 v).set 15 (ad 318, .inl (cI, 501, .inl (upd (v.1 318) i x))) = cW ad pr N cI cR L1 L2 (wA v 318 i x) := by
  unfold cW
  rw [rowE (by decide), rowE (by decide)]
  rfl
theorem cq_319 (ad : Nat → Nat) (pr : Int32 → Nat) (N : Nat) (cI cR : ClassId) (L1 L2 : List Nat) (v : MS) (i : Nat) (x : Int32) : (cW ad pr N cI cR L1 L2 v).set 16 (ad 319, .inl (cI, 501, .inl (upd (v.1 319) i x))) = cW ad pr N cI cR L1 L2 (wA v 319 i x) := by
  unfold cW
  rw [rowE (by decide), rowE (by decide)]
  rfl
theorem cq_320 (ad : Nat → Nat) (pr : Int32 → Nat) (N : Nat) (cI cR : ClassId) (L1 L2 : List Nat) (v : MS) (i : Nat) (x : Int32) : (cW ad pr N cI cR L1 L2 v).set 17 (ad 320, .inl (cI, 501, .inl (upd (v.1 320) i x))) = cW ad pr N cI cR L1 L2 (wA v 320 i x) := by
  unfold cW
  rw [rowE (by decide), rowE (by decide)]
  rfl
theorem cq_324 (ad : Nat → Nat) (pr : Int32 → Nat) (N : Nat) (cI cR : ClassId) (L1 L2 : List Nat) (v : MS) (i : Nat) (x : Int32) : (cW ad pr N cI cR L1 L2 v).set 18 (ad 324, .inl (cI, 420, .inl (upd (v.1 324) i x))) = cW ad pr N cI cR L1 L2 (wA v 324 i x) := by
  unfold cW
  rw [rowE (by decide), rowE (by decide)]
  rfl
theorem cq_325 (ad : Nat → Nat) (pr : Int32 → Nat) (N : Nat) (cI cR : ClassId) (L1 L2 : List Nat) (v : MS) (i : Nat) (x : Int32) : (cW ad pr N cI cR L1 L2 v).set 19 (ad 325, .inl (cI, 420, .inl (upd (v.1 325) i x))) = cW ad pr N cI cR L1 L2 (wA v 325 i x) := by
  unfold cW
  rw [rowE (by decide), rowE (by decide)]
  rfl
theorem cq_336 (ad : Nat → Nat) (pr : Int32 → Nat) (N : Nat) (cI cR : ClassId) (L1 L2 : List Nat) (v : MS) (i : Nat) (x : Int32) : (cW ad pr N cI cR L1 L2 v).set 20 (ad 336, .inl (cI, 3009, .inl (upd (v.1 336) i x))) = cW ad pr N cI cR L1 L2 (wA v 336 i x) := by
  unfold cW
  rw [rowE (by decide), rowE (by decide)]
  rfl
theorem cq_343 (ad : Nat → Nat) (pr : Int32 → Nat) (N : Nat) (cI cR : ClassId) (L1 L2 : List Nat) (v : MS) (i : Nat) (x : Int32) : (cW ad pr N cI cR L1 L2 v).set 21 (ad 343, .inl (cI, 64, .inl (upd (v.1 343) i x))) = cW ad pr N cI cR L1 L2 (wA v 343 i x) := by
  unfold cW
  rw [rowE (by decide), rowE (by decide)]
  rfl
theorem cq_346 (ad : Nat → Nat) (pr : Int32 → Nat) (N : Nat) (cI cR : ClassId) (L1 L2 : List Nat) (v : MS) (i : Nat) (x : Int32) : (cW ad pr N cI cR L1 L2 v).set 22 (ad 346, .inl (cI, N, .inl (upd (v.1 346) i x))) = cW ad pr N cI cR L1 L2 (wA v 346 i x) := by
  unfold cW
  rw [rowE (by decide), rowE (by decide)]
  rfl
theorem cq_347 (ad : Nat → Nat) (pr : Int32 → Nat) (N : Nat) (cI cR : ClassId) (L1 L2 : List Nat) (v : MS) (i : Nat) (x : Int32) : (cW ad pr N cI cR L1 L2 v).set 23 (ad 347, .inl (cI, 32, .inl (upd (v.1 347) i x))) = cW ad pr N cI cR L1 L2 (wA v 347 i x) := by
  unfold cW
  rw [rowE (by decide), rowE (by decide)]
  rfl
theorem cq_352 (ad : Nat → Nat) (pr : Int32 → Nat) (N : Nat) (cI cR : ClassId) (L1 L2 : List Nat) (v : MS) (i : Nat) (x : Int32) : (cW ad pr N cI cR L1 L2 v).set 24 (ad 352, .inl (cI, 200, .inl (upd (v.1 352) i x))) = cW ad pr N cI cR L1 L2 (wA v 352 i x) := by
  unfold cW
  rw [rowE (by decide), rowE (by decide)]
  rfl
theorem cq_358 (ad : Nat → Nat) (pr : Int32 → Nat) (N : Nat) (cI cR : ClassId) (L1 L2 : List Nat) (v : MS) (i : Nat) (x : Int32) : (cW ad pr N cI cR L1 L2 v).set 25 (ad 358, .inl (cI, N, .inl (upd (v.1 358) i x))) = cW ad pr N cI cR L1 L2 (wA v 358 i x) := by
  unfold cW
  rw [rowE (by decide), rowE (by decide)]
  rfl
theorem cq_359 (ad : Nat → Nat) (pr : Int32 → Nat) (N : Nat) (cI cR : ClassId) (L1 L2 : List Nat) (v : MS) (i : Nat) (x : Int32) : (cW ad pr N cI cR L1 L2 v).set 26 (ad 359, .inl (cI, N, .inl (upd (v.1 359) i x))) = cW ad pr N cI cR L1 L2 (wA v 359 i x) := by
  unfold cW
  rw [rowE (by decide), rowE (by decide)]
  rfl
theorem cq_360 (ad : Nat → Nat) (pr : Int32 → Nat) (N : Nat) (cI cR : ClassId) (L1 L2 : List Nat) (v : MS) (i : Nat) (x : Int32) : (cW ad pr N cI cR L1 L2 v).set 27 (ad 360, .inl (cI, 200, .inl (upd (v.1 360) i x))) = cW ad pr N cI cR L1 L2 (wA v 360 i x) := by
  unfold cW
  rw [rowE (by decide), rowE (by decide)]
  rfl
theorem cq_372 (ad : Nat → Nat) (pr : Int32 → Nat) (N : Nat) (cI cR : ClassId) (L1 L2 : List Nat) (v : MS) (i : Nat) (x : Int32) : (cW ad pr N cI cR L1 L2 v).set 28 (ad 372, .inl (cI, 4000, .inl (upd (v.1 372) i x))) = cW ad pr N cI cR L1 L2 (wA v 372 i x) := by
  unfold cW
  rw [rowE (by decide), rowE (by decide)]
  rfl
theorem cq_378 (ad : Nat → Nat) (pr : Int32 → Nat) (N : Nat) (cI cR : ClassId) (L1 L2 : List Nat) (v : MS) (i : Nat) (x : Int32) : (cW ad pr N cI cR L1 L2 v).set 29 (ad 378, .inl (cI, 3008, .inl (upd (v.1 378) i x))) = cW ad pr N cI cR L1 L2 (wA v 378 i x) := by
  unfold cW
  rw [rowE (by decide), rowE (by decide)]
  rfl
theorem cq_379 (ad : Nat → Nat) (pr : Int32 → Nat) (N : Nat) (cI cR : ClassId) (L1 L2 : List Nat) (v : MS) (i : Nat) (x : Int32) : (cW ad pr N cI cR L1 L2 v).set 30 (ad 379, .inl (cI, 3008, .inl (upd (v.1 379) i x))) = cW ad pr N cI cR L1 L2 (wA v 379 i x) := by
  unfold cW
  rw [rowE (by decide), rowE (by decide)]
  rfl
theorem cq_380 (ad : Nat → Nat) (pr : Int32 → Nat) (N : Nat) (cI cR : ClassId) (L1 L2 : List Nat) (v : MS) (i : Nat) (x : Int32) : (cW ad pr N cI cR L1 L2 v).set 31 (ad 380, .inl (cI, 3008, .inl (upd (v.1 380) i x))) = cW ad pr N cI cR L1 L2 (wA v 380 i x) := by
  unfold cW
  rw [rowE (by decide), rowE (by decide)]
  rfl
theorem cq_382 (ad : Nat → Nat) (pr : Int32 → Nat) (N : Nat) (cI cR : ClassId) (L1 L2 : List Nat) (v : MS) (i : Nat) (x : Int32) : (cW ad pr N cI cR L1 L2 v).set 32 (ad 382, .inl (cI, N, .inl (upd (v.1 382) i x))) = cW ad pr N cI cR L1 L2 (wA v 382 i x) := by
  unfold cW
  rw [rowE (by decide), rowE (by decide)]
  rfl
theorem rowU {cI : ClassId} {n a i : Nat} {v : MS} {x : Int32} : va_up (rw1 cI n v) a (.inl (cI, n, .inl (upd (v.1 (5000 + a)) i x))) = rw1 cI n (wA v (5000 + a) i x) := funext (fun b => by
  unfold va_up rw1
  by_cases h : b = a
  · subst h; rw [if_pos rfl, show (wA v (5000 + b) i x).1 (5000 + b) = upd (v.1 (5000 + b)) i x from if_pos rfl]
  · rw [if_neg h, show (wA v (5000 + a) i x).1 (5000 + b) = v.1 (5000 + b) from if_neg (by omega)])
def rowA (L : List Nat) (i : Nat) : Nat := L.getD i 0
theorem rowA_some {L : List Nat} {i : Nat} (h : i < L.length) : L[i]? = some (rowA L i) := by
  unfold rowA
  rw [List.getD_eq_getElem?_getD, List.getElem?_eq_getElem h]
  rfl
theorem rowA_mem {L : List Nat} {i : Nat} (h : i < L.length) : rowA L i ∈ L := List.mem_of_getElem? (rowA_some h)
theorem cX_row {ad : Nat → Nat} {pr : Int32 → Nat} {N : Nat} {cI cR : ClassId} {L1 L2 : List Nat} {v : MS} {a i : Nat} {x : Int32} : cX ad pr N cI cR L1 L2 (wA v (5000 + a) i x) = cX ad pr N cI cR L1 L2 v := by
  have h : ∀ b, b < 5000 → (wA v (5000 + a) i x).1 b = v.1 b := fun b hb => if_neg (by omega)
  unfold cX oF_X9 oF_X1 oF_X2 oF_X5 oF_X0 oF_X3 oF_X6 oF_X10 oF_X7
  rw [h 0 (by decide), h 299 (by decide), h 301 (by decide), h 302 (by decide), h 303 (by decide), h 311 (by decide), h 316 (by decide), h 318 (by decide), h 319 (by decide), h 320 (by decide), h 324 (by decide), h 325 (by decide), h 336 (by decide), h 343 (by decide), h 346 (by decide), h 347 (by decide), h 352 (by decide), h 358 (by decide), h 359 (by decide), h 360 (by decide), h 372 (by decide), h 378 (by decide), h 379 (by decide), h 380 (by decide), h 382 (by decide)]
/-- a row's cell: where it stands, and what a write of it makes -/
theorem row1_get {A : Nat → Prop} {ad : Nat → Nat} {pr : Int32 → Nat} {N : Nat} {cI cR : ClassId} {L1 L2 : List Nat} {v : MS} {a : Nat} (hD : va_D A (cW ad pr N cI cR L1 L2 v)) (h : a ∈ L1) : ∃ k : Nat, (cW ad pr N cI cR L1 L2 v)[k]? = some (a, .inl (cI, 6, .inl (v.1 (5000 + a)))) ∧ ∀ (i : Nat) (x : Int32), (cW ad pr N cI cR L1 L2 v).set k (a, .inl (cI, 6, .inl (upd (v.1 (5000 + a)) i x))) = cW ad pr N cI cR L1 L2 (wA v (5000 + a) i x) := by
  obtain ⟨k, hk⟩ := va_pl_get (X := cX ad pr N cI cR L1 L2 v) (f := rw1 cI 6 v) h
  have hlt := (List.getElem?_eq_some_iff.mp hk).1
  have lift : ∀ (j : Nat) (q : Nat × va_E), (cX ad pr N cI cR L1 L2 v ++ va_pl L1 (rw1 cI 6 v))[j]? = some q → (cW ad pr N cI cR L1 L2 v)[j]? = some q := fun j q hj => by
    unfold cW; rw [List.getElem?_append_left (List.getElem?_eq_some_iff.mp hj).1]; exact hj
  refine ⟨k, lift k _ hk, fun i x => ?_⟩
  have hD1 : va_D A (cX ad pr N cI cR L1 L2 v ++ va_pl L1 (rw1 cI 6 v)) := ⟨fun i j p q h1 h2 e => hD.1 i j p q (lift i p h1) (lift j q h2) e, fun j q h1 => hD.2 j q (lift j q h1)⟩
  have hno : ∀ b ∈ L2, b ≠ a := fun b hb e => by
    obtain ⟨j, hj⟩ := List.getElem?_of_mem (List.mem_map.mpr ⟨b, hb, rfl⟩ : (b, rw1 cI 5 v b) ∈ va_pl L2 (rw1 cI 5 v))
    have hj2 : (cW ad pr N cI cR L1 L2 v)[(cX ad pr N cI cR L1 L2 v ++ va_pl L1 (rw1 cI 6 v)).length + j]? = some (b, rw1 cI 5 v b) := by
      unfold cW; rw [List.getElem?_append_right (Nat.le_add_right _ _), Nat.add_sub_cancel_left]; exact hj
    have := hD.1 _ _ _ _ (lift k _ hk) hj2 e.symm
    omega
  unfold cW
  rw [List.set_append_left _ _ hlt, va_pl_set hD1 h hk, rowU, cX_row]
  congr 1
  unfold va_pl
  refine List.map_congr_left (fun b hb => ?_)
  show (b, rw1 cI 5 v b) = (b, rw1 cI 5 (wA v (5000 + a) i x) b)
  unfold rw1
  rw [show (wA v (5000 + a) i x).1 (5000 + b) = v.1 (5000 + b) from if_neg (by have := hno b hb; omega)]
theorem row2_get {A : Nat → Prop} {ad : Nat → Nat} {pr : Int32 → Nat} {N : Nat} {cI cR : ClassId} {L1 L2 : List Nat} {v : MS} {a : Nat} (hD : va_D A (cW ad pr N cI cR L1 L2 v)) (h : a ∈ L2) : ∃ k : Nat, (cW ad pr N cI cR L1 L2 v)[k]? = some (a, .inl (cI, 5, .inl (v.1 (5000 + a)))) ∧ ∀ (i : Nat) (x : Int32), (cW ad pr N cI cR L1 L2 v).set k (a, .inl (cI, 5, .inl (upd (v.1 (5000 + a)) i x))) = cW ad pr N cI cR L1 L2 (wA v (5000 + a) i x) := by
  obtain ⟨j, hj⟩ := List.getElem?_of_mem (List.mem_map.mpr ⟨a, h, rfl⟩ : (a, rw1 cI 5 v a) ∈ va_pl L2 (rw1 cI 5 v))
  have hk : (cW ad pr N cI cR L1 L2 v)[(cX ad pr N cI cR L1 L2 v ++ va_pl L1 (rw1 cI 6 v)).length + j]? = some (a, rw1 cI 5 v a) := by
    unfold cW; rw [List.getElem?_append_right (Nat.le_add_right _ _), Nat.add_sub_cancel_left]; exact hj
  refine ⟨_, hk, fun i x => ?_⟩
  have hno : ∀ b ∈ L1, b ≠ a := fun b hb e => by
    obtain ⟨k2, hk2⟩ := va_pl_get (X := cX ad pr N cI cR L1 L2 v) (f := rw1 cI 6 v) hb
    have hlt := (List.getElem?_eq_some_iff.mp hk2).1
    have hk3 : (cW ad pr N cI cR L1 L2 v)[k2]? = some (b, rw1 cI 6 v b) := by unfold cW; rw [List.getElem?_append_left hlt]; exact hk2
    have := hD.1 _ _ _ _ hk3 hk e
    omega
  have hD' : va_D A ((cX ad pr N cI cR L1 L2 v ++ va_pl L1 (rw1 cI 6 v)) ++ va_pl L2 (rw1 cI 5 v)) := hD
  have hk' : ((cX ad pr N cI cR L1 L2 v ++ va_pl L1 (rw1 cI 6 v)) ++ va_pl L2 (rw1 cI 5 v))[(cX ad pr N cI cR L1 L2 v ++ va_pl L1 (rw1 cI 6 v)).length + j]? = some (a, rw1 cI 5 v a) := hk
  show ((cX ad pr N cI cR L1 L2 v ++ va_pl L1 (rw1 cI 6 v)) ++ va_pl L2 (rw1 cI 5 v)).set _ _ = _
  rw [va_pl_set hD' h hk', rowU]
  unfold cW
  rw [cX_row]
  congr 2
  unfold va_pl
  refine List.map_congr_left (fun b hb => ?_)
  show (b, rw1 cI 6 v b) = (b, rw1 cI 6 (wA v (5000 + a) i x) b)
  unfold rw1
  rw [show (wA v (5000 + a) i x).1 (5000 + b) = v.1 (5000 + b) from if_neg (by have := hno b hb; omega)]
/-- a row's first entry is small -/
def RP (v : MS) : Prop := ∀ a : Nat, (v.1 (5000 + a) 0).toInt ≤ 1000
theorem RP.o {v : MS} {b i : Nat} {x : Int32} (h : RP v) (hb : b < 5000) : RP (wA v b i x) := fun a => by
  rw [show (wA v b i x).1 (5000 + a) = v.1 (5000 + a) from if_neg (by omega)]; exact h a
theorem RP.w {v : MS} {c : Nat} {i x : Int32} (h : RP v) (h0 : 0 ≤ i.toInt) (hx : i.toInt ≠ 0 ∨ x.toInt ≤ 1000) : RP (wA v (5000 + c) i.toNatClampNeg x) := fun a => by
  have e := nat_z h0
  by_cases q : a = c
  · subst q
    rw [show (wA v (5000 + a) i.toNatClampNeg x).1 (5000 + a) = upd (v.1 (5000 + a)) i.toNatClampNeg x from if_pos rfl]
    by_cases w : (0 : Nat) = i.toNatClampNeg
    · rw [← w, pk_us]; rcases hx with hx | hx
      · omega
      · exact hx
    · rw [pk_un w]; exact h a
  · rw [show (wA v (5000 + c) i.toNatClampNeg x).1 (5000 + a) = v.1 (5000 + a) from if_neg (by omega)]; exact h a
theorem RP.at {v : MS} {a : Nat} {i : Int32} (h : RP v) (h0 : 0 ≤ i.toInt) : i.toInt ≠ 0 ∨ (v.1 (5000 + a) i.toNatClampNeg).toInt ≤ 1000 := by
  have e := nat_z h0
  by_cases w : i.toInt = 0
  · right; rw [show i.toNatClampNeg = 0 by omega]; exact h a
  · exact Or.inl w
/-- what a method of the class leaves as it was -/
def FC (fl al : List Nat) (v u : MS) : Prop := (RP v → RP u) ∧ (∀ k, k ∉ fl → u.1 0 k = v.1 0 k) ∧ ∀ a, (a < 5000 ∧ a ∉ al) → u.1 a = v.1 a
theorem FC.rf {fl al : List Nat} (v : MS) : FC fl al v v := ⟨fun q => q, fun _ _ => rfl, fun _ _ => rfl⟩
theorem FC.tr {fl al : List Nat} {v u w : MS} (h : FC fl al v u) (k : FC fl al u w) : FC fl al v w := ⟨fun q => k.1 (h.1 q), fun j hj => (k.2.1 j hj).trans (h.2.1 j hj), fun a ha => (k.2.2 a ha).trans (h.2.2 a ha)⟩
theorem FC.up {fl al fl' al' : List Nat} {v u : MS} (h : FC fl al v u) (h1 : ∀ k ∈ fl, k ∈ fl') (h2 : ∀ k ∈ al, k ∈ al') : FC fl' al' v u := ⟨h.1, fun k hk => h.2.1 k (fun q => hk (h1 k q)), fun k hk => h.2.2 k ⟨hk.1, fun q => hk.2 (h2 k q)⟩⟩
theorem FC.f {fl al : List Nat} {v u : MS} (h : FC fl al v u) {k : Nat} (x : Int32) (hk : k ∈ fl ∧ 0 ∈ al) : FC fl al v (wA u 0 k x) := by
  refine ⟨fun q => (h.1 q).o (by decide), fun j hj => ?_, fun a ha => ?_⟩
  · have e : j ≠ k := fun q => hj (q ▸ hk.1)
    show (if (0 : Nat) = 0 then upd (u.1 0) k x else u.1 0) j = v.1 0 j
    rw [if_pos rfl, pk_un e]
    exact h.2.1 j hj
  · have e : a ≠ 0 := fun q => ha.2 (q ▸ hk.2)
    show (if a = 0 then upd (u.1 0) k x else u.1 a) = v.1 a
    rw [if_neg e]
    exact h.2.2 a ha
theorem FC.a {fl al : List Nat} {v u : MS} (h : FC fl al v u) {b : Nat} (i : Nat) (x : Int32) (hb : b ∈ al) (h0 : b ≠ 0 ∧ b < 5000) : FC fl al v (wA u b i x) := by
  refine ⟨fun q => (h.1 q).o h0.2, fun j hj => ?_, fun a ha => ?_⟩
  · show (if (0 : Nat) = b then upd (u.1 b) i x else u.1 0) j = v.1 0 j
    rw [if_neg (fun q => h0.1 q.symm)]
    exact h.2.1 j hj
  · have e : a ≠ b := fun q => ha.2 (q ▸ hb)
    show (if a = b then upd (u.1 b) i x else u.1 a) = v.1 a
    rw [if_neg e]
    exact h.2.2 a ha
theorem FC.row {fl al : List Nat} {v u : MS} (h : FC fl al v u) (a : Nat) {i x : Int32} (h1 : 0 ≤ i.toInt) (hx : i.toInt ≠ 0 ∨ x.toInt ≤ 1000) : FC fl al v (wA u (5000 + a) i.toNatClampNeg x) := by
  refine ⟨fun q => (h.1 q).w h1 hx, fun j hj => ?_, fun b hb => ?_⟩
  · show (if (0 : Nat) = 5000 + a then upd (u.1 (5000 + a)) i.toNatClampNeg x else u.1 0) j = v.1 0 j
    rw [if_neg (by omega)]
    exact h.2.1 j hj
  · show (if b = 5000 + a then upd (u.1 (5000 + a)) i.toNatClampNeg x else u.1 b) = v.1 b
    rw [if_neg (by have := hb.1; omega)]
    exact h.2.2 b hb
abbrev xfl : List Nat := [304, 305, 306, 307, 308, 309, 312, 313, 314, 315, 317, 321, 326, 331, 332, 333, 375, 377, 381, 383, 384, 300, 310, 327]
abbrev xal : List Nat := [0, 301, 302, 303, 311, 316, 318, 319, 320, 324, 325, 378, 379, 380]
theorem nd_range : ∀ n : Nat, va_nd (List.range n) = true
  | n => by
    have h : ∀ (l : List Nat), l.Nodup → va_nd l = true := fun l => by
      induction l with
      | nil => intro _; rfl
      | cons a t ih => intro hn; have := List.nodup_cons.mp hn; unfold va_nd; simp [this.1, ih this.2]
    exact h _ List.nodup_range
theorem W.sz {p : Program} {l : Launch} {e : Env} {R : Room} {s : State} {m : MethodId} {args : Array Value} {below : List Frame} {meth : Method} {c : Code} {H : Heap} {locs : List Loc} {Q : State → Prop} {g : JFrame} (k : H.size = s.heap.size → W p l e R s m args below meth c H locs 0 0 Q g) : W p l e R s m args below meth c H locs 0 0 Q g := by
  intro T hT X
  refine k ?_ T hT X
  obtain ⟨a1, a2, a3, a4, a5, a6⟩ := X.same
  have h1 : s.heap.size ≤ T.heap.size := a2
  have h2 : T.heap.size ≤ s.heap.size + 0 := a3
  rw [← hT]; omega
