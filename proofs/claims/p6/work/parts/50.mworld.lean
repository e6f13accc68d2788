/-! the reference as one state: v.1 0 k its field k, v.1 k its array of field k, v.2 its longs -/
abbrev MS : Type := (Nat → Nat → Int32) × (Nat → Int64)
def mF (ad : Nat → Nat) (v : MS) : List Value := [.int (v.1 0 0), .ref (ad 1), .int (v.1 0 2), .ref (ad 3), .int (v.1 0 4), .int (v.1 0 5), .ref (ad 6), .ref (ad 7), .ref (ad 8), .ref (ad 9), .ref (ad 10), .ref (ad 11), .int (v.1 0 12), .ref (ad 13), .ref (ad 14), .int (v.1 0 15), .ref (ad 16), .ref (ad 17), .ref (ad 18), .ref (ad 19), .ref (ad 20), .ref (ad 21), .int (v.1 0 22), .ref (ad 23), .ref (ad 24), .ref (ad 25), .ref (ad 26), .int (v.1 0 27), .int (v.1 0 28), .ref (ad 29), .int (v.1 0 30), .int (v.1 0 31), .int (v.1 0 32), .int (v.1 0 33), .int (v.1 0 34), .ref (ad 35), .ref (ad 36), .ref (ad 37), .ref (ad 38), .int (v.1 0 39), .ref (ad 40), .ref (ad 41), .ref (ad 42), .int (v.1 0 43), .int (v.1 0 44), .int (v.1 0 45), .ref (ad 46), .int (v.1 0 47), .int (v.1 0 48), .int (v.1 0 49), .int (v.1 0 50), .int (v.1 0 51), .int (v.1 0 52), .int (v.1 0 53), .int (v.1 0 54), .int (v.1 0 55), .int (v.1 0 56), .int (v.1 0 57), .int (v.1 0 58), .int (v.1 0 59), .int (v.1 0 60), .ref (ad 61), .ref (ad 62), .ref (ad 63), .ref (ad 64), .ref (ad 65), .ref (ad 66), .int (v.1 0 67), .int (v.1 0 68), .int (v.1 0 69), .ref (ad 70), .ref (ad 71), .ref (ad 72), .int (v.1 0 73), .int (v.1 0 74), .int (v.1 0 75), .int (v.1 0 76), .int (v.1 0 77), .ref (ad 78), .ref (ad 79), .ref (ad 80), .ref (ad 81), .ref (ad 82), .ref (ad 83), .ref (ad 84), .ref (ad 85), .ref (ad 86), .ref (ad 87), .ref (ad 88), .ref (ad 89), .ref (ad 90), .int (v.1 0 91), .int (v.1 0 92), .ref (ad 93), .int (v.1 0 94), .int (v.1 0 95), .ref (ad 96), .ref (ad 97), .int (v.1 0 98), .int (v.1 0 99), .int (v.1 0 100), .ref (ad 101), .int (v.1 0 102), .ref (ad 103), .int (v.1 0 104), .ref (ad 105), .int (v.1 0 106), .ref (ad 107), .ref (ad 108), .ref (ad 109), .int (v.1 0 110), .int (v.1 0 111), .int (v.1 0 112), .int (v.1 0 113), .int (v.1 0 114), .int (v.1 0 115), .int (v.1 0 116), .ref (ad 117), .ref (ad 118), .int (v.1 0 119), .int (v.1 0 120), .int (v.1 0 121), .int (v.1 0 122), .int (v.1 0 123)]
def mW (ad : Nat → Nat) (N : Nat) (cI cZ cJ : ClassId) (v : MS) : va_W := [(ad 0, .inr (16, mF ad v)), (ad 1, .inl (cI, 4000, .inl (v.1 1))), (ad 3, .inl (cI, 4000, .inl (v.1 3))), (ad 6, .inl (cI, 4002, .inl (v.1 6))), (ad 7, .inl (cI, 4002, .inl (v.1 7))), (ad 8, .inl (cI, 4002, .inl (v.1 8))), (ad 9, .inl (cJ, 4002, .inr (.inl v.2))), (ad 10, .inl (cZ, 4002, .inl (v.1 10))), (ad 11, .inl (cI, 24000, .inl (v.1 11))), (ad 13, .inl (cI, 16000, .inl (v.1 13))), (ad 14, .inl (cI, 16000, .inl (v.1 14))), (ad 16, .inl (cI, 40, .inl (v.1 16))), (ad 17, .inl (cI, 40, .inl (v.1 17))), (ad 18, .inl (cI, 40, .inl (v.1 18))), (ad 19, .inl (cI, 40, .inl (v.1 19))), (ad 20, .inl (cI, 40, .inl (v.1 20))), (ad 21, .inl (cI, 40, .inl (v.1 21))), (ad 23, .inl (cI, 60, .inl (v.1 23))), (ad 24, .inl (cI, 60, .inl (v.1 24))), (ad 25, .inl (cI, 60, .inl (v.1 25))), (ad 26, .inl (cZ, 60, .inl (v.1 26))), (ad 29, .inl (cI, 501, .inl (v.1 29))), (ad 35, .inl (cI, 4000, .inl (v.1 35))), (ad 36, .inl (cI, 4000, .inl (v.1 36))), (ad 37, .inl (cI, 4000, .inl (v.1 37))), (ad 38, .inl (cI, 4000, .inl (v.1 38))), (ad 40, .inl (cI, 24000, .inl (v.1 40))), (ad 41, .inl (cI, 24000, .inl (v.1 41))), (ad 42, .inl (cI, 24000, .inl (v.1 42))), (ad 61, .inl (cI, 42, .inl (v.1 61))), (ad 62, .inl (cI, 42, .inl (v.1 62))), (ad 63, .inl (cI, 42, .inl (v.1 63))), (ad 64, .inl (cI, 42, .inl (v.1 64))), (ad 65, .inl (cI, 42, .inl (v.1 65))), (ad 66, .inl (cI, 42, .inl (v.1 66))), (ad 70, .inl (cI, 24000, .inl (v.1 70))), (ad 71, .inl (cI, 16000, .inl (v.1 71))), (ad 72, .inl (cI, 16000, .inl (v.1 72))), (ad 78, .inl (cI, 40, .inl (v.1 78))), (ad 79, .inl (cI, 40, .inl (v.1 79))), (ad 80, .inl (cI, 40, .inl (v.1 80))), (ad 81, .inl (cI, 40, .inl (v.1 81))), (ad 82, .inl (cI, 40, .inl (v.1 82))), (ad 83, .inl (cI, 40, .inl (v.1 83))), (ad 84, .inl (cI, 40, .inl (v.1 84))), (ad 85, .inl (cI, 60, .inl (v.1 85))), (ad 86, .inl (cI, 60, .inl (v.1 86))), (ad 87, .inl (cI, 60, .inl (v.1 87))), (ad 88, .inl (cI, 60, .inl (v.1 88))), (ad 89, .inl (cZ, 60, .inl (v.1 89))), (ad 90, .inl (cI, 4000, .inl (v.1 90))), (ad 93, .inl (cI, 64, .inl (v.1 93))), (ad 96, .inl (cI, N, .inl (v.1 96))), (ad 97, .inl (cI, 32, .inl (v.1 97))), (ad 101, .inl (cI, 200, .inl (v.1 101))), (ad 103, .inl (cI, 60, .inl (v.1 103))), (ad 105, .inl (cI, 24000, .inl (v.1 105))), (ad 107, .inl (cI, 2100, .inl (v.1 107))), (ad 108, .inl (cI, 2100, .inl (v.1 108))), (ad 109, .inl (cI, 2100, .inl (v.1 109))), (ad 117, .inl (cI, 4200, .inl (v.1 117))), (ad 118, .inl (cI, 200, .inl (v.1 118))), (ad 46, .inr (15, [.null, .null, .null, .null, .null, .int 0]))]
def wA (v : MS) (a i : Nat) (x : Int32) : MS := (fun b => if b = a then upd (v.1 a) i x else v.1 b, v.2)
def wL (v : MS) (i : Nat) (x : Int64) : MS := (v.1, vp_updL v.2 i x)
set_option maxRecDepth 100000 in
theorem mw_0 (ad : Nat → Nat) (N : Nat) (cI cZ cJ : ClassId) (v : MS) (x : Int32) : (mW ad N cI cZ cJ v).set 0 (ad 0, .inr (16, (mF ad v).set 0 (.int x))) = mW ad N cI cZ cJ (wA v 0 0 x) := rfl
set_option maxRecDepth 100000 in
theorem mw_2 (ad : Nat → Nat) (N : Nat) (cI cZ cJ : ClassId) (v : MS) (x : Int32) : (mW ad N cI cZ cJ v).set 0 (ad 0, .inr (16, (mF ad v).set 2 (.int x))) = mW ad N cI cZ cJ (wA v 0 2 x) := rfl
set_option maxRecDepth 100000 in
theorem mw_4 (ad : Nat → Nat) (N : Nat) (cI cZ cJ : ClassId) (v : MS) (x : Int32) : (mW ad N cI cZ cJ v).set 0 (ad 0, .inr (16, (mF ad v).set 4 (.int x))) = mW ad N cI cZ cJ (wA v 0 4 x) := rfl
set_option maxRecDepth 100000 in
theorem mw_5 (ad : Nat → Nat) (N : Nat) (cI cZ cJ : ClassId) (v : MS) (x : Int32) : (mW ad N cI cZ cJ v).set 0 (ad 0, .inr (16, (mF ad v).set 5 (.int x))) = mW ad N cI cZ cJ (wA v 0 5 x) := rfl
set_option maxRecDepth 100000 in
theorem mw_12 (ad : Nat → Nat) (N : Nat) (cI cZ cJ : ClassId) (v : MS) (x : Int32) : (mW ad N cI cZ cJ v).set 0 (ad 0, .inr (16, (mF ad v).set 12 (.int x))) = mW ad N cI cZ cJ (wA v 0 12 x) := rfl
set_option maxRecDepth 100000 in
theorem mw_15 (ad : Nat → Nat) (N : Nat) (cI cZ cJ : ClassId) (v : MS) (x : Int32) : (mW ad N cI cZ cJ v).set 0 (ad 0, .inr (16, (mF ad v).set 15 (.int x))) = mW ad N cI cZ cJ (wA v 0 15 x) := rfl
set_option maxRecDepth 100000 in
theorem mw_22 (ad : Nat → Nat) (N : Nat) (cI cZ cJ : ClassId) (v : MS) (x : Int32) : (mW ad N cI cZ cJ v).set 0 (ad 0, .inr (16, (mF ad v).set 22 (.int x))) = mW ad N cI cZ cJ (wA v 0 22 x) := rfl
set_option maxRecDepth 100000 in
theorem mw_27 (ad : Nat → Nat) (N : Nat) (cI cZ cJ : ClassId) (v : MS) (x : Int32) : (mW ad N cI cZ cJ v).set 0 (ad 0, .inr (16, (mF ad v).set 27 (.int x))) = mW ad N cI cZ cJ (wA v 0 27 x) := rfl
set_option maxRecDepth 100000 in
theorem mw_28 (ad : Nat → Nat) (N : Nat) (cI cZ cJ : ClassId) (v : MS) (x : Int32) : (mW ad N cI cZ cJ v).set 0 (ad 0, .inr (16, (mF ad v).set 28 (.int x))) = mW ad N cI cZ cJ (wA v 0 28 x) := rfl
set_option maxRecDepth 100000 in
theorem mw_30 (ad : Nat → Nat) (N : Nat) (cI cZ cJ : ClassId) (v : MS) (x : Int32) : (mW ad N cI cZ cJ v).set 0 (ad 0, .inr (16, (mF ad v).set 30 (.int x))) = mW ad N cI cZ cJ (wA v 0 30 x) := rfl
set_option maxRecDepth 100000 in
theorem mw_31 (ad : Nat → Nat) (N : Nat) (cI cZ cJ : ClassId) (v : MS) (x : Int32) : (mW ad N cI cZ cJ v).set 0 (ad 0, .inr (16, (mF ad v).set 31 (.int x))) = mW ad N cI cZ cJ (wA v 0 31 x) := rfl
set_option maxRecDepth 100000 in
theorem mw_32 (ad : Nat → Nat) (N : Nat) (cI cZ cJ : ClassId) (v : MS) (x : Int32) : (mW ad N cI cZ cJ v).set 0 (ad 0, .inr (16, (mF ad v).set 32 (.int x))) = mW ad N cI cZ cJ (wA v 0 32 x) := rfl
set_option maxRecDepth 100000 in
theorem mw_33 (ad : Nat → Nat) (N : Nat) (cI cZ cJ : ClassId) (v : MS) (x : Int32) : (mW ad N cI cZ cJ v).set 0 (ad 0, .inr (16, (mF ad v).set 33 (.int x))) = mW ad N cI cZ cJ (wA v 0 33 x) := rfl
set_option maxRecDepth 100000 in
theorem mw_34 (ad : Nat → Nat) (N : Nat) (cI cZ cJ : ClassId) (v : MS) (x : Int32) : (mW ad N cI cZ cJ v).set 0 (ad 0, .inr (16, (mF ad v).set 34 (.int x))) = mW ad N cI cZ cJ (wA v 0 34 x) := rfl
set_option maxRecDepth 100000 in
theorem mw_39 (ad : Nat → Nat) (N : Nat) (cI cZ cJ : ClassId) (v : MS) (x : Int32) : (mW ad N cI cZ cJ v).set 0 (ad 0, .inr (16, (mF ad v).set 39 (.int x))) = mW ad N cI cZ cJ (wA v 0 39 x) := rfl
set_option maxRecDepth 100000 in
theorem mw_43 (ad : Nat → Nat) (N : Nat) (cI cZ cJ : ClassId) (v : MS) (x : Int32) : (mW ad N cI cZ cJ v).set 0 (ad 0, .inr (16, (mF ad v).set 43 (.int x))) = mW ad N cI cZ cJ (wA v 0 43 x) := rfl
set_option maxRecDepth 100000 in
theorem mw_44 (ad : Nat → Nat) (N : Nat) (cI cZ cJ : ClassId) (v : MS) (x : Int32) : (mW ad N cI cZ cJ v).set 0 (ad 0, .inr (16, (mF ad v).set 44 (.int x))) = mW ad N cI cZ cJ (wA v 0 44 x) := rfl
set_option maxRecDepth 100000 in
theorem mw_45 (ad : Nat → Nat) (N : Nat) (cI cZ cJ : ClassId) (v : MS) (x : Int32) : (mW ad N cI cZ cJ v).set 0 (ad 0, .inr (16, (mF ad v).set 45 (.int x))) = mW ad N cI cZ cJ (wA v 0 45 x) := rfl
set_option maxRecDepth 100000 in
theorem mw_47 (ad : Nat → Nat) (N : Nat) (cI cZ cJ : ClassId) (v : MS) (x : Int32) : (mW ad N cI cZ cJ v).set 0 (ad 0, .inr (16, (mF ad v).set 47 (.int x))) = mW ad N cI cZ cJ (wA v 0 47 x) := rfl
set_option maxRecDepth 100000 in
theorem mw_48 (ad : Nat → Nat) (N : Nat) (cI cZ cJ : ClassId) (v : MS) (x : Int32) : (mW ad N cI cZ cJ v).set 0 (ad 0, .inr (16, (mF ad v).set 48 (.int x))) = mW ad N cI cZ cJ (wA v 0 48 x) := rfl
set_option maxRecDepth 100000 in
theorem mw_49 (ad : Nat → Nat) (N : Nat) (cI cZ cJ : ClassId) (v : MS) (x : Int32) : (mW ad N cI cZ cJ v).set 0 (ad 0, .inr (16, (mF ad v).set 49 (.int x))) = mW ad N cI cZ cJ (wA v 0 49 x) := rfl
set_option maxRecDepth 100000 in
theorem mw_50 (ad : Nat → Nat) (N : Nat) (cI cZ cJ : ClassId) (v : MS) (x : Int32) : (mW ad N cI cZ cJ v).set 0 (ad 0, .inr (16, (mF ad v).set 50 (.int x))) = mW ad N cI cZ cJ (wA v 0 50 x) := rfl
set_option maxRecDepth 100000 in
theorem mw_51 (ad : Nat → Nat) (N : Nat) (cI cZ cJ : ClassId) (v : MS) (x : Int32) : (mW ad N cI cZ cJ v).set 0 (ad 0, .inr (16, (mF ad v).set 51 (.int x))) = mW ad N cI cZ cJ (wA v 0 51 x) := rfl
set_option maxRecDepth 100000 in
theorem mw_52 (ad : Nat → Nat) (N : Nat) (cI cZ cJ : ClassId) (v : MS) (x : Int32) : (mW ad N cI cZ cJ v).set 0 (ad 0, .inr (16, (mF ad v).set 52 (.int x))) = mW ad N cI cZ cJ (wA v 0 52 x) := rfl
set_option maxRecDepth 100000 in
theorem mw_53 (ad : Nat → Nat) (N : Nat) (cI cZ cJ : ClassId) (v : MS) (x : Int32) : (mW ad N cI cZ cJ v).set 0 (ad 0, .inr (16, (mF ad v).set 53 (.int x))) = mW ad N cI cZ cJ (wA v 0 53 x) := rfl
set_option maxRecDepth 100000 in
theorem mw_54 (ad : Nat → Nat) (N : Nat) (cI cZ cJ : ClassId) (v : MS) (x : Int32) : (mW ad N cI cZ cJ v).set 0 (ad 0, .inr (16, (mF ad v).set 54 (.int x))) = mW ad N cI cZ cJ (wA v 0 54 x) := rfl
set_option maxRecDepth 100000 in
theorem mw_55 (ad : Nat → Nat) (N : Nat) (cI cZ cJ : ClassId) (v : MS) (x : Int32) : (mW ad N cI cZ cJ v).set 0 (ad 0, .inr (16, (mF ad v).set 55 (.int x))) = mW ad N cI cZ cJ (wA v 0 55 x) := rfl
set_option maxRecDepth 100000 in
theorem mw_56 (ad : Nat → Nat) (N : Nat) (cI cZ cJ : ClassId) (v : MS) (x : Int32) : (mW ad N cI cZ cJ v).set 0 (ad 0, .inr (16, (mF ad v).set 56 (.int x))) = mW ad N cI cZ cJ (wA v 0 56 x) := rfl
set_option maxRecDepth 100000 in
theorem mw_57 (ad : Nat → Nat) (N : Nat) (cI cZ cJ : ClassId) (v : MS) (x : Int32) : (mW ad N cI cZ cJ v).set 0 (ad 0, .inr (16, (mF ad v).set 57 (.int x))) = mW ad N cI cZ cJ (wA v 0 57 x) := rfl
set_option maxRecDepth 100000 in
theorem mw_58 (ad : Nat → Nat) (N : Nat) (cI cZ cJ : ClassId) (v : MS) (x : Int32) : (mW ad N cI cZ cJ v).set 0 (ad 0, .inr (16, (mF ad v).set 58 (.int x))) = mW ad N cI cZ cJ (wA v 0 58 x) := rfl
set_option maxRecDepth 100000 in
theorem mw_59 (ad : Nat → Nat) (N : Nat) (cI cZ cJ : ClassId) (v : MS) (x : Int32) : (mW ad N cI cZ cJ v).set 0 (ad 0, .inr (16, (mF ad v).set 59 (.int x))) = mW ad N cI cZ cJ (wA v 0 59 x) := rfl
set_option maxRecDepth 100000 in
theorem mw_60 (ad : Nat → Nat) (N : Nat) (cI cZ cJ : ClassId) (v : MS) (x : Int32) : (mW ad N cI cZ cJ v).set 0 (ad 0, .inr (16, (mF ad v).set 60 (.int x))) = mW ad N cI cZ cJ (wA v 0 60 x) := rfl
set_option maxRecDepth 100000 in
theorem mw_67 (ad : Nat → Nat) (N : Nat) (cI cZ cJ : ClassId) (v : MS) (x : Int32) : (mW ad N cI cZ cJ v).set 0 (ad 0, .inr (16, (mF ad v).set 67 (.int x))) = mW ad N cI cZ cJ (wA v 0 67 x) := rfl
set_option maxRecDepth 100000 in
theorem mw_68 (ad : Nat → Nat) (N : Nat) (cI cZ cJ : ClassId) (v : MS) (x : Int32) : (mW ad N cI cZ cJ v).set 0 (ad 0, .inr (16, (mF ad v).set 68 (.int x))) = mW ad N cI cZ cJ (wA v 0 68 x) := rfl
set_option maxRecDepth 100000 in
theorem mw_69 (ad : Nat → Nat) (N : Nat) (cI cZ cJ : ClassId) (v : MS) (x : Int32) : (mW ad N cI cZ cJ v).set 0 (ad 0, .inr (16, (mF ad v).set 69 (.int x))) = mW ad N cI cZ cJ (wA v 0 69 x) := rfl
set_option maxRecDepth 100000 in
theorem mw_73 (ad : Nat → Nat) (N : Nat) (cI cZ cJ : ClassId) (v : MS) (x : Int32) : (mW ad N cI cZ cJ v).set 0 (ad 0, .inr (16, (mF ad v).set 73 (.int x))) = mW ad N cI cZ cJ (wA v 0 73 x) := rfl
set_option maxRecDepth 100000 in
theorem mw_74 (ad : Nat → Nat) (N : Nat) (cI cZ cJ : ClassId) (v : MS) (x : Int32) : (mW ad N cI cZ cJ v).set 0 (ad 0, .inr (16, (mF ad v).set 74 (.int x))) = mW ad N cI cZ cJ (wA v 0 74 x) := rfl
set_option maxRecDepth 100000 in
theorem mw_75 (ad : Nat → Nat) (N : Nat) (cI cZ cJ : ClassId) (v : MS) (x : Int32) : (mW ad N cI cZ cJ v).set 0 (ad 0, .inr (16, (mF ad v).set 75 (.int x))) = mW ad N cI cZ cJ (wA v 0 75 x) := rfl
set_option maxRecDepth 100000 in
theorem mw_76 (ad : Nat → Nat) (N : Nat) (cI cZ cJ : ClassId) (v : MS) (x : Int32) : (mW ad N cI cZ cJ v).set 0 (ad 0, .inr (16, (mF ad v).set 76 (.int x))) = mW ad N cI cZ cJ (wA v 0 76 x) := rfl
set_option maxRecDepth 100000 in
theorem mw_77 (ad : Nat → Nat) (N : Nat) (cI cZ cJ : ClassId) (v : MS) (x : Int32) : (mW ad N cI cZ cJ v).set 0 (ad 0, .inr (16, (mF ad v).set 77 (.int x))) = mW ad N cI cZ cJ (wA v 0 77 x) := rfl
set_option maxRecDepth 100000 in
theorem mw_91 (ad : Nat → Nat) (N : Nat) (cI cZ cJ : ClassId) (v : MS) (x : Int32) : (mW ad N cI cZ cJ v).set 0 (ad 0, .inr (16, (mF ad v).set 91 (.int x))) = mW ad N cI cZ cJ (wA v 0 91 x) := rfl
set_option maxRecDepth 100000 in
theorem mw_92 (ad : Nat → Nat) (N : Nat) (cI cZ cJ : ClassId) (v : MS) (x : Int32) : (mW ad N cI cZ cJ v).set 0 (ad 0, .inr (16, (mF ad v).set 92 (.int x))) = mW ad N cI cZ cJ (wA v 0 92 x) := rfl
set_option maxRecDepth 100000 in
theorem mw_94 (ad : Nat → Nat) (N : Nat) (cI cZ cJ : ClassId) (v : MS) (x : Int32) : (mW ad N cI cZ cJ v).set 0 (ad 0, .inr (16, (mF ad v).set 94 (.int x))) = mW ad N cI cZ cJ (wA v 0 94 x) := rfl
set_option maxRecDepth 100000 in
theorem mw_95 (ad : Nat → Nat) (N : Nat) (cI cZ cJ : ClassId) (v : MS) (x : Int32) : (mW ad N cI cZ cJ v).set 0 (ad 0, .inr (16, (mF ad v).set 95 (.int x))) = mW ad N cI cZ cJ (wA v 0 95 x) := rfl
set_option maxRecDepth 100000 in
theorem mw_98 (ad : Nat → Nat) (N : Nat) (cI cZ cJ : ClassId) (v : MS) (x : Int32) : (mW ad N cI cZ cJ v).set 0 (ad 0, .inr (16, (mF ad v).set 98 (.int x))) = mW ad N cI cZ cJ (wA v 0 98 x) := rfl
set_option maxRecDepth 100000 in
theorem mw_99 (ad : Nat → Nat) (N : Nat) (cI cZ cJ : ClassId) (v : MS) (x : Int32) : (mW ad N cI cZ cJ v).set 0 (ad 0, .inr (16, (mF ad v).set 99 (.int x))) = mW ad N cI cZ cJ (wA v 0 99 x) := rfl
set_option maxRecDepth 100000 in
theorem mw_100 (ad : Nat → Nat) (N : Nat) (cI cZ cJ : ClassId) (v : MS) (x : Int32) : (mW ad N cI cZ cJ v).set 0 (ad 0, .inr (16, (mF ad v).set 100 (.int x))) = mW ad N cI cZ cJ (wA v 0 100 x) := rfl
set_option maxRecDepth 100000 in
theorem mw_102 (ad : Nat → Nat) (N : Nat) (cI cZ cJ : ClassId) (v : MS) (x : Int32) : (mW ad N cI cZ cJ v).set 0 (ad 0, .inr (16, (mF ad v).set 102 (.int x))) = mW ad N cI cZ cJ (wA v 0 102 x) := rfl
set_option maxRecDepth 100000 in
theorem mw_104 (ad : Nat → Nat) (N : Nat) (cI cZ cJ : ClassId) (v : MS) (x : Int32) : (mW ad N cI cZ cJ v).set 0 (ad 0, .inr (16, (mF ad v).set 104 (.int x))) = mW ad N cI cZ cJ (wA v 0 104 x) := rfl
set_option maxRecDepth 100000 in
theorem mw_106 (ad : Nat → Nat) (N : Nat) (cI cZ cJ : ClassId) (v : MS) (x : Int32) : (mW ad N cI cZ cJ v).set 0 (ad 0, .inr (16, (mF ad v).set 106 (.int x))) = mW ad N cI cZ cJ (wA v 0 106 x) := rfl
set_option maxRecDepth 100000 in
theorem mw_110 (ad : Nat → Nat) (N : Nat) (cI cZ cJ : ClassId) (v : MS) (x : Int32) : (mW ad N cI cZ cJ v).set 0 (ad 0, .inr (16, (mF ad v).set 110 (.int x))) = mW ad N cI cZ cJ (wA v 0 110 x) := rfl
set_option maxRecDepth 100000 in
theorem mw_111 (ad : Nat → Nat) (N : Nat) (cI cZ cJ : ClassId) (v : MS) (x : Int32) : (mW ad N cI cZ cJ v).set 0 (ad 0, .inr (16, (mF ad v).set 111 (.int x))) = mW ad N cI cZ cJ (wA v 0 111 x) := rfl
set_option maxRecDepth 100000 in
theorem mw_112 (ad : Nat → Nat) (N : Nat) (cI cZ cJ : ClassId) (v : MS) (x : Int32) : (mW ad N cI cZ cJ v).set 0 (ad 0, .inr (16, (mF ad v).set 112 (.int x))) = mW ad N cI cZ cJ (wA v 0 112 x) := rfl
set_option maxRecDepth 100000 in
theorem mw_113 (ad : Nat → Nat) (N : Nat) (cI cZ cJ : ClassId) (v : MS) (x : Int32) : (mW ad N cI cZ cJ v).set 0 (ad 0, .inr (16, (mF ad v).set 113 (.int x))) = mW ad N cI cZ cJ (wA v 0 113 x) := rfl
set_option maxRecDepth 100000 in
theorem mw_114 (ad : Nat → Nat) (N : Nat) (cI cZ cJ : ClassId) (v : MS) (x : Int32) : (mW ad N cI cZ cJ v).set 0 (ad 0, .inr (16, (mF ad v).set 114 (.int x))) = mW ad N cI cZ cJ (wA v 0 114 x) := rfl
set_option maxRecDepth 100000 in
theorem mw_115 (ad : Nat → Nat) (N : Nat) (cI cZ cJ : ClassId) (v : MS) (x : Int32) : (mW ad N cI cZ cJ v).set 0 (ad 0, .inr (16, (mF ad v).set 115 (.int x))) = mW ad N cI cZ cJ (wA v 0 115 x) := rfl
set_option maxRecDepth 100000 in
theorem mw_116 (ad : Nat → Nat) (N : Nat) (cI cZ cJ : ClassId) (v : MS) (x : Int32) : (mW ad N cI cZ cJ v).set 0 (ad 0, .inr (16, (mF ad v).set 116 (.int x))) = mW ad N cI cZ cJ (wA v 0 116 x) := rfl
set_option maxRecDepth 100000 in
theorem mw_119 (ad : Nat → Nat) (N : Nat) (cI cZ cJ : ClassId) (v : MS) (x : Int32) : (mW ad N cI cZ cJ v).set 0 (ad 0, .inr (16, (mF ad v).set 119 (.int x))) = mW ad N cI cZ cJ (wA v 0 119 x) := rfl
set_option maxRecDepth 100000 in
theorem mw_120 (ad : Nat → Nat) (N : Nat) (cI cZ cJ : ClassId) (v : MS) (x : Int32) : (mW ad N cI cZ cJ v).set 0 (ad 0, .inr (16, (mF ad v).set 120 (.int x))) = mW ad N cI cZ cJ (wA v 0 120 x) := rfl
set_option maxRecDepth 100000 in
theorem mw_121 (ad : Nat → Nat) (N : Nat) (cI cZ cJ : ClassId) (v : MS) (x : Int32) : (mW ad N cI cZ cJ v).set 0 (ad 0, .inr (16, (mF ad v).set 121 (.int x))) = mW ad N cI cZ cJ (wA v 0 121 x) := rfl
set_option maxRecDepth 100000 in
theorem mw_122 (ad : Nat → Nat) (N : Nat) (cI cZ cJ : ClassId) (v : MS) (x : Int32) : (mW ad N cI cZ cJ v).set 0 (ad 0, .inr (16, (mF ad v).set 122 (.int x))) = mW ad N cI cZ cJ (wA v 0 122 x) := rfl
set_option maxRecDepth 100000 in
theorem mw_123 (ad : Nat → Nat) (N : Nat) (cI cZ cJ : ClassId) (v : MS) (x : Int32) : (mW ad N cI cZ cJ v).set 0 (ad 0, .inr (16, (mF ad v).set 123 (.int x))) = mW ad N cI cZ cJ (wA v 0 123 x) := rfl
theorem ma_1 (ad : Nat → Nat) (N : Nat) (cI cZ cJ : ClassId) (v : MS) (i : Nat) (x : Int32) : (mW ad N cI cZ cJ v).set 1 (ad 1, .inl (cI, 4000, .inl (upd (v.1 1) i x))) = mW ad N cI cZ cJ (wA v 1 i x) := rfl
theorem ma_3 (ad : Nat → Nat) (N : Nat) (cI cZ cJ : ClassId) (v : MS) (i : Nat) (x : Int32) : (mW ad N cI cZ cJ v).set 2 (ad 3, .inl (cI, 4000, .inl (upd (v.1 3) i x))) = mW ad N cI cZ cJ (wA v 3 i x) := rfl
theorem ma_6 (ad : Nat → Nat) (N : Nat) (cI cZ cJ : ClassId) (v : MS) (i : Nat) (x : Int32) : (mW ad N cI cZ cJ v).set 3 (ad 6, .inl (cI, 4002, .inl (upd (v.1 6) i x))) = mW ad N cI cZ cJ (wA v 6 i x) := rfl
theorem ma_7 (ad : Nat → Nat) (N : Nat) (cI cZ cJ : ClassId) (v : MS) (i : Nat) (x : Int32) : (mW ad N cI cZ cJ v).set 4 (ad 7, .inl (cI, 4002, .inl (upd (v.1 7) i x))) = mW ad N cI cZ cJ (wA v 7 i x) := rfl
theorem ma_8 (ad : Nat → Nat) (N : Nat) (cI cZ cJ : ClassId) (v : MS) (i : Nat) (x : Int32) : (mW ad N cI cZ cJ v).set 5 (ad 8, .inl (cI, 4002, .inl (upd (v.1 8) i x))) = mW ad N cI cZ cJ (wA v 8 i x) := rfl
theorem ma_9 (ad : Nat → Nat) (N : Nat) (cI cZ cJ : ClassId) (v : MS) (i : Nat) (x : Int64) : (mW ad N cI cZ cJ v).set 6 (ad 9, .inl (cJ, 4002, .inr (.inl (vp_updL v.2 i x)))) = mW ad N cI cZ cJ (wL v i x) := rfl
theorem ma_10 (ad : Nat → Nat) (N : Nat) (cI cZ cJ : ClassId) (v : MS) (i : Nat) (x : Int32) : (mW ad N cI cZ cJ v).set 7 (ad 10, .inl (cZ, 4002, .inl (upd (v.1 10) i x))) = mW ad N cI cZ cJ (wA v 10 i x) := rfl
theorem ma_11 (ad : Nat → Nat) (N : Nat) (cI cZ cJ : ClassId) (v : MS) (i : Nat) (x : Int32) : (mW ad N cI cZ cJ v).set 8 (ad 11, .inl (cI, 24000, .inl (upd (v.1 11) i x))) = mW ad N cI cZ cJ (wA v 11 i x) := rfl
theorem ma_13 (ad : Nat → Nat) (N : Nat) (cI cZ cJ : ClassId) (v : MS) (i : Nat) (x : Int32) : (mW ad N cI cZ cJ v).set 9 (ad 13, .inl (cI, 16000, .inl (upd (v.1 13) i x))) = mW ad N cI cZ cJ (wA v 13 i x) := rfl
theorem ma_14 (ad : Nat → Nat) (N : Nat) (cI cZ cJ : ClassId) (v : MS) (i : Nat) (x : Int32) : (mW ad N cI cZ cJ v).set 10 (ad 14, .inl (cI, 16000, .inl (upd (v.1 14) i x))) = mW ad N cI cZ cJ (wA v 14 i x) := rfl
theorem ma_16 (ad : Nat → Nat) (N : Nat) (cI cZ cJ : ClassId) (v : MS) (i : Nat) (x : Int32) : (mW ad N cI cZ cJ v).set 11 (ad 16, .inl (cI, 40, .inl (upd (v.1 16) i x))) = mW ad N cI cZ cJ (wA v 16 i x) := rfl
theorem ma_17 (ad : Nat → Nat) (N : Nat) (cI cZ cJ : ClassId) (v : MS) (i : Nat) (x : Int32) : (mW ad N cI cZ cJ v).set 12 (ad 17, .inl (cI, 40, .inl (upd (v.1 17) i x))) = mW ad N cI cZ cJ (wA v 17 i x) := rfl
theorem ma_18 (ad : Nat → Nat) (N : Nat) (cI cZ cJ : ClassId) (v : MS) (i : Nat) (x : Int32) : (mW ad N cI cZ cJ v).set 13 (ad 18, .inl (cI, 40, .inl (upd (v.1 18) i x))) = mW ad N cI cZ cJ (wA v 18 i x) := rfl
theorem ma_19 (ad : Nat → Nat) (N : Nat) (cI cZ cJ : ClassId) (v : MS) (i : Nat) (x : Int32) : (mW ad N cI cZ cJ v).set 14 (ad 19, .inl (cI, 40, .inl (upd (v.1 19) i x))) = mW ad N cI cZ cJ (wA v 19 i x) := rfl
theorem ma_20 (ad : Nat → Nat) (N : Nat) (cI cZ cJ : ClassId) (v : MS) (i : Nat) (x : Int32) : (mW ad N cI cZ cJ v).set 15 (ad 20, .inl (cI, 40, .inl (upd (v.1 20) i x))) = mW ad N cI cZ cJ (wA v 20 i x) := rfl
theorem ma_21 (ad : Nat → Nat) (N : Nat) (cI cZ cJ : ClassId) (v : MS) (i : Nat) (x : Int32) : (mW ad N cI cZ cJ v).set 16 (ad 21, .inl (cI, 40, .inl (upd (v.1 21) i x))) = mW ad N cI cZ cJ (wA v 21 i x) := rfl
theorem ma_23 (ad : Nat → Nat) (N : Nat) (cI cZ cJ : ClassId) (v : MS) (i : Nat) (x : Int32) : (mW ad N cI cZ cJ v).set 17 (ad 23, .inl (cI, 60, .inl (upd (v.1 23) i x))) = mW ad N cI cZ cJ (wA v 23 i x) := rfl
theorem ma_24 (ad : Nat → Nat) (N : Nat) (cI cZ cJ : ClassId) (v : MS) (i : Nat) (x : Int32) : (mW ad N cI cZ cJ v).set 18 (ad 24, .inl (cI, 60, .inl (upd (v.1 24) i x))) = mW ad N cI cZ cJ (wA v 24 i x) := rfl
theorem ma_25 (ad : Nat → Nat) (N : Nat) (cI cZ cJ : ClassId) (v : MS) (i : Nat) (x : Int32) : (mW ad N cI cZ cJ v).set 19 (ad 25, .inl (cI, 60, .inl (upd (v.1 25) i x))) = mW ad N cI cZ cJ (wA v 25 i x) := rfl
theorem ma_26 (ad : Nat → Nat) (N : Nat) (cI cZ cJ : ClassId) (v : MS) (i : Nat) (x : Int32) : (mW ad N cI cZ cJ v).set 20 (ad 26, .inl (cZ, 60, .inl (upd (v.1 26) i x))) = mW ad N cI cZ cJ (wA v 26 i x) := rfl
theorem ma_29 (ad : Nat → Nat) (N : Nat) (cI cZ cJ : ClassId) (v : MS) (i : Nat) (x : Int32) : (mW ad N cI cZ cJ v).set 21 (ad 29, .inl (cI, 501, .inl (upd (v.1 29) i x))) = mW ad N cI cZ cJ (wA v 29 i x) := rfl
theorem ma_35 (ad : Nat → Nat) (N : Nat) (cI cZ cJ : ClassId) (v : MS) (i : Nat) (x : Int32) : (mW ad N cI cZ cJ v).set 22 (ad 35, .inl (cI, 4000, .inl (upd (v.1 35) i x))) = mW ad N cI cZ cJ (wA v 35 i x) := rfl
theorem ma_36 (ad : Nat → Nat) (N : Nat) (cI cZ cJ : ClassId) (v : MS) (i : Nat) (x : Int32) : (mW ad N cI cZ cJ v).set 23 (ad 36, .inl (cI, 4000, .inl (upd (v.1 36) i x))) = mW ad N cI cZ cJ (wA v 36 i x) := rfl
theorem ma_37 (ad : Nat → Nat) (N : Nat) (cI cZ cJ : ClassId) (v : MS) (i : Nat) (x : Int32) : (mW ad N cI cZ cJ v).set 24 (ad 37, .inl (cI, 4000, .inl (upd (v.1 37) i x))) = mW ad N cI cZ cJ (wA v 37 i x) := rfl
theorem ma_38 (ad : Nat → Nat) (N : Nat) (cI cZ cJ : ClassId) (v : MS) (i : Nat) (x : Int32) : (mW ad N cI cZ cJ v).set 25 (ad 38, .inl (cI, 4000, .inl (upd (v.1 38) i x))) = mW ad N cI cZ cJ (wA v 38 i x) := rfl
theorem ma_40 (ad : Nat → Nat) (N : Nat) (cI cZ cJ : ClassId) (v : MS) (i : Nat) (x : Int32) : (mW ad N cI cZ cJ v).set 26 (ad 40, .inl (cI, 24000, .inl (upd (v.1 40) i x))) = mW ad N cI cZ cJ (wA v 40 i x) := rfl
theorem ma_41 (ad : Nat → Nat) (N : Nat) (cI cZ cJ : ClassId) (v : MS) (i : Nat) (x : Int32) : (mW ad N cI cZ cJ v).set 27 (ad 41, .inl (cI, 24000, .inl (upd (v.1 41) i x))) = mW ad N cI cZ cJ (wA v 41 i x) := rfl
theorem ma_42 (ad : Nat → Nat) (N : Nat) (cI cZ cJ : ClassId) (v : MS) (i : Nat) (x : Int32) : (mW ad N cI cZ cJ v).set 28 (ad 42, .inl (cI, 24000, .inl (upd (v.1 42) i x))) = mW ad N cI cZ cJ (wA v 42 i x) := rfl
theorem ma_61 (ad : Nat → Nat) (N : Nat) (cI cZ cJ : ClassId) (v : MS) (i : Nat) (x : Int32) : (mW ad N cI cZ cJ v).set 29 (ad 61, .inl (cI, 42, .inl (upd (v.1 61) i x))) = mW ad N cI cZ cJ (wA v 61 i x) := rfl
theorem ma_62 (ad : Nat → Nat) (N : Nat) (cI cZ cJ : ClassId) (v : MS) (i : Nat) (x : Int32) : (mW ad N cI cZ cJ v).set 30 (ad 62, .inl (cI, 42, .inl (upd (v.1 62) i x))) = mW ad N cI cZ cJ (wA v 62 i x) := rfl
theorem ma_63 (ad : Nat → Nat) (N : Nat) (cI cZ cJ : ClassId) (v : MS) (i : Nat) (x : Int32) : (mW ad N cI cZ cJ v).set 31 (ad 63, .inl (cI, 42, .inl (upd (v.1 63) i x))) = mW ad N cI cZ cJ (wA v 63 i x) := rfl
theorem ma_64 (ad : Nat → Nat) (N : Nat) (cI cZ cJ : ClassId) (v : MS) (i : Nat) (x : Int32) : (mW ad N cI cZ cJ v).set 32 (ad 64, .inl (cI, 42, .inl (upd (v.1 64) i x))) = mW ad N cI cZ cJ (wA v 64 i x) := rfl
theorem ma_65 (ad : Nat → Nat) (N : Nat) (cI cZ cJ : ClassId) (v : MS) (i : Nat) (x : Int32) : (mW ad N cI cZ cJ v).set 33 (ad 65, .inl (cI, 42, .inl (upd (v.1 65) i x))) = mW ad N cI cZ cJ (wA v 65 i x) := rfl
theorem ma_66 (ad : Nat → Nat) (N : Nat) (cI cZ cJ : ClassId) (v : MS) (i : Nat) (x : Int32) : (mW ad N cI cZ cJ v).set 34 (ad 66, .inl (cI, 42, .inl (upd (v.1 66) i x))) = mW ad N cI cZ cJ (wA v 66 i x) := rfl
theorem ma_70 (ad : Nat → Nat) (N : Nat) (cI cZ cJ : ClassId) (v : MS) (i : Nat) (x : Int32) : (mW ad N cI cZ cJ v).set 35 (ad 70, .inl (cI, 24000, .inl (upd (v.1 70) i x))) = mW ad N cI cZ cJ (wA v 70 i x) := rfl
theorem ma_71 (ad : Nat → Nat) (N : Nat) (cI cZ cJ : ClassId) (v : MS) (i : Nat) (x : Int32) : (mW ad N cI cZ cJ v).set 36 (ad 71, .inl (cI, 16000, .inl (upd (v.1 71) i x))) = mW ad N cI cZ cJ (wA v 71 i x) := rfl
theorem ma_72 (ad : Nat → Nat) (N : Nat) (cI cZ cJ : ClassId) (v : MS) (i : Nat) (x : Int32) : (mW ad N cI cZ cJ v).set 37 (ad 72, .inl (cI, 16000, .inl (upd (v.1 72) i x))) = mW ad N cI cZ cJ (wA v 72 i x) := rfl
theorem ma_78 (ad : Nat → Nat) (N : Nat) (cI cZ cJ : ClassId) (v : MS) (i : Nat) (x : Int32) : (mW ad N cI cZ cJ v).set 38 (ad 78, .inl (cI, 40, .inl (upd (v.1 78) i x))) = mW ad N cI cZ cJ (wA v 78 i x) := rfl
theorem ma_79 (ad : Nat → Nat) (N : Nat) (cI cZ cJ : ClassId) (v : MS) (i : Nat) (x : Int32) : (mW ad N cI cZ cJ v).set 39 (ad 79, .inl (cI, 40, .inl (upd (v.1 79) i x))) = mW ad N cI cZ cJ (wA v 79 i x) := rfl
theorem ma_80 (ad : Nat → Nat) (N : Nat) (cI cZ cJ : ClassId) (v : MS) (i : Nat) (x : Int32) : (mW ad N cI cZ cJ v).set 40 (ad 80, .inl (cI, 40, .inl (upd (v.1 80) i x))) = mW ad N cI cZ cJ (wA v 80 i x) := rfl
theorem ma_81 (ad : Nat → Nat) (N : Nat) (cI cZ cJ : ClassId) (v : MS) (i : Nat) (x : Int32) : (mW ad N cI cZ cJ v).set 41 (ad 81, .inl (cI, 40, .inl (upd (v.1 81) i x))) = mW ad N cI cZ cJ (wA v 81 i x) := rfl
theorem ma_82 (ad : Nat → Nat) (N : Nat) (cI cZ cJ : ClassId) (v : MS) (i : Nat) (x : Int32) : (mW ad N cI cZ cJ v).set 42 (ad 82, .inl (cI, 40, .inl (upd (v.1 82) i x))) = mW ad N cI cZ cJ (wA v 82 i x) := rfl
theorem ma_83 (ad : Nat → Nat) (N : Nat) (cI cZ cJ : ClassId) (v : MS) (i : Nat) (x : Int32) : (mW ad N cI cZ cJ v).set 43 (ad 83, .inl (cI, 40, .inl (upd (v.1 83) i x))) = mW ad N cI cZ cJ (wA v 83 i x) := rfl
theorem ma_84 (ad : Nat → Nat) (N : Nat) (cI cZ cJ : ClassId) (v : MS) (i : Nat) (x : Int32) : (mW ad N cI cZ cJ v).set 44 (ad 84, .inl (cI, 40, .inl (upd (v.1 84) i x))) = mW ad N cI cZ cJ (wA v 84 i x) := rfl
theorem ma_85 (ad : Nat → Nat) (N : Nat) (cI cZ cJ : ClassId) (v : MS) (i : Nat) (x : Int32) : (mW ad N cI cZ cJ v).set 45 (ad 85, .inl (cI, 60, .inl (upd (v.1 85) i x))) = mW ad N cI cZ cJ (wA v 85 i x) := rfl
theorem ma_86 (ad : Nat → Nat) (N : Nat) (cI cZ cJ : ClassId) (v : MS) (i : Nat) (x : Int32) : (mW ad N cI cZ cJ v).set 46 (ad 86, .inl (cI, 60, .inl (upd (v.1 86) i x))) = mW ad N cI cZ cJ (wA v 86 i x) := rfl
theorem ma_87 (ad : Nat → Nat) (N : Nat) (cI cZ cJ : ClassId) (v : MS) (i : Nat) (x : Int32) : (mW ad N cI cZ cJ v).set 47 (ad 87, .inl (cI, 60, .inl (upd (v.1 87) i x))) = mW ad N cI cZ cJ (wA v 87 i x) := rfl
theorem ma_88 (ad : Nat → Nat) (N : Nat) (cI cZ cJ : ClassId) (v : MS) (i : Nat) (x : Int32) : (mW ad N cI cZ cJ v).set 48 (ad 88, .inl (cI, 60, .inl (upd (v.1 88) i x))) = mW ad N cI cZ cJ (wA v 88 i x) := rfl
theorem ma_89 (ad : Nat → Nat) (N : Nat) (cI cZ cJ : ClassId) (v : MS) (i : Nat) (x : Int32) : (mW ad N cI cZ cJ v).set 49 (ad 89, .inl (cZ, 60, .inl (upd (v.1 89) i x))) = mW ad N cI cZ cJ (wA v 89 i x) := rfl
theorem ma_90 (ad : Nat → Nat) (N : Nat) (cI cZ cJ : ClassId) (v : MS) (i : Nat) (x : Int32) : (mW ad N cI cZ cJ v).set 50 (ad 90, .inl (cI, 4000, .inl (upd (v.1 90) i x))) = mW ad N cI cZ cJ (wA v 90 i x) := rfl
theorem ma_93 (ad : Nat → Nat) (N : Nat) (cI cZ cJ : ClassId) (v : MS) (i : Nat) (x : Int32) : (mW ad N cI cZ cJ v).set 51 (ad 93, .inl (cI, 64, .inl (upd (v.1 93) i x))) = mW ad N cI cZ cJ (wA v 93 i x) := rfl
theorem ma_96 (ad : Nat → Nat) (N : Nat) (cI cZ cJ : ClassId) (v : MS) (i : Nat) (x : Int32) : (mW ad N cI cZ cJ v).set 52 (ad 96, .inl (cI, N, .inl (upd (v.1 96) i x))) = mW ad N cI cZ cJ (wA v 96 i x) := rfl
theorem ma_97 (ad : Nat → Nat) (N : Nat) (cI cZ cJ : ClassId) (v : MS) (i : Nat) (x : Int32) : (mW ad N cI cZ cJ v).set 53 (ad 97, .inl (cI, 32, .inl (upd (v.1 97) i x))) = mW ad N cI cZ cJ (wA v 97 i x) := rfl
theorem ma_101 (ad : Nat → Nat) (N : Nat) (cI cZ cJ : ClassId) (v : MS) (i : Nat) (x : Int32) : (mW ad N cI cZ cJ v).set 54 (ad 101, .inl (cI, 200, .inl (upd (v.1 101) i x))) = mW ad N cI cZ cJ (wA v 101 i x) := rfl
theorem ma_103 (ad : Nat → Nat) (N : Nat) (cI cZ cJ : ClassId) (v : MS) (i : Nat) (x : Int32) : (mW ad N cI cZ cJ v).set 55 (ad 103, .inl (cI, 60, .inl (upd (v.1 103) i x))) = mW ad N cI cZ cJ (wA v 103 i x) := rfl
theorem ma_105 (ad : Nat → Nat) (N : Nat) (cI cZ cJ : ClassId) (v : MS) (i : Nat) (x : Int32) : (mW ad N cI cZ cJ v).set 56 (ad 105, .inl (cI, 24000, .inl (upd (v.1 105) i x))) = mW ad N cI cZ cJ (wA v 105 i x) := rfl
theorem ma_107 (ad : Nat → Nat) (N : Nat) (cI cZ cJ : ClassId) (v : MS) (i : Nat) (x : Int32) : (mW ad N cI cZ cJ v).set 57 (ad 107, .inl (cI, 2100, .inl (upd (v.1 107) i x))) = mW ad N cI cZ cJ (wA v 107 i x) := rfl
theorem ma_108 (ad : Nat → Nat) (N : Nat) (cI cZ cJ : ClassId) (v : MS) (i : Nat) (x : Int32) : (mW ad N cI cZ cJ v).set 58 (ad 108, .inl (cI, 2100, .inl (upd (v.1 108) i x))) = mW ad N cI cZ cJ (wA v 108 i x) := rfl
theorem ma_109 (ad : Nat → Nat) (N : Nat) (cI cZ cJ : ClassId) (v : MS) (i : Nat) (x : Int32) : (mW ad N cI cZ cJ v).set 59 (ad 109, .inl (cI, 2100, .inl (upd (v.1 109) i x))) = mW ad N cI cZ cJ (wA v 109 i x) := rfl
theorem ma_117 (ad : Nat → Nat) (N : Nat) (cI cZ cJ : ClassId) (v : MS) (i : Nat) (x : Int32) : (mW ad N cI cZ cJ v).set 60 (ad 117, .inl (cI, 4200, .inl (upd (v.1 117) i x))) = mW ad N cI cZ cJ (wA v 117 i x) := rfl
theorem ma_118 (ad : Nat → Nat) (N : Nat) (cI cZ cJ : ClassId) (v : MS) (i : Nat) (x : Int32) : (mW ad N cI cZ cJ v).set 61 (ad 118, .inl (cI, 200, .inl (upd (v.1 118) i x))) = mW ad N cI cZ cJ (wA v 118 i x) := rfl
theorem cP_ {D : va_G} {ws ws1 : va_W} {H : Heap} (e : ws = ws1) (h : va_P D vwCl ws H) : va_P D vwCl ws1 H := e ▸ h
theorem cD_ {A : Nat → Prop} {ws ws1 : va_W} (e : ws = ws1) (h : va_D A ws) : va_D A ws1 := e ▸ h
theorem add_z {x y : Int32} {a b : Int} (hx : x.toInt = a) (hy : y.toInt = b) (h1 : -2147483648 ≤ a + b) (h2 : a + b < 2147483648) : (x + y).toInt = a + b := by
  rw [Int32.toInt_add, hx, hy]
  exact Int.bmod_eq_of_le (by first | omega | (simp; omega) | simp) (by first | omega | (simp; omega) | simp)
theorem sub_z {x y : Int32} {a b : Int} (hx : x.toInt = a) (hy : y.toInt = b) (h1 : -2147483648 ≤ a - b) (h2 : a - b < 2147483648) : (x - y).toInt = a - b := by
  rw [Int32.toInt_sub, hx, hy]
  exact Int.bmod_eq_of_le (by first | omega | (simp; omega) | simp) (by first | omega | (simp; omega) | simp)
theorem in_z {x : Int32} {n : Nat} {a : Int} (hx : x.toInt = a) (h1 : 0 ≤ a) (h2 : a < n) : vp_in x n := vp_in_iff.mpr ⟨hx ▸ h1, hx ▸ h2⟩
theorem in_y {x : Int32} {n : Nat} {a b : Int} (hx : x.toInt = a) (h1 : 0 ≤ a) (h2 : a < b) (hb : b = (n : Int)) : vp_in x n := vp_in_iff.mpr ⟨by rw [hx]; exact h1, by rw [hx, ← hb]; exact h2⟩
theorem mul_z {x y : Int32} {a b : Int} (hx : x.toInt = a) (hy : y.toInt = b) (h1 : -2147483648 ≤ a * b) (h2 : a * b < 2147483648) : (x * y).toInt = a * b := by
  rw [Int32.toInt_mul, hx, hy]
  exact Int.bmod_eq_of_le (by first | omega | (simp; omega) | simp) (by first | omega | (simp; omega) | simp)
theorem ex_z {n : Nat} (h : 1 ≤ (n : Int)) : ∃ m, n = m + 1 := ⟨n - 1, by omega⟩
theorem tn_z {a b : Int} (h : a < b) (h2 : 0 < b) : a.toNat < b.toNat := by omega
theorem lt_z {x y : Int32} {a b : Int} (hx : x.toInt = a) (hy : y.toInt = b) (h : x < y) : a < b := hx ▸ hy ▸ Int32.lt_iff_toInt_lt.mp h
theorem nlt_z {x y : Int32} {a b : Int} (hx : x.toInt = a) (hy : y.toInt = b) (h : ¬ x < y) : b ≤ a := Int.not_lt.mp (fun k => h (Int32.lt_iff_toInt_lt.mpr (by rw [hx, hy]; exact k)))
theorem le_z {x y : Int32} {a b : Int} (hx : x.toInt = a) (hy : y.toInt = b) (h : x ≤ y) : a ≤ b := hx ▸ hy ▸ Int32.le_iff_toInt_le.mp h
theorem nle_z {x y : Int32} {a b : Int} (hx : x.toInt = a) (hy : y.toInt = b) (h : ¬ x ≤ y) : b < a := Int.not_le.mp (fun k => h (Int32.le_iff_toInt_le.mpr (by rw [hx, hy]; exact k)))
theorem eq_z {x y : Int32} {a b : Int} (hx : x.toInt = a) (hy : y.toInt = b) (h : x = y) : a = b := by rw [← hx, ← hy, h]
theorem ne_z {x y : Int32} {a b : Int} (hx : x.toInt = a) (hy : y.toInt = b) (h : ¬ x = y) : a ≠ b := fun k => h (Int32.toInt_inj.mp (by rw [hx, hy, k]))
theorem cl_z {x : Int32} {a : Int} (hx : x.toInt = a) (h : 0 ≤ a) : (x.toNatClampNeg : Int) = a := by
  rw [← hx] at h ⊢
  unfold Int32.toNatClampNeg
  omega
theorem pk_un3 {f : Nat → Int32} {x y : Int32} {a : Int} {j : Nat} (hx : x.toInt = a) (h0 : 0 ≤ a) (hj : (j : Int) < a) : upd f x.toNatClampNeg y j = f j := pk_un (by have := cl_z hx h0; omega)
theorem pk_un4 {f : Nat → Int32} {y : Int32} {i : Nat} {a : Int} {j : Nat} (hx : (i : Int) = a) (hj : (j : Int) < a) : upd f i y j = f j := pk_un (by omega)
theorem bz_ {x : Int32} (h : x = 0 ∨ x = 1) : narrow .boolean (.int x) = .int x := by
  rcases h with h | h <;> rw [h] <;> rfl
theorem as1_ (x : Int32) : x + 1 - 1 = x := by
  first | exact Int32.add_sub_cancel x 1 | (apply Int32.toInt_inj.mp; simp) | simp
theorem mW_nd (ad : Nat → Nat) (N : Nat) (cI cZ cJ : ClassId) (v : MS) : va_nd (List.range (mW ad N cI cZ cJ v).length) = true := (show va_nd (List.range 63) = true by decide +kernel)
section UMC
variable {p : Program} {l : Launch} {e : Env} {R : Room} {s : State} {m : MethodId} {args : Array Value} {below : List Frame} {meth : Method} {c : Code} {H H0 : Heap} {locs : List Loc} {cells slots : Nat} {Q : State → Prop}
variable {cc bytes : ByteArray} {pc nL maxL mc ms n index ci b : Nat} {ls : Array Slot} {rest st0 As fs : List Value} {D : va_G} {A : Nat → Prop} {tys : List (ClassId × FieldType)} {ws : va_W} {own C : String} {y : MethodName} {ret : Option FieldType} {rm : Room} {q : vw_C} {S : Type} {tb : Nat → Nat}
theorem rg_map (ws : va_W) : (List.range ws.length).map (fun i => ws[i]?) = ws.map some := by
  refine List.ext_getElem (by simp) (fun i h1 h2 => ?_)
  have h : i < ws.length := by simpa using h1
  simp [h]
theorem cu_i {post : Int32 → S → Prop} {Wf : S → va_W} {a : Array Value} (hr : va_Run p l e R s m args below meth c H locs cells slots mc ms (F0 m pc ls st0) rest (qi_ D ws H.size post Wf a) (va_A ws H.size)) (hP : va_P D vwCl ws H) (hD : va_D A ws) (hS : va_S A H0 H locs) (hA : ∀ q, H0.size ≤ q → A q)
    (kk : ∀ (r : Int32) (u : S) (H1 : Heap) (locs1 : List Loc), post r u → va_P D vwCl (Wf u) H1 → va_D A (Wf u) → va_S A H0 H1 locs1 → W p l e R s m args below meth c H1 locs1 (cells + mc) (slots + ms) Q (F0 m (pc + 3) ls (.int r :: rest))) : W p l e R s m args below meth c H locs cells slots Q (F0 m pc ls st0) :=
  ca_i (wr := []) hr hP hD hS hA (isC := List.range ws.length) (isR := []) (rg_map ws) rfl rfl (fun i h => by simp at h) kk
theorem cu_v {post : S → Prop} {Wf : S → va_W} {a : Array Value} (hr : va_Run p l e R s m args below meth c H locs cells slots mc ms (F0 m pc ls st0) rest (qv_ D ws H.size post Wf a) (va_A ws H.size)) (hP : va_P D vwCl ws H) (hD : va_D A ws) (hS : va_S A H0 H locs) (hA : ∀ q, H0.size ≤ q → A q)
    (kk : ∀ (u : S) (H1 : Heap) (locs1 : List Loc), post u → va_P D vwCl (Wf u) H1 → va_D A (Wf u) → va_S A H0 H1 locs1 → W p l e R s m args below meth c H1 locs1 (cells + mc) (slots + ms) Q (F0 m (pc + 3) ls rest)) : W p l e R s m args below meth c H locs cells slots Q (F0 m pc ls st0) :=
  ca_v (wr := []) hr hP hD hS hA (isC := List.range ws.length) (isR := []) (rg_map ws) rfl rfl (fun i h => by simp at h) kk
theorem cu_s {post : Int32 → Unit → Prop} {a : Array Value} (hnd : va_nd (List.range ws.length) = true) (hr : va_Run p l e R s m args below meth c H locs cells slots mc ms (F0 m pc ls st0) rest (qi_ D [] H.size post (fun _ => []) a) (va_A [] H.size)) (hP : va_P D vwCl ws H) (hD : va_D A ws) (hS : va_S A H0 H locs) (hA : ∀ q, H0.size ≤ q → A q)
    (kk : ∀ (r : Int32) (H1 : Heap) (locs1 : List Loc), post r () → va_P D vwCl ws H1 → va_D A ws → va_S A H0 H1 locs1 → W p l e R s m args below meth c H1 locs1 (cells + mc) (slots + ms) Q (F0 m (pc + 3) ls (.int r :: rest))) : W p l e R s m args below meth c H locs cells slots Q (F0 m pc ls st0) :=
  ca_i (wr := ws) hr hP hD hS hA (isC := []) (isR := List.range ws.length) rfl (rg_map ws) hnd (fun i _ h => by simp at h) (fun r u H1 locs1 hp h1 h2 h3 => kk r H1 locs1 hp (by rw [List.append_nil] at h1; exact h1) (by rw [List.append_nil] at h2; exact h2) h3)
end UMC
