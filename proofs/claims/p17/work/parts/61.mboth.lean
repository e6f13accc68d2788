theorem dX13_both_0 : decode cX13_both 0 = .ok (.iload_n 1, 1) := by decide +kernel
theorem dX13_both_1 : decode cX13_both 1 = .ok (.ifCond .eq 32, 3) := by decide +kernel
theorem dX13_both_33 : decode cX13_both 33 = .ok (.aload_n 0, 1) := by decide +kernel
theorem dX13_both_34 : decode cX13_both 34 = .ok (.iconst 1, 1) := by decide +kernel
theorem dX13_both_35 : decode cX13_both 35 = .ok (.bipush 10, 2) := by decide +kernel
theorem dX13_both_37 : decode cX13_both 37 = .ok (.iconst 0, 1) := by decide +kernel
theorem dX13_both_38 : decode cX13_both 38 = .ok (.bipush 8, 2) := by decide +kernel
theorem dX13_both_40 : decode cX13_both 40 = .ok (.invokestatic 293, 3) := by decide +kernel
theorem dX13_both_43 : decode cX13_both 43 = .ok (.invokevirtual 111, 3) := by decide +kernel
theorem dX13_both_46 : decode cX13_both 46 = .ok (.pop, 1) := by decide +kernel
theorem dX13_both_47 : decode cX13_both 47 = .ok (.aload_n 0, 1) := by decide +kernel
theorem dX13_both_48 : decode cX13_both 48 = .ok (.iconst (-1), 1) := by decide +kernel
theorem dX13_both_49 : decode cX13_both 49 = .ok (.invokevirtual 314, 3) := by decide +kernel
theorem tw_122 : (.code yX13_wait cX13_wait 2 (some .int) : Cond) ∈ tw_W := tw_in (by decide +kernel) (by decide +kernel)
theorem tw_123 : ∀ w ∈ ([.methodLink RX13 314 yX13_wait, .instanceMethod yX13_wait, .selects RX13 yX13_wait yX13_wait, .initialized RX13] : List Cond), w ∈ tw_W := tw_all (by decide +kernel)
theorem dX13_both_52 : decode cX13_both 52 = .ok (.istore 4, 2) := by decide +kernel
theorem dX13_both_54 : decode cX13_both 54 = .ok (.aload_n 0, 1) := by decide +kernel
theorem dX13_both_55 : decode cX13_both 55 = .ok (.iload_n 1, 1) := by decide +kernel
theorem dX13_both_56 : decode cX13_both 56 = .ok (.ifCond .eq 8, 3) := by decide +kernel
theorem dX13_both_64 : decode cX13_both 64 = .ok (.bipush 22, 2) := by decide +kernel
theorem dX13_both_66 : decode cX13_both 66 = .ok (.iconst 0, 1) := by decide +kernel
theorem dX13_both_67 : decode cX13_both 67 = .ok (.invokevirtual 210, 3) := by decide +kernel
theorem dX13_both_70 : decode cX13_both 70 = .ok (.istore_n 3, 1) := by decide +kernel
theorem dX13_both_71 : decode cX13_both 71 = .ok (.aload_n 0, 1) := by decide +kernel
theorem dX13_both_72 : decode cX13_both 72 = .ok (.iload_n 2, 1) := by decide +kernel
theorem dX13_both_73 : decode cX13_both 73 = .ok (.iconst 0, 1) := by decide +kernel
theorem dX13_both_74 : decode cX13_both 74 = .ok (.invokevirtual 310, 3) := by decide +kernel
theorem tw_124 : (.code yX13_joined cX13_joined 6 none : Cond) ∈ tw_W := tw_in (by decide +kernel) (by decide +kernel)
theorem tw_125 : ∀ w ∈ ([.methodLink RX13 310 yX13_joined, .instanceMethod yX13_joined, .selects RX13 yX13_joined yX13_joined, .initialized RX13] : List Cond), w ∈ tw_W := tw_all (by decide +kernel)
theorem dX13_both_77 : decode cX13_both 77 = .ok (.aload_n 0, 1) := by decide +kernel
theorem dX13_both_78 : decode cX13_both 78 = .ok (.iconst 0, 1) := by decide +kernel
theorem dX13_both_79 : decode cX13_both 79 = .ok (.iconst 3, 1) := by decide +kernel
theorem dX13_both_80 : decode cX13_both 80 = .ok (.bipush 10, 2) := by decide +kernel
theorem dX13_both_82 : decode cX13_both 82 = .ok (.iconst 0, 1) := by decide +kernel
theorem dX13_both_83 : decode cX13_both 83 = .ok (.bipush 10, 2) := by decide +kernel
theorem dX13_both_85 : decode cX13_both 85 = .ok (.invokestatic 213, 3) := by decide +kernel
theorem dX13_both_88 : decode cX13_both 88 = .ok (.invokevirtual 111, 3) := by decide +kernel
theorem dX13_both_91 : decode cX13_both 91 = .ok (.pop, 1) := by decide +kernel
theorem dX13_both_92 : decode cX13_both 92 = .ok (.aload_n 0, 1) := by decide +kernel
theorem dX13_both_93 : decode cX13_both 93 = .ok (.bipush 24, 2) := by decide +kernel
theorem dX13_both_95 : decode cX13_both 95 = .ok (.iconst 0, 1) := by decide +kernel
theorem dX13_both_96 : decode cX13_both 96 = .ok (.invokevirtual 210, 3) := by decide +kernel
theorem dX13_both_99 : decode cX13_both 99 = .ok (.pop, 1) := by decide +kernel
theorem dX13_both_100 : decode cX13_both 100 = .ok (.aload_n 0, 1) := by decide +kernel
theorem dX13_both_101 : decode cX13_both 101 = .ok (.iload 4, 2) := by decide +kernel
theorem dX13_both_103 : decode cX13_both 103 = .ok (.iconst 0, 1) := by decide +kernel
theorem dX13_both_104 : decode cX13_both 104 = .ok (.aload_n 0, 1) := by decide +kernel
theorem dX13_both_105 : decode cX13_both 105 = .ok (.getfield 104, 3) := by decide +kernel
theorem dX13_both_108 : decode cX13_both 108 = .ok (.invokevirtual 114, 3) := by decide +kernel
theorem tw_126 : (.code yX13_jump cX13_jump 4 none : Cond) ∈ tw_W := tw_in (by decide +kernel) (by decide +kernel)
theorem tw_127 : ∀ w ∈ ([.methodLink RX13 114 yX13_jump, .instanceMethod yX13_jump, .selects RX13 yX13_jump yX13_jump, .initialized RX13] : List Cond), w ∈ tw_W := tw_all (by decide +kernel)
theorem dX13_both_111 : decode cX13_both 111 = .ok (.aload_n 0, 1) := by decide +kernel
theorem dX13_both_112 : decode cX13_both 112 = .ok (.getfield 124, 3) := by decide +kernel
theorem dX13_both_115 : decode cX13_both 115 = .ok (.iload_n 3, 1) := by decide +kernel
theorem dX13_both_116 : decode cX13_both 116 = .ok (.aload_n 0, 1) := by decide +kernel
theorem dX13_both_117 : decode cX13_both 117 = .ok (.getfield 121, 3) := by decide +kernel
theorem dX13_both_120 : decode cX13_both 120 = .ok (.iastore, 1) := by decide +kernel
theorem dX13_both_121 : decode cX13_both 121 = .ok (.return_, 1) := by decide +kernel
theorem dX13_both_4 : decode cX13_both 4 = .ok (.aload_n 0, 1) := by decide +kernel
theorem dX13_both_5 : decode cX13_both 5 = .ok (.iconst 0, 1) := by decide +kernel
theorem dX13_both_6 : decode cX13_both 6 = .ok (.bipush 10, 2) := by decide +kernel
theorem dX13_both_8 : decode cX13_both 8 = .ok (.iconst 0, 1) := by decide +kernel
theorem dX13_both_9 : decode cX13_both 9 = .ok (.bipush 12, 2) := by decide +kernel
theorem dX13_both_11 : decode cX13_both 11 = .ok (.invokestatic 293, 3) := by decide +kernel
theorem dX13_both_14 : decode cX13_both 14 = .ok (.invokevirtual 111, 3) := by decide +kernel
theorem dX13_both_17 : decode cX13_both 17 = .ok (.pop, 1) := by decide +kernel
theorem dX13_both_18 : decode cX13_both 18 = .ok (.aload_n 0, 1) := by decide +kernel
theorem dX13_both_19 : decode cX13_both 19 = .ok (.bipush 10, 2) := by decide +kernel
theorem dX13_both_21 : decode cX13_both 21 = .ok (.iconst 0, 1) := by decide +kernel
theorem dX13_both_22 : decode cX13_both 22 = .ok (.iconst 1, 1) := by decide +kernel
theorem dX13_both_23 : decode cX13_both 23 = .ok (.invokestatic 219, 3) := by decide +kernel
theorem dX13_both_26 : decode cX13_both 26 = .ok (.invokevirtual 111, 3) := by decide +kernel
theorem dX13_both_29 : decode cX13_both 29 = .ok (.pop, 1) := by decide +kernel
theorem dX13_both_30 : decode cX13_both 30 = .ok (.goto 17, 3) := by decide +kernel
theorem dX13_both_59 : decode cX13_both 59 = .ok (.bipush 23, 2) := by decide +kernel
theorem dX13_both_61 : decode cX13_both 61 = .ok (.goto 5, 3) := by decide +kernel
def Cx_joined (l : Launch) (n : Nat) (kk : Nat) : Prop := ∀ (dC : Nat → ClassId) (dI : Nat → Nat → Nat) (cI cB cZ cJ cR : ClassId) (tb : Nat → Nat) (sz : Nat) (ad : Nat → Nat) (N : Nat) (v : MS) (pa : Int32) (pb : Int32) (zn : 40 ≤ (v.1 0 48).toInt + (n : Int)) (zt : 0 ≤ (v.1 0 47).toInt ∧ (v.1 0 47).toInt ≤ 1500) (zop : 0 ≤ (v.1 0 48).toInt ∧ (v.1 0 48).toInt ≤ 40) (zkn : 0 ≤ (v.1 0 30).toInt ∧ (v.1 0 30).toInt ≤ 500) (zhi : 0 ≤ (v.1 0 33).toInt ∧ (v.1 0 33).toInt ≤ 500) (zs : 0 ≤ (v.1 0 32).toInt ∧ (v.1 0 30).toInt + (v.1 0 32).toInt ≤ (v.1 0 33).toInt) (zws : 0 ≤ (v.1 0 12).toInt ∧ (v.1 0 12).toInt ≤ 15 * (v.1 0 47).toInt + 2) (zos : 0 ≤ (v.1 0 15).toInt ∧ (v.1 0 15).toInt ≤ 10 * (v.1 0 47).toInt + 0) (zfs : 0 ≤ (v.1 0 43).toInt ∧ (v.1 0 43).toInt ≤ 15 * (v.1 0 47).toInt + 0) (zcs : 0 ≤ (v.1 0 39).toInt ∧ (v.1 0 39).toInt ≤ 1 * (v.1 0 47).toInt + 0) (zgl : 0 ≤ (v.1 0 27).toInt ∧ (v.1 0 27).toInt ≤ 60) (hT : TI v) (a29 : AR 29 0 1500 v) (a23 : AR 23 0 1500 v) (a35 : AR 35 0 1500 v) (a37 : AR 37 0 23999 v) (a38 : AR 38 0 15999 v) (a40 : AR 40 0 23999 v) (fx : FX v) (zl : 1 ≤ pa.toInt ∧ pa.toInt ≤ 12 ∧ 11 ≤ pa.toInt + (kk : Int)), vx_Met l yX13_joined (Cond.code yX13_joined cX13_joined 6 none :: tw_W) ({ frames := 40 * n + 10 + 2 * kk, cells := 0, slots := 0, locals := 28 * (40 * n + 10 + 2 * kk) }) (pc_ (dC, dI) (tyS cI cB cZ cJ cR) tb (mW ad N cI cZ cJ v) sz [.ref (ad 0), .int pa, .int pb]) (qv_ (dC, dI) (mW ad N cI cZ cJ v) sz (fun (u : MS) => FG [12, 15, 32, 33, 39, 43, 44, 45, 47, 48, 49, 50, 51] [0, 11, 13, 14, 35, 36, 37, 38, 40, 41, 42] v u ∧ ((v.1 0 47).toInt + 0 ≤ (u.1 0 47).toInt ∧ (u.1 0 47).toInt ≤ 1500) ∧ (pb.toInt ≠ 0 ∨ ((v.1 0 47).toInt + 1 ≤ (u.1 0 47).toInt ∧ (v.1 0 49).toInt ≠ (v.1 0 47).toInt)) ∧ ((v.1 0 12).toInt ≤ (u.1 0 12).toInt ∧ (u.1 0 12).toInt - 15 * (u.1 0 47).toInt ≤ (v.1 0 12).toInt - 15 * (v.1 0 47).toInt) ∧ ((v.1 0 15).toInt ≤ (u.1 0 15).toInt ∧ (u.1 0 15).toInt - 10 * (u.1 0 47).toInt ≤ (v.1 0 15).toInt - 10 * (v.1 0 47).toInt) ∧ ((v.1 0 43).toInt ≤ (u.1 0 43).toInt ∧ (u.1 0 43).toInt - 15 * (u.1 0 47).toInt ≤ (v.1 0 43).toInt - 15 * (v.1 0 47).toInt) ∧ ((v.1 0 39).toInt ≤ (u.1 0 39).toInt ∧ (u.1 0 39).toInt - 1 * (u.1 0 47).toInt ≤ (v.1 0 39).toInt - 1 * (v.1 0 47).toInt) ∧ ((u.1 0 32).toInt = (v.1 0 32).toInt ∧ (u.1 0 48).toInt = (v.1 0 48).toInt) ∧ ((v.1 0 33).toInt ≤ (u.1 0 33).toInt ∧ (u.1 0 33).toInt ≤ 500) ∧ (∀ j : Nat, (j : Int) < (v.1 0 12).toInt → (u.1 11) j = (v.1 11) j) ∧ (∀ j : Nat, (j : Int) < (v.1 0 15).toInt → (u.1 13) j = (v.1 13) j) ∧ (∀ j : Nat, (j : Int) < (v.1 0 15).toInt → (u.1 14) j = (v.1 14) j) ∧ (AR 35 0 1500 u) ∧ (AR 37 0 23999 u) ∧ (AR 38 0 15999 u) ∧ (AR 40 0 23999 u) ∧ (FX u)) (fun (u : MS) => (mW ad N cI cZ cJ u))) (qxm (dC, dI) (mW ad N cI cZ cJ v) sz (fun (u : MS) => (mW ad N cI cZ cJ u)) (fun (u : MS) => Fr v u)) 0 0 (va_A (mW ad N cI cZ cJ v) sz)
theorem om_e4a9a18e1f {n0 n1 : Nat} : 0 + 1 ≤ 40 * n0 + 11 + 2 * n1 := by omega
theorem om_acd50960ad {n0 n1 : Nat} : 8 + (4 + 11) + 0 ≤ 28 * (40 * n0 + 11 + 2 * n1) := by omega
theorem om_d73dcb7bba {x0 x1 : Int} (h0 : 0 ≤ x0 ∧ x0 ≤ 1500) (h1 : 0 ≤ x1 ∧ x1 ≤ 15 * x0 + -8) : 0 ≤ x1 ∧ x1 < 24000 := by omega
theorem om_569bd57a25 {n0 n1 : Nat} : 8 + (2 + 11) + 0 ≤ 28 * (40 * n0 + 11 + 2 * n1) := by omega
theorem om_e59ca69203 {x0 x1 : Int} (h0 : 0 ≤ x0 ∧ x0 ≤ 15 * x1 + -8) : -2147483648 ≤ (x0) + (1 : Int) := by omega
theorem om_8efe3d1605 {x0 x1 : Int} (h0 : 0 ≤ x0 ∧ x0 ≤ 1500) (h1 : 0 ≤ x1 ∧ x1 ≤ 15 * x0 + -8) : (x1) + (1 : Int) < 2147483648 := by omega
theorem om_ac9c79b49b {x0 x1 x2 : Int} (h0 : 0 ≤ x0 ∧ x0 ≤ 1500) (h1 : 0 ≤ x1 ∧ x1 ≤ 15 * x0 + -8) (h2 : x2 = (x1) + (1 : Int)) : 0 ≤ x2 ∧ x2 < 24000 := by omega
theorem om_9c725438dc {n0 n1 : Nat} : 1 + 1 ≤ 40 * n0 + 11 + 2 * n1 := by omega
theorem om_95fef24b7a {n0 n1 : Nat} : 8 + (2 + 11) + 21 ≤ 28 * (40 * n0 + 11 + 2 * n1) := by omega
theorem om_0f1b353838 {x0 x1 : Int} (h0 : 0 ≤ x0 ∧ x0 ≤ 15 * x1 + -8) : -2147483648 ≤ ((x0) + (1 : Int)) + (1 : Int) := by omega
theorem om_ef70f26e53 {x0 x1 : Int} (h0 : 0 ≤ x0 ∧ x0 ≤ 1500) (h1 : 0 ≤ x1 ∧ x1 ≤ 15 * x0 + -8) : ((x1) + (1 : Int)) + (1 : Int) < 2147483648 := by omega
theorem om_29aa3f96d3 {x0 x1 : Int} (h0 : 0 ≤ x0 ∧ x0 ≤ 1500) (h1 : 0 ≤ x1 ∧ x1 ≤ 10 * x0 + -5) : 0 ≤ x1 ∧ x1 < 16000 := by omega
theorem om_2a7d26e2ca {n0 n1 : Nat} : 8 + (3 + 11) + 0 ≤ 28 * (40 * n0 + 11 + 2 * n1) := by omega
theorem om_0fdaa42459 {x0 x1 : Int} (h0 : 0 ≤ x0 ∧ x0 ≤ 10 * x1 + -5) : -2147483648 ≤ (x0) + (1 : Int) := by omega
theorem om_09a043d2b4 {x0 x1 : Int} (h0 : 0 ≤ x0 ∧ x0 ≤ 1500) (h1 : 0 ≤ x1 ∧ x1 ≤ 10 * x0 + -5) : (x1) + (1 : Int) < 2147483648 := by omega
theorem om_16f6448e32 {x0 x1 x2 : Int} (h0 : 0 ≤ x0 ∧ x0 ≤ 15 * x1 + -8) (h1 : x2 = (x0) + (1 : Int)) : 0 ≤ x2 := by omega
theorem om_1fb4ad29f5 {x0 x1 : Int} (h0 : 0 ≤ x0 ∧ x0 ≤ 15 * x1 + -8) : 0 ≤ x0 := by omega
theorem om_cd2a109470 {x0 x1 : Int} (h0 : 0 ≤ x0 ∧ x0 ≤ 10 * x1 + -5) : 0 ≤ x0 := by omega
theorem om_2d3a9cf1da {x0 x2 : Int} {n1 : Nat} (h0 : 40 ≤ x0 + (n1 : Int)) (h1 : x2 = x0) : 40 ≤ x2 + (n1 : Int) := by omega
theorem om_cbb7fa6a05 {x0 x1 x2 : Int} (h0 : 0 ≤ x0 ∧ x0 ≤ 1500) (h1 : 0 ≤ x1 ∧ x1 ≤ 15 * x0 + -8) (h2 : x2 = x0) : 0 ≤ x2 ∧ x2 ≤ 1500 := by omega
theorem om_99e115f631 {x0 x1 : Int} (h0 : 0 ≤ x0 ∧ x0 ≤ 40) (h1 : x1 = x0) : 0 ≤ x1 ∧ x1 ≤ 40 := by omega
theorem om_2af3a22bf6 {x0 x1 x2 x3 x4 x5 : Int} (h0 : 0 ≤ x0 ∧ x1 + x0 ≤ x2) (h1 : x3 = x1) (h2 : x4 = x0) (h3 : x5 = x2) : 0 ≤ x4 ∧ x3 + x4 ≤ x5 := by omega
theorem om_8b3033b213 {x0 x1 x2 x3 : Int} (h0 : 0 ≤ x0 ∧ x0 ≤ 15 * x1 + -8) (h1 : x2 = (((x0) + (1 : Int)) + (1 : Int))) (h2 : x3 = x1) : 0 ≤ x2 ∧ x2 ≤ 15 * x3 + 2 := by omega
theorem om_2747ba7112 {x0 x1 x2 x3 : Int} (h0 : 0 ≤ x0 ∧ x0 ≤ 10 * x1 + -5) (h1 : x2 = ((x0) + (1 : Int))) (h2 : x3 = x1) : 0 ≤ x2 ∧ x2 ≤ 10 * x3 + 0 := by omega
theorem om_1540b29cc3 {x0 x1 x2 x3 : Int} (h0 : 0 ≤ x0 ∧ x0 ≤ 15 * x1 + 0) (h1 : x2 = x0) (h2 : x3 = x1) : 0 ≤ x2 ∧ x2 ≤ 15 * x3 + 0 := by omega
theorem om_4624cec051 {x0 x1 x2 x3 : Int} (h0 : 0 ≤ x0 ∧ x0 ≤ 1 * x1 + 0) (h1 : x2 = x0) (h2 : x3 = x1) : 0 ≤ x2 ∧ x2 ≤ 1 * x3 + 0 := by omega
theorem om_385c0d8cae {x0 x1 : Int} (h0 : 0 ≤ x0 ∧ x0 ≤ 60) (h1 : x1 = x0) : 0 ≤ x1 ∧ x1 ≤ 60 := by omega
theorem om_286b450281 {x0 : Int} {n1 : Nat} (h0 : 1 ≤ x0 ∧ x0 ≤ 12 ∧ 11 ≤ x0 + (n1 : Int)) : 1 ≤ x0 ∧ x0 ≤ 12 ∧ 11 ≤ x0 + (n1 : Int) := by omega
theorem om_3e067a920a {n0 n1 : Nat} : (40 * n0 + 10 + 2 * n1) + 1 ≤ 40 * n0 + 11 + 2 * n1 := by omega
theorem om_1b9945aa0a {n0 n1 : Nat} : 8 + (6 + 11) + 28 * (40 * n0 + 10 + 2 * n1) ≤ 28 * (40 * n0 + 11 + 2 * n1) := by omega
theorem om_aba1db7891 {n0 n1 : Nat} : 8 + (5 + 11) + 0 ≤ 28 * (40 * n0 + 11 + 2 * n1) := by omega
theorem om_0810d28b1a {x0 x1 x2 x3 x4 x5 : Int} (h0 : 0 ≤ x0 ∧ x0 ≤ 15 * x1 + -8) (h1 : x2 = (((x0) + (1 : Int)) + (1 : Int))) (h2 : x3 = x1) (h3 : x3 + 0 ≤ x4 ∧ x4 ≤ 1500) (h4 : x2 ≤ x5 ∧ x5 - 15 * x4 ≤ x2 - 15 * x3) : 0 ≤ x5 ∧ x5 < 24000 := by omega
theorem om_6d17d97476 {x0 x1 x2 x3 x4 x5 : Int} (h0 : 0 ≤ x0 ∧ x0 ≤ 15 * x1 + -8) (h1 : x2 = (((x0) + (1 : Int)) + (1 : Int))) (h2 : x2 ≤ x3 ∧ x3 - 15 * x4 ≤ x2 - 15 * x5) : -2147483648 ≤ (x3) + (1 : Int) := by omega
theorem om_6dafd20439 {x0 x1 x2 x3 x4 x5 : Int} (h0 : 0 ≤ x0 ∧ x0 ≤ 15 * x1 + -8) (h1 : x2 = (((x0) + (1 : Int)) + (1 : Int))) (h2 : x3 = x1) (h3 : x3 + 0 ≤ x4 ∧ x4 ≤ 1500) (h4 : x2 ≤ x5 ∧ x5 - 15 * x4 ≤ x2 - 15 * x3) : (x5) + (1 : Int) < 2147483648 := by omega
theorem om_ab1d49cf04 {x0 x1 x2 x3 x4 x5 : Int} (h0 : 0 ≤ x0 ∧ x0 ≤ 10 * x1 + -5) (h1 : x2 = ((x0) + (1 : Int))) (h2 : x3 = x1) (h3 : x3 + 0 ≤ x4 ∧ x4 ≤ 1500) (h4 : x2 ≤ x5 ∧ x5 - 10 * x4 ≤ x2 - 10 * x3) : 0 ≤ x5 ∧ x5 < 16000 := by omega
theorem om_c0ed907fe3 {x0 x1 x2 x3 x4 x5 : Int} (h0 : 0 ≤ x0 ∧ x0 ≤ 10 * x1 + -5) (h1 : x2 = ((x0) + (1 : Int))) (h2 : x2 ≤ x3 ∧ x3 - 10 * x4 ≤ x2 - 10 * x5) : -2147483648 ≤ (x3) + (1 : Int) := by omega
theorem om_44216e30ae {x0 x1 x2 x3 x4 x5 : Int} (h0 : 0 ≤ x0 ∧ x0 ≤ 10 * x1 + -5) (h1 : x2 = ((x0) + (1 : Int))) (h2 : x3 = x1) (h3 : x3 + 0 ≤ x4 ∧ x4 ≤ 1500) (h4 : x2 ≤ x5 ∧ x5 - 10 * x4 ≤ x2 - 10 * x3) : (x5) + (1 : Int) < 2147483648 := by omega
theorem om_d6b6deaa64 {n0 n1 : Nat} : 8 + (4 + 11) + 21 ≤ 28 * (40 * n0 + 11 + 2 * n1) := by omega
theorem om_df344c3ca1 {x0 x1 : Int} (h0 : 0 ≤ x0 ∧ x0 ≤ 1500) (h1 : 0 ≤ x1 ∧ x1 ≤ 10 * x0 + -5) : x1 < 16000 := by omega
theorem om_30221e262c {x0 x1 x2 x3 x4 x5 : Int} (h0 : 0 ≤ x0 ∧ x0 ≤ 15 * x1 + -8) (h1 : x2 = (((x0) + (1 : Int)) + (1 : Int))) (h2 : x2 ≤ x3 ∧ x3 - 15 * x4 ≤ x2 - 15 * x5) : 0 ≤ x3 := by omega
theorem om_c704d8ed07 {x0 x1 x2 x3 x4 : Int} {n5 : Nat} (h0 : x0 = (((x1) + (1 : Int)) + (1 : Int))) (h1 : x0 ≤ x2 ∧ x2 - 15 * x3 ≤ x0 - 15 * x4) (h2 : (n5 : Int) < x1) : (n5 : Int) < x2 := by omega
theorem om_16573c429d {x0 x1 : Int} {n2 : Nat} (h0 : x0 = (((x1) + (1 : Int)) + (1 : Int))) (h1 : (n2 : Int) < x1) : (n2 : Int) < x0 := by omega
theorem om_fc2b7976a4 {x0 x1 x2 x3 x4 x5 : Int} (h0 : 0 ≤ x0 ∧ x0 ≤ 10 * x1 + -5) (h1 : x2 = ((x0) + (1 : Int))) (h2 : x2 ≤ x3 ∧ x3 - 10 * x4 ≤ x2 - 10 * x5) : 0 ≤ x3 := by omega
theorem om_a17e130e46 {x0 x1 x2 x3 x4 : Int} {n5 : Nat} (h0 : x0 = ((x1) + (1 : Int))) (h1 : x0 ≤ x2 ∧ x2 - 10 * x3 ≤ x0 - 10 * x4) (h2 : (n5 : Int) < x1) : (n5 : Int) < x2 := by omega
theorem om_a5c0ac1db2 {x0 x1 x2 x3 x4 : Int} (h0 : x0 = x1) (h1 : x0 + 0 ≤ x2 ∧ x2 ≤ 1500) (h2 : (0 : Int) ≠ 0 ∨ (x0 + 1 ≤ x2 ∧ x3 ≠ x0)) (h3 : x4 = x2) : x1 + 1 ≤ x4 ∧ x4 ≤ 1500 := by omega
theorem om_3ea692d063 {x0 x1 x2 x3 x4 : Int} (h0 : x0 = x1) (h1 : x2 = x3) (h2 : (0 : Int) ≠ 0 ∨ (x0 + 1 ≤ x4 ∧ x2 ≠ x0)) : x3 ≠ x1 := by omega
theorem om_673256465f {x0 x1 x2 x3 x4 x5 x6 x7 : Int} (h0 : x0 = (((x1) + (1 : Int)) + (1 : Int))) (h1 : x2 = x3) (h2 : x0 ≤ x4 ∧ x4 - 15 * x5 ≤ x0 - 15 * x2) (h3 : x6 = ((x4) + (1 : Int))) (h4 : x7 = x5) : x1 ≤ x6 ∧ x6 - 15 * x7 ≤ x1 - 15 * x3 + 5 := by omega
theorem om_b3f8ba7422 {x0 x1 x2 x3 x4 x5 x6 x7 : Int} (h0 : x0 = ((x1) + (1 : Int))) (h1 : x2 = x3) (h2 : x0 ≤ x4 ∧ x4 - 10 * x5 ≤ x0 - 10 * x2) (h3 : x6 = ((x4) + (1 : Int))) (h4 : x7 = x5) : x1 ≤ x6 ∧ x6 - 10 * x7 ≤ x1 - 10 * x3 + 2 := by omega
theorem om_3ebe2a93c0 {x0 x1 x2 x3 x4 x5 x6 x7 : Int} (h0 : x0 = x1) (h1 : x2 = x3) (h2 : x0 ≤ x4 ∧ x4 - 15 * x5 ≤ x0 - 15 * x2) (h3 : x6 = x4) (h4 : x7 = x5) : x1 ≤ x6 ∧ x6 - 15 * x7 ≤ x1 - 15 * x3 := by omega
theorem om_a55bbffa11 {x0 x1 x2 x3 x4 x5 x6 x7 : Int} (h0 : x0 = x1) (h1 : x2 = x3) (h2 : x0 ≤ x4 ∧ x4 - 1 * x5 ≤ x0 - 1 * x2) (h3 : x6 = x4) (h4 : x7 = x5) : x1 ≤ x6 ∧ x6 - 1 * x7 ≤ x1 - 1 * x3 := by omega
theorem om_88acc2d82b {x0 x1 x2 x3 x4 x5 x6 x7 : Int} (h0 : x0 = x1) (h1 : x2 = x3) (h2 : x4 = x0 ∧ x5 = x2) (h3 : x6 = x4) (h4 : x7 = x5) : x6 = x1 ∧ x7 = x3 := by omega
theorem om_df59a1a895 {x0 x1 x2 x3 : Int} (h0 : x0 = x1) (h1 : x0 ≤ x2 ∧ x2 ≤ 500) (h2 : x3 = x2) : x1 ≤ x3 ∧ x3 ≤ 500 := by omega
theorem om_52b74f11cb {n0 n1 : Nat} : 8 + (3 + 11) + 24 ≤ 28 * (40 * n0 + 11 + 2 * n1) := by omega
theorem om_8358e75e18 {x0 x1 x2 : Int} (h0 : 0 ≤ x0 ∧ x0 ≤ 1500) (h1 : 0 ≤ x1 ∧ x1 ≤ 15 * x0 + -8) (h2 : x2 = ((x1) + (1 : Int)) + (1 : Int)) : 0 ≤ x2 ∧ x2 < 24000 := by omega
theorem om_a63fe6cb73 {x0 x1 : Int} (h0 : 0 ≤ x0 ∧ x0 ≤ 15 * x1 + -8) : -2147483648 ≤ (((x0) + (1 : Int)) + (1 : Int)) + (1 : Int) := by omega
theorem om_9601e50861 {x0 x1 : Int} (h0 : 0 ≤ x0 ∧ x0 ≤ 1500) (h1 : 0 ≤ x1 ∧ x1 ≤ 15 * x0 + -8) : (((x1) + (1 : Int)) + (1 : Int)) + (1 : Int) < 2147483648 := by omega
theorem om_88af80de2a {x0 x1 x2 : Int} (h0 : 0 ≤ x0 ∧ x0 ≤ 15 * x1 + -8) (h1 : x2 = ((x0) + (1 : Int)) + (1 : Int)) : 0 ≤ x2 := by omega
theorem om_9160dd3fa3 {x0 x1 : Int} {n2 : Nat} (h0 : x0 = ((x1) + (1 : Int)) + (1 : Int)) (h1 : (n2 : Int) < x1) : (n2 : Int) < x0 := by omega
theorem om_fc78833a2d {x0 x1 x2 x3 : Int} (h0 : 0 ≤ x0 ∧ x0 ≤ 15 * x1 + -8) (h1 : x2 = ((((x0) + (1 : Int)) + (1 : Int)) + (1 : Int))) (h2 : x3 = x1) : 0 ≤ x2 ∧ x2 ≤ 15 * x3 + 2 := by omega
theorem om_5ee698a60d {x0 x1 x2 x3 x4 x5 : Int} (h0 : 0 ≤ x0 ∧ x0 ≤ 15 * x1 + -8) (h1 : x2 = ((((x0) + (1 : Int)) + (1 : Int)) + (1 : Int))) (h2 : x3 = x1) (h3 : x3 + 0 ≤ x4 ∧ x4 ≤ 1500) (h4 : x2 ≤ x5 ∧ x5 - 15 * x4 ≤ x2 - 15 * x3) : 0 ≤ x5 ∧ x5 < 24000 := by omega
theorem om_2e1341a074 {x0 x1 x2 x3 x4 x5 : Int} (h0 : 0 ≤ x0 ∧ x0 ≤ 15 * x1 + -8) (h1 : x2 = ((((x0) + (1 : Int)) + (1 : Int)) + (1 : Int))) (h2 : x2 ≤ x3 ∧ x3 - 15 * x4 ≤ x2 - 15 * x5) : -2147483648 ≤ (x3) + (1 : Int) := by omega
theorem om_3bab92d693 {x0 x1 x2 x3 x4 x5 : Int} (h0 : 0 ≤ x0 ∧ x0 ≤ 15 * x1 + -8) (h1 : x2 = ((((x0) + (1 : Int)) + (1 : Int)) + (1 : Int))) (h2 : x3 = x1) (h3 : x3 + 0 ≤ x4 ∧ x4 ≤ 1500) (h4 : x2 ≤ x5 ∧ x5 - 15 * x4 ≤ x2 - 15 * x3) : (x5) + (1 : Int) < 2147483648 := by omega
theorem om_38cf47e436 {x0 x1 x2 x3 x4 x5 : Int} (h0 : 0 ≤ x0 ∧ x0 ≤ 15 * x1 + -8) (h1 : x2 = ((((x0) + (1 : Int)) + (1 : Int)) + (1 : Int))) (h2 : x2 ≤ x3 ∧ x3 - 15 * x4 ≤ x2 - 15 * x5) : 0 ≤ x3 := by omega
theorem om_1a10ac8dc0 {x0 x1 x2 x3 x4 : Int} {n5 : Nat} (h0 : x0 = ((((x1) + (1 : Int)) + (1 : Int)) + (1 : Int))) (h1 : x0 ≤ x2 ∧ x2 - 15 * x3 ≤ x0 - 15 * x4) (h2 : (n5 : Int) < x1) : (n5 : Int) < x2 := by omega
theorem om_37b328d921 {x0 x1 : Int} {n2 : Nat} (h0 : x0 = ((((x1) + (1 : Int)) + (1 : Int)) + (1 : Int))) (h1 : (n2 : Int) < x1) : (n2 : Int) < x0 := by omega
theorem om_4a991ac19c {x0 x1 x2 x3 x4 x5 x6 x7 : Int} (h0 : x0 = ((((x1) + (1 : Int)) + (1 : Int)) + (1 : Int))) (h1 : x2 = x3) (h2 : x0 ≤ x4 ∧ x4 - 15 * x5 ≤ x0 - 15 * x2) (h3 : x6 = ((x4) + (1 : Int))) (h4 : x7 = x5) : x1 ≤ x6 ∧ x6 - 15 * x7 ≤ x1 - 15 * x3 + 5 := by omega
set_option maxHeartbeats 16000000 in
set_option maxRecDepth 100000 in
theorem c_m_both (l : Launch) (n : Nat) (kk : Nat) (J : Cx_joined l n kk) (dC : Nat → ClassId) (dI : Nat → Nat → Nat) (cI cB cZ cJ cR : ClassId) (tb : Nat → Nat) (sz : Nat) (ad : Nat → Nat) (N : Nat) (v : MS) (pa : Int32) (pb : Int32) (zn : 40 ≤ (v.1 0 48).toInt + (n : Int)) (zt : 0 ≤ (v.1 0 47).toInt ∧ (v.1 0 47).toInt ≤ 1500) (zop : 0 ≤ (v.1 0 48).toInt ∧ (v.1 0 48).toInt ≤ 40) (zkn : 0 ≤ (v.1 0 30).toInt ∧ (v.1 0 30).toInt ≤ 500) (zhi : 0 ≤ (v.1 0 33).toInt ∧ (v.1 0 33).toInt ≤ 500) (zs : 0 ≤ (v.1 0 32).toInt ∧ (v.1 0 30).toInt + (v.1 0 32).toInt ≤ (v.1 0 33).toInt) (zws : 0 ≤ (v.1 0 12).toInt ∧ (v.1 0 12).toInt ≤ 15 * (v.1 0 47).toInt + -8) (zos : 0 ≤ (v.1 0 15).toInt ∧ (v.1 0 15).toInt ≤ 10 * (v.1 0 47).toInt + -5) (zfs : 0 ≤ (v.1 0 43).toInt ∧ (v.1 0 43).toInt ≤ 15 * (v.1 0 47).toInt + 0) (zcs : 0 ≤ (v.1 0 39).toInt ∧ (v.1 0 39).toInt ≤ 1 * (v.1 0 47).toInt + 0) (zgl : 0 ≤ (v.1 0 27).toInt ∧ (v.1 0 27).toInt ≤ 60) (hT : TI v) (a29 : AR 29 0 1500 v) (a23 : AR 23 0 1500 v) (a35 : AR 35 0 1500 v) (a37 : AR 37 0 23999 v) (a38 : AR 38 0 15999 v) (a40 : AR 40 0 23999 v) (fx : FX v) (zl : 1 ≤ pb.toInt ∧ pb.toInt ≤ 12 ∧ 11 ≤ pb.toInt + (kk : Int)) : vx_Met l yX13_both (Cond.code yX13_both cX13_both 5 none :: tw_W) ({ frames := 40 * n + 11 + 2 * kk, cells := 0, slots := 0, locals := 28 * (40 * n + 11 + 2 * kk) }) (pc_ (dC, dI) (tyS cI cB cZ cJ cR) tb (mW ad N cI cZ cJ v) sz [.ref (ad 0), .int pa, .int pb]) (qv_ (dC, dI) (mW ad N cI cZ cJ v) sz (fun (u : MS) => FG [12, 15, 32, 33, 39, 43, 44, 45, 47, 48, 49, 50, 51] [0, 11, 13, 14, 35, 36, 37, 38, 40, 41, 42] v u ∧ ((v.1 0 47).toInt + 1 ≤ (u.1 0 47).toInt ∧ (u.1 0 47).toInt ≤ 1500) ∧ ((v.1 0 49).toInt ≠ (v.1 0 47).toInt) ∧ ((v.1 0 12).toInt ≤ (u.1 0 12).toInt ∧ (u.1 0 12).toInt - 15 * (u.1 0 47).toInt ≤ (v.1 0 12).toInt - 15 * (v.1 0 47).toInt + 5) ∧ ((v.1 0 15).toInt ≤ (u.1 0 15).toInt ∧ (u.1 0 15).toInt - 10 * (u.1 0 47).toInt ≤ (v.1 0 15).toInt - 10 * (v.1 0 47).toInt + 2) ∧ ((v.1 0 43).toInt ≤ (u.1 0 43).toInt ∧ (u.1 0 43).toInt - 15 * (u.1 0 47).toInt ≤ (v.1 0 43).toInt - 15 * (v.1 0 47).toInt) ∧ ((v.1 0 39).toInt ≤ (u.1 0 39).toInt ∧ (u.1 0 39).toInt - 1 * (u.1 0 47).toInt ≤ (v.1 0 39).toInt - 1 * (v.1 0 47).toInt) ∧ ((u.1 0 32).toInt = (v.1 0 32).toInt ∧ (u.1 0 48).toInt = (v.1 0 48).toInt) ∧ ((v.1 0 33).toInt ≤ (u.1 0 33).toInt ∧ (u.1 0 33).toInt ≤ 500) ∧ (∀ j : Nat, (j : Int) < (v.1 0 12).toInt → (u.1 11) j = (v.1 11) j) ∧ (∀ j : Nat, (j : Int) < (v.1 0 15).toInt → (u.1 13) j = (v.1 13) j) ∧ (∀ j : Nat, (j : Int) < (v.1 0 15).toInt → (u.1 14) j = (v.1 14) j) ∧ (AR 35 0 1500 u) ∧ (AR 37 0 23999 u) ∧ (AR 38 0 15999 u) ∧ (AR 40 0 23999 u) ∧ (FX u)) (fun (u : MS) => (mW ad N cI cZ cJ u))) (qxm (dC, dI) (mW ad N cI cZ cJ v) sz (fun (u : MS) => (mW ad N cI cZ cJ u)) (fun (u : MS) => Fr v u)) 0 0 (va_A (mW ad N cI cZ cJ v) sz) := by
  refine vx_ofW (cc := cX13_both) (maxL := 5) (ret := none) (by decide) rfl ?_
  intro p e s m args below meth c s₁ B hml hnt hv
  obtain ⟨rfl, hsz, hP, hKK, hD0, hFx⟩ := hv
  have hK := hKK.1
  have hx := B.exec
  have hb := B.bytes
  have hr := B.returns
  have ht : ∀ w ∈ tw_W, w.before _ s = true := fun w h => atoms_spec (ws := Cond.code yX13_both cX13_both 5 none :: tw_W) B.pre w (List.mem_cons_of_mem _ h)
  have hown : s.vm.findClass RX13 = some m.cls := findClass_of_methodNamed B.named
  have hlocks := B.notSynchronized
  subst hsz
  unfold qv_ qxm
  have hD := hD0.self (sz := s.heap.size)
  generalize hAe : va_A (mW ad N cI cZ cJ v) s.heap.size = A at hD hFx ⊢
  have hA : ∀ q : Nat, s.heap.size ≤ q → A q := fun q h => by rw [← hAe]; exact Or.inr h
  have hS : va_S A s.heap s.heap [] := va_S.rf
  have hl := lv_entry ([.ref (ad 0), .int pa, .int pb]) (n := 5) (Nat.le_of_ble_eq_true rfl)
  rw [lg_entry_eq]
  generalize (lg_sl ([.ref (ad 0), .int pa, .int pb]) ++ List.replicate (5 - (lg_sl ([.ref (ad 0), .int pa, .int pb])).length) Slot.unset).toArray = ls at hl ⊢
  have hl : lv_has ls 5 [(0, .ref (ad 0)), (1, .int pa), (2, .int pb)] := hl
  refine lv_iload_n hx hb dX13_both_0 rfl (lv_at hl 1 rfl) ?_
  refine lv_if_eq (tgt := 33) hx hb dX13_both_1 (by decide) (fun h1 => ?_) (fun h1 => ?_)
  · have z2 : pa.toInt = (0 : Int) := eq_z rfl (show (0 : Int32).toInt = (0 : Int) by decide) h1
    refine lv_aload_n hx hb dX13_both_33 rfl (lv_at hl 0 rfl) ?_
    refine lv_iconst (v := 1) hx hb dX13_both_34 (by decide) ?_
    refine lv_bipush (v := 10) hx hb dX13_both_35 (by decide) ?_
    refine lv_iconst (v := 0) hx hb dX13_both_37 (by decide) ?_
    refine lv_bipush (v := 8) hx hb dX13_both_38 (by decide) ?_
    refine cu_s (mW_nd _ _ _ _ _ _) (rn_S (n := 4) (As := [.int 1, .int 10, .int 0, .int 8]) (rest := [.ref (ad 0)]) hx hb hml hown ht hKK hFx hP hD hS hA (c_m_byB l dC dI cI cB cZ cJ cR tb s.heap.size (1 : Int32) (10 : Int32) (0 : Int32) (8 : Int32) ) tw_85 tw_86 (by decide +kernel) rfl rfl ⟨show 0 + 1 ≤ 40 * n + 11 + 2 * kk from om_e4a9a18e1f, show 8 + (4 + 11) + 0 ≤ 28 * (40 * n + 11 + 2 * kk) from om_acd50960ad⟩ [] rfl rfl rfl hl.1 rfl (Nat.le_of_ble_eq_true rfl) dX13_both_40 ⟨Nat.le_of_ble_eq_true rfl, Nat.le_of_ble_eq_true rfl⟩) hP hD hS hA (fun r5 H locs hw3 hP hD hS => ?_)
    refine W.widen (k := 0) (n := 0) (Nat.le_refl _) (Nat.le_refl _) ?_
    refine cu_i (rn_V (n := 1) (As := [.int r5]) (rest := []) hx hb hml hown ht hKK hFx hP hD hS hA (c_m_emit l dC dI cI cB cZ cJ cR tb H.size ad N v r5 (show 0 ≤ (v.1 0 12).toInt ∧ (v.1 0 12).toInt < 24000 from (om_d73dcb7bba zt zws))) tw_8 tw_9 (by decide +kernel) rfl rfl ⟨show 0 + 1 ≤ 40 * n + 11 + 2 * kk from om_e4a9a18e1f, show 8 + (2 + 11) + 0 ≤ 28 * (40 * n + 11 + 2 * kk) from om_569bd57a25⟩ (List.range (mW ad N cI cZ cJ v).length) (rg_map _) (mW_nd _ _ _ _ _ _) rfl rfl rfl rfl hl.1 rfl (Nat.le_of_ble_eq_true rfl) dX13_both_43 ⟨Nat.le_of_ble_eq_true rfl, Nat.le_of_ble_eq_true rfl⟩) hP hD hS hA (fun r8 u7 H locs hw6 hP hD hS => ?_)
    obtain ⟨rfl, rfl⟩ := hw6
    have z9 : ((v.1 0 12) + (1 : Int32)).toInt = ((v.1 0 12).toInt) + (1 : Int) := add_z rfl (show (1 : Int32).toInt = (1 : Int) by decide) (om_e59ca69203 zws) (om_8efe3d1605 zt zws)
    have hP : va_P (dC, dI) vwCl (mW ad N cI cZ cJ (wA (wA v 11 ((v.1 0 12).toNatClampNeg) r5) 0 12 ((v.1 0 12) + (1 : Int32)))) H := hP
    have hD : va_D A (mW ad N cI cZ cJ (wA (wA v 11 ((v.1 0 12).toNatClampNeg) r5) 0 12 ((v.1 0 12) + (1 : Int32)))) := hD
    refine tp_i (y := (v.1 0 12)) (rfl) ?_
    refine W.widen (k := 0) (n := 0) (Nat.le_refl _) (Nat.le_refl _) ?_
    refine lv_pop hx hb dX13_both_46 rfl ?_
    refine lv_aload_n hx hb dX13_both_47 rfl (lv_at hl 0 rfl) ?_
    refine lv_iconst (v := -1) hx hb dX13_both_48 (by decide) ?_
    refine cu_i (rn_V (n := 1) (As := [.int (-1)]) (rest := []) hx hb hml hown ht hKK hFx hP hD hS hA (c_m_wait l dC dI cI cB cZ cJ cR tb H.size ad N (wA (wA v 11 ((v.1 0 12).toNatClampNeg) r5) 0 12 ((v.1 0 12) + (1 : Int32))) (-1 : Int32) (show 0 ≤ ((v.1 0 12) + (1 : Int32)).toInt ∧ ((v.1 0 12) + (1 : Int32)).toInt < 24000 from (om_ac9c79b49b zt zws z9))) tw_122 tw_123 (by decide +kernel) rfl rfl ⟨show 1 + 1 ≤ 40 * n + 11 + 2 * kk from om_9c725438dc, show 8 + (2 + 11) + 21 ≤ 28 * (40 * n + 11 + 2 * kk) from om_95fef24b7a⟩ (List.range (mW ad N cI cZ cJ (wA (wA v 11 ((v.1 0 12).toNatClampNeg) r5) 0 12 ((v.1 0 12) + (1 : Int32)))).length) (rg_map _) (mW_nd _ _ _ _ _ _) rfl rfl rfl rfl hl.1 rfl (Nat.le_of_ble_eq_true rfl) dX13_both_49 ⟨Nat.le_of_ble_eq_true rfl, Nat.le_of_ble_eq_true rfl⟩) hP hD hS hA (fun r12 u11 H locs hw10 hP hD hS => ?_)
    obtain ⟨rfl, rfl⟩ := hw10
    have z13 : (((v.1 0 12) + (1 : Int32)) + (1 : Int32)).toInt = (((v.1 0 12).toInt) + (1 : Int)) + (1 : Int) := add_z z9 (show (1 : Int32).toInt = (1 : Int) by decide) (om_0f1b353838 zws) (om_ef70f26e53 zt zws)
    have hP : va_P (dC, dI) vwCl (mW ad N cI cZ cJ (wA (wA (wA (wA v 11 ((v.1 0 12).toNatClampNeg) r5) 0 12 ((v.1 0 12) + (1 : Int32))) 11 (((v.1 0 12) + (1 : Int32)).toNatClampNeg) (-1 : Int32)) 0 12 (((v.1 0 12) + (1 : Int32)) + (1 : Int32)))) H := hP
    have hD : va_D A (mW ad N cI cZ cJ (wA (wA (wA (wA v 11 ((v.1 0 12).toNatClampNeg) r5) 0 12 ((v.1 0 12) + (1 : Int32))) 11 (((v.1 0 12) + (1 : Int32)).toNatClampNeg) (-1 : Int32)) 0 12 (((v.1 0 12) + (1 : Int32)) + (1 : Int32)))) := hD
    refine tp_i (y := ((v.1 0 12) + (1 : Int32))) (rfl) ?_
    refine W.widen (k := 0) (n := 0) (Nat.le_refl _) (Nat.le_refl _) ?_
    refine lv_istore (lv' := [(4, .int ((v.1 0 12) + (1 : Int32))), (0, .ref (ad 0)), (1, .int pa), (2, .int pb)]) hx hb dX13_both_52 hl (by decide) rfl (fun ls hl => ?_)
    refine lv_aload_n hx hb dX13_both_54 rfl (lv_at hl 1 rfl) ?_
    refine lv_iload_n hx hb dX13_both_55 rfl (lv_at hl 2 rfl) ?_
    refine lv_if_eq (tgt := 64) hx hb dX13_both_56 (by decide) (fun h14 => ?_) (fun h14 => ?_)
    · have z15 : pa.toInt = (0 : Int) := eq_z rfl (show (0 : Int32).toInt = (0 : Int) by decide) h14
      refine lv_bipush (v := 22) hx hb dX13_both_64 (by decide) ?_
      refine lv_iconst (v := 0) hx hb dX13_both_66 (by decide) ?_
      refine cu_i (rn_V (n := 2) (As := [.int 22, .int 0]) (rest := []) hx hb hml hown ht hKK hFx hP hD hS hA (c_m_say l dC dI cI cB cZ cJ cR tb H.size ad N (wA (wA (wA (wA v 11 ((v.1 0 12).toNatClampNeg) r5) 0 12 ((v.1 0 12) + (1 : Int32))) 11 (((v.1 0 12) + (1 : Int32)).toNatClampNeg) (-1 : Int32)) 0 12 (((v.1 0 12) + (1 : Int32)) + (1 : Int32))) (22 : Int32) (0 : Int32) (show 0 ≤ (v.1 0 15).toInt ∧ (v.1 0 15).toInt < 16000 from (om_29aa3f96d3 zt zos))) tw_59 tw_60 (by decide +kernel) rfl rfl ⟨show 0 + 1 ≤ 40 * n + 11 + 2 * kk from om_e4a9a18e1f, show 8 + (3 + 11) + 0 ≤ 28 * (40 * n + 11 + 2 * kk) from om_2a7d26e2ca⟩ (List.range (mW ad N cI cZ cJ (wA (wA (wA (wA v 11 ((v.1 0 12).toNatClampNeg) r5) 0 12 ((v.1 0 12) + (1 : Int32))) 11 (((v.1 0 12) + (1 : Int32)).toNatClampNeg) (-1 : Int32)) 0 12 (((v.1 0 12) + (1 : Int32)) + (1 : Int32)))).length) (rg_map _) (mW_nd _ _ _ _ _ _) rfl rfl rfl rfl hl.1 rfl (Nat.le_of_ble_eq_true rfl) dX13_both_67 ⟨Nat.le_of_ble_eq_true rfl, Nat.le_of_ble_eq_true rfl⟩) hP hD hS hA (fun r18 u17 H locs hw16 hP hD hS => ?_)
      obtain ⟨rfl, rfl⟩ := hw16
      have z19 : ((v.1 0 15) + (1 : Int32)).toInt = ((v.1 0 15).toInt) + (1 : Int) := add_z rfl (show (1 : Int32).toInt = (1 : Int) by decide) (om_0fdaa42459 zos) (om_09a043d2b4 zt zos)
      have hP : va_P (dC, dI) vwCl (mW ad N cI cZ cJ (wA (wA (wA (wA (wA (wA (wA v 11 ((v.1 0 12).toNatClampNeg) r5) 0 12 ((v.1 0 12) + (1 : Int32))) 11 (((v.1 0 12) + (1 : Int32)).toNatClampNeg) (-1 : Int32)) 0 12 (((v.1 0 12) + (1 : Int32)) + (1 : Int32))) 13 ((v.1 0 15).toNatClampNeg) (22 : Int32)) 14 ((v.1 0 15).toNatClampNeg) (0 : Int32)) 0 15 ((v.1 0 15) + (1 : Int32)))) H := hP
      have hD : va_D A (mW ad N cI cZ cJ (wA (wA (wA (wA (wA (wA (wA v 11 ((v.1 0 12).toNatClampNeg) r5) 0 12 ((v.1 0 12) + (1 : Int32))) 11 (((v.1 0 12) + (1 : Int32)).toNatClampNeg) (-1 : Int32)) 0 12 (((v.1 0 12) + (1 : Int32)) + (1 : Int32))) 13 ((v.1 0 15).toNatClampNeg) (22 : Int32)) 14 ((v.1 0 15).toNatClampNeg) (0 : Int32)) 0 15 ((v.1 0 15) + (1 : Int32)))) := hD
      refine tp_i (y := (v.1 0 15)) (rfl) ?_
      refine W.widen (k := 0) (n := 0) (Nat.le_refl _) (Nat.le_refl _) ?_
      obtain ⟨u20, hu21⟩ : ∃ z, z = (wA (wA (wA (wA (wA (wA (wA v 11 ((v.1 0 12).toNatClampNeg) r5) 0 12 ((v.1 0 12) + (1 : Int32))) 11 (((v.1 0 12) + (1 : Int32)).toNatClampNeg) (-1 : Int32)) 0 12 (((v.1 0 12) + (1 : Int32)) + (1 : Int32))) 13 ((v.1 0 15).toNatClampNeg) (22 : Int32)) 14 ((v.1 0 15).toNatClampNeg) (0 : Int32)) 0 15 ((v.1 0 15) + (1 : Int32))) := ⟨_, rfl⟩
      have fr21 : FG [12, 15] [0, 11, 13, 14] v u20 := by rw [hu21]; exact (FG.f (FG.a (FG.a (FG.f (FG.a (FG.f (FG.a (FG.rf _) ((v.1 0 12).toNatClampNeg) r5 (by decide) (by decide)) ((v.1 0 12) + (1 : Int32)) (by decide)) (((v.1 0 12) + (1 : Int32)).toNatClampNeg) (-1 : Int32) (by decide) (by decide)) (((v.1 0 12) + (1 : Int32)) + (1 : Int32)) (by decide)) ((v.1 0 15).toNatClampNeg) (22 : Int32) (by decide) (by decide)) ((v.1 0 15).toNatClampNeg) (0 : Int32) (by decide) (by decide)) ((v.1 0 15) + (1 : Int32)) (by decide))
      have kc21 : ∀ j : Nat, (j : Int) < (v.1 0 12).toInt → (u20.1 11) j = (v.1 11) j := by rw [hu21]; exact (fun (j9 : Nat) hj9 => (Eq.trans (pk_un3 (a := ((v.1 0 12) + (1 : Int32)).toInt) rfl (om_16f6448e32 zws z9) (om_56bf42079b z9 hj9)) (pk_un3 (a := (v.1 0 12).toInt) rfl (om_1fb4ad29f5 zws) (om_4fe904e9bf hj9))))
      have ko21 : ∀ j : Nat, (j : Int) < (v.1 0 15).toInt → (u20.1 13) j = (v.1 13) j := by rw [hu21]; exact (fun (j9 : Nat) hj9 => (pk_un3 (a := (v.1 0 15).toInt) rfl (om_cd2a109470 zos) (om_4fe904e9bf hj9)))
      have kg21 : ∀ j : Nat, (j : Int) < (v.1 0 15).toInt → (u20.1 14) j = (v.1 14) j := by rw [hu21]; exact (fun (j9 : Nat) hj9 => (pk_un3 (a := (v.1 0 15).toInt) rfl (om_cd2a109470 zos) (om_4fe904e9bf hj9)))
      rw [← hu21] at hP hD
      refine lv_istore_n (lv' := [(3, .int (v.1 0 15)), (4, .int ((v.1 0 12) + (1 : Int32))), (0, .ref (ad 0)), (1, .int pa), (2, .int pb)]) hx hb dX13_both_70 rfl hl (by decide) rfl (fun ls hl => ?_)
      refine lv_aload_n hx hb dX13_both_71 rfl (lv_at hl 2 rfl) ?_
      refine lv_iload_n hx hb dX13_both_72 rfl (lv_at hl 4 rfl) ?_
      refine lv_iconst (v := 0) hx hb dX13_both_73 (by decide) ?_
      have q22 : (u20.1 0 48).toInt = (v.1 0 48).toInt := congrArg Int32.toInt (fr21.2.1 48 (by decide))
      have q23 : (u20.1 0 47).toInt = (v.1 0 47).toInt := congrArg Int32.toInt (fr21.2.1 47 (by decide))
      have q24 : (u20.1 0 30).toInt = (v.1 0 30).toInt := congrArg Int32.toInt (fr21.2.1 30 (by decide))
      have q25 : (u20.1 0 33).toInt = (v.1 0 33).toInt := congrArg Int32.toInt (fr21.2.1 33 (by decide))
      have q26 : (u20.1 0 32).toInt = (v.1 0 32).toInt := congrArg Int32.toInt (fr21.2.1 32 (by decide))
      have q27 : (u20.1 0 12).toInt = ((((v.1 0 12).toInt) + (1 : Int)) + (1 : Int)) := by rw [hu21]; exact (show (((v.1 0 12) + (1 : Int32)) + (1 : Int32)).toInt = ((((v.1 0 12).toInt) + (1 : Int)) + (1 : Int)) from z13)
      have q28 : (u20.1 0 15).toInt = (((v.1 0 15).toInt) + (1 : Int)) := by rw [hu21]; exact (show ((v.1 0 15) + (1 : Int32)).toInt = (((v.1 0 15).toInt) + (1 : Int)) from z19)
      have q29 : (u20.1 0 43).toInt = (v.1 0 43).toInt := congrArg Int32.toInt (fr21.2.1 43 (by decide))
      have q30 : (u20.1 0 39).toInt = (v.1 0 39).toInt := congrArg Int32.toInt (fr21.2.1 39 (by decide))
      have q31 : (u20.1 0 27).toInt = (v.1 0 27).toInt := congrArg Int32.toInt (fr21.2.1 27 (by decide))
      refine cux_v (rx_V (n := 2) (As := [.int pb, .int 0]) (rest := []) hx hb hml hown ht hKK hFx hP hD hS hA (J dC dI cI cB cZ cJ cR tb H.size ad N u20 pb (0 : Int32) (show 40 ≤ (u20.1 0 48).toInt + (n : Int) from (om_2d3a9cf1da zn q22)) (show 0 ≤ (u20.1 0 47).toInt ∧ (u20.1 0 47).toInt ≤ 1500 from (om_cbb7fa6a05 zt zws q23)) (show 0 ≤ (u20.1 0 48).toInt ∧ (u20.1 0 48).toInt ≤ 40 from (om_99e115f631 zop q22)) (show 0 ≤ (u20.1 0 30).toInt ∧ (u20.1 0 30).toInt ≤ 500 from (om_f8376ff89c zkn q24)) (show 0 ≤ (u20.1 0 33).toInt ∧ (u20.1 0 33).toInt ≤ 500 from (om_f8376ff89c zhi q25)) (show 0 ≤ (u20.1 0 32).toInt ∧ (u20.1 0 30).toInt + (u20.1 0 32).toInt ≤ (u20.1 0 33).toInt from (om_2af3a22bf6 zs q24 q26 q25)) (show 0 ≤ (u20.1 0 12).toInt ∧ (u20.1 0 12).toInt ≤ 15 * (u20.1 0 47).toInt + 2 from (om_8b3033b213 zws q27 q23)) (show 0 ≤ (u20.1 0 15).toInt ∧ (u20.1 0 15).toInt ≤ 10 * (u20.1 0 47).toInt + 0 from (om_2747ba7112 zos q28 q23)) (show 0 ≤ (u20.1 0 43).toInt ∧ (u20.1 0 43).toInt ≤ 15 * (u20.1 0 47).toInt + 0 from (om_1540b29cc3 zfs q29 q23)) (show 0 ≤ (u20.1 0 39).toInt ∧ (u20.1 0 39).toInt ≤ 1 * (u20.1 0 47).toInt + 0 from (om_4624cec051 zcs q30 q23)) (show 0 ≤ (u20.1 0 27).toInt ∧ (u20.1 0 27).toInt ≤ 60 from (om_385c0d8cae zgl q31)) (show TI u20 from FG.ti (fl := pfl) (al := pal) (FG.tr (FG.rf _) (FG.up fr21 (by decide) (by decide))) (by decide) (by decide) hT) (show AR 29 0 1500 u20 from (show AR 29 0 1500 u20 from AR.fr (fl := [12, 15]) (al := [0, 11, 13, 14]) fr21 (by decide) a29)) (show AR 23 0 1500 u20 from (show AR 23 0 1500 u20 from AR.fr (fl := [12, 15]) (al := [0, 11, 13, 14]) fr21 (by decide) a23)) (show AR 35 0 1500 u20 from (show AR 35 0 1500 u20 from AR.fr (fl := [12, 15]) (al := [0, 11, 13, 14]) fr21 (by decide) a35)) (show AR 37 0 23999 u20 from (show AR 37 0 23999 u20 from AR.fr (fl := [12, 15]) (al := [0, 11, 13, 14]) fr21 (by decide) a37)) (show AR 38 0 15999 u20 from (show AR 38 0 15999 u20 from AR.fr (fl := [12, 15]) (al := [0, 11, 13, 14]) fr21 (by decide) a38)) (show AR 40 0 23999 u20 from (show AR 40 0 23999 u20 from AR.fr (fl := [12, 15]) (al := [0, 11, 13, 14]) fr21 (by decide) a40)) (show FX u20 from (show FX u20 from FX.fr (fl := [12, 15]) (al := [0, 11, 13, 14]) fr21 (by decide) (by decide) fx)) (show 1 ≤ pb.toInt ∧ pb.toInt ≤ 12 ∧ 11 ≤ pb.toInt + (kk : Int) from (om_286b450281 zl))) tw_124 tw_125 (by decide +kernel) rfl rfl ⟨show (40 * n + 10 + 2 * kk) + 1 ≤ 40 * n + 11 + 2 * kk from om_3e067a920a, show 8 + (6 + 11) + 28 * (40 * n + 10 + 2 * kk) ≤ 28 * (40 * n + 11 + 2 * kk) from om_1b9945aa0a⟩ (List.range (mW ad N cI cZ cJ u20).length) (rg_map _) (mW_nd _ _ _ _ _ _) rfl rfl rfl rfl hl.1 rfl (Nat.le_of_ble_eq_true rfl) dX13_both_74 ⟨Nat.le_of_ble_eq_true rfl, Nat.le_of_ble_eq_true rfl⟩) hP hD hS hA (fun u9 ce9 q9 H locs hx9 hP hD hS hc9 hv9 hf9 => ?_) (fun u33 H locs hw32 hP hD hS => ?_)
      · exact vx_out (fun x h9 => (hnt x h9).elim) hlocks hc9 hv9 hf9 (fun t9 ht9 hv8 => ⟨u9, (FG.tr (FG.tr (FG.rf _) (FG.up fr21 (by decide) (by decide))) hx9), ⟨rfl, by rw [ht9]; exact hP, hD⟩, hS.F ht9⟩) hS.2.2 (Nat.le_refl _) (Nat.le_refl _)
      obtain ⟨fr32, pt32, pb32, pw32, po32, pf32, pk32, pp32, ph32, kc32, ko32, kg32, a3532, a3732, a3832, a4032, fx32⟩ := hw32
      have pt32 : (u20.1 0 47).toInt + 0 ≤ (u33.1 0 47).toInt ∧ (u33.1 0 47).toInt ≤ 1500 := pt32
      have pb32 : (0 : Int) ≠ 0 ∨ ((u20.1 0 47).toInt + 1 ≤ (u33.1 0 47).toInt ∧ (u20.1 0 49).toInt ≠ (u20.1 0 47).toInt) := pb32
      have pw32 : (u20.1 0 12).toInt ≤ (u33.1 0 12).toInt ∧ (u33.1 0 12).toInt - 15 * (u33.1 0 47).toInt ≤ (u20.1 0 12).toInt - 15 * (u20.1 0 47).toInt := pw32
      have po32 : (u20.1 0 15).toInt ≤ (u33.1 0 15).toInt ∧ (u33.1 0 15).toInt - 10 * (u33.1 0 47).toInt ≤ (u20.1 0 15).toInt - 10 * (u20.1 0 47).toInt := po32
      have pf32 : (u20.1 0 43).toInt ≤ (u33.1 0 43).toInt ∧ (u33.1 0 43).toInt - 15 * (u33.1 0 47).toInt ≤ (u20.1 0 43).toInt - 15 * (u20.1 0 47).toInt := pf32
      have pk32 : (u20.1 0 39).toInt ≤ (u33.1 0 39).toInt ∧ (u33.1 0 39).toInt - 1 * (u33.1 0 47).toInt ≤ (u20.1 0 39).toInt - 1 * (u20.1 0 47).toInt := pk32
      have pp32 : (u33.1 0 32).toInt = (u20.1 0 32).toInt ∧ (u33.1 0 48).toInt = (u20.1 0 48).toInt := pp32
      have ph32 : (u20.1 0 33).toInt ≤ (u33.1 0 33).toInt ∧ (u33.1 0 33).toInt ≤ 500 := ph32
      have kc32 : ∀ j : Nat, (j : Int) < (u20.1 0 12).toInt → (u33.1 11) j = (u20.1 11) j := kc32
      have ko32 : ∀ j : Nat, (j : Int) < (u20.1 0 15).toInt → (u33.1 13) j = (u20.1 13) j := ko32
      have kg32 : ∀ j : Nat, (j : Int) < (u20.1 0 15).toInt → (u33.1 14) j = (u20.1 14) j := kg32
      have a3532 : AR 35 0 1500 u33 := a3532
      have a3732 : AR 37 0 23999 u33 := a3732
      have a3832 : AR 38 0 15999 u33 := a3832
      have a4032 : AR 40 0 23999 u33 := a4032
      have fx32 : FX u33 := fx32
      refine W.widen (k := 0) (n := 0) (Nat.le_refl _) (Nat.le_refl _) ?_
      refine lv_aload_n hx hb dX13_both_77 rfl (lv_at hl 2 rfl) ?_
      refine lv_iconst (v := 0) hx hb dX13_both_78 (by decide) ?_
      refine lv_iconst (v := 3) hx hb dX13_both_79 (by decide) ?_
      refine lv_bipush (v := 10) hx hb dX13_both_80 (by decide) ?_
      refine lv_iconst (v := 0) hx hb dX13_both_82 (by decide) ?_
      refine lv_bipush (v := 10) hx hb dX13_both_83 (by decide) ?_
      refine cu_s (mW_nd _ _ _ _ _ _) (rn_S (n := 5) (As := [.int 0, .int 3, .int 10, .int 0, .int 10]) (rest := [.ref (ad 0)]) hx hb hml hown ht hKK hFx hP hD hS hA (c_m_byR l dC dI cI cB cZ cJ cR tb H.size (0 : Int32) (3 : Int32) (10 : Int32) (0 : Int32) (10 : Int32) ) tw_67 tw_68 (by decide +kernel) rfl rfl ⟨show 0 + 1 ≤ 40 * n + 11 + 2 * kk from om_e4a9a18e1f, show 8 + (5 + 11) + 0 ≤ 28 * (40 * n + 11 + 2 * kk) from om_aba1db7891⟩ [] rfl rfl rfl hl.1 rfl (Nat.le_of_ble_eq_true rfl) dX13_both_85 ⟨Nat.le_of_ble_eq_true rfl, Nat.le_of_ble_eq_true rfl⟩) hP hD hS hA (fun r37 H locs hw35 hP hD hS => ?_)
      refine W.widen (k := 0) (n := 0) (Nat.le_refl _) (Nat.le_refl _) ?_
      refine cu_i (rn_V (n := 1) (As := [.int r37]) (rest := []) hx hb hml hown ht hKK hFx hP hD hS hA (c_m_emit l dC dI cI cB cZ cJ cR tb H.size ad N u33 r37 (show 0 ≤ (u33.1 0 12).toInt ∧ (u33.1 0 12).toInt < 24000 from (om_0810d28b1a zws q27 q23 pt32 pw32))) tw_8 tw_9 (by decide +kernel) rfl rfl ⟨show 0 + 1 ≤ 40 * n + 11 + 2 * kk from om_e4a9a18e1f, show 8 + (2 + 11) + 0 ≤ 28 * (40 * n + 11 + 2 * kk) from om_569bd57a25⟩ (List.range (mW ad N cI cZ cJ u33).length) (rg_map _) (mW_nd _ _ _ _ _ _) rfl rfl rfl rfl hl.1 rfl (Nat.le_of_ble_eq_true rfl) dX13_both_88 ⟨Nat.le_of_ble_eq_true rfl, Nat.le_of_ble_eq_true rfl⟩) hP hD hS hA (fun r40 u39 H locs hw38 hP hD hS => ?_)
      obtain ⟨rfl, rfl⟩ := hw38
      have z41 : ((u33.1 0 12) + (1 : Int32)).toInt = ((u33.1 0 12).toInt) + (1 : Int) := add_z rfl (show (1 : Int32).toInt = (1 : Int) by decide) (om_6d17d97476 zws q27 pw32) (om_6dafd20439 zws q27 q23 pt32 pw32)
      have hP : va_P (dC, dI) vwCl (mW ad N cI cZ cJ (wA (wA u33 11 ((u33.1 0 12).toNatClampNeg) r37) 0 12 ((u33.1 0 12) + (1 : Int32)))) H := hP
      have hD : va_D A (mW ad N cI cZ cJ (wA (wA u33 11 ((u33.1 0 12).toNatClampNeg) r37) 0 12 ((u33.1 0 12) + (1 : Int32)))) := hD
      refine tp_i (y := (u33.1 0 12)) (rfl) ?_
      refine W.widen (k := 0) (n := 0) (Nat.le_refl _) (Nat.le_refl _) ?_
      refine lv_pop hx hb dX13_both_91 rfl ?_
      refine lv_aload_n hx hb dX13_both_92 rfl (lv_at hl 2 rfl) ?_
      refine lv_bipush (v := 24) hx hb dX13_both_93 (by decide) ?_
      refine lv_iconst (v := 0) hx hb dX13_both_95 (by decide) ?_
      refine cu_i (rn_V (n := 2) (As := [.int 24, .int 0]) (rest := []) hx hb hml hown ht hKK hFx hP hD hS hA (c_m_say l dC dI cI cB cZ cJ cR tb H.size ad N (wA (wA u33 11 ((u33.1 0 12).toNatClampNeg) r37) 0 12 ((u33.1 0 12) + (1 : Int32))) (24 : Int32) (0 : Int32) (show 0 ≤ (u33.1 0 15).toInt ∧ (u33.1 0 15).toInt < 16000 from (om_ab1d49cf04 zos q28 q23 pt32 po32))) tw_59 tw_60 (by decide +kernel) rfl rfl ⟨show 0 + 1 ≤ 40 * n + 11 + 2 * kk from om_e4a9a18e1f, show 8 + (3 + 11) + 0 ≤ 28 * (40 * n + 11 + 2 * kk) from om_2a7d26e2ca⟩ (List.range (mW ad N cI cZ cJ (wA (wA u33 11 ((u33.1 0 12).toNatClampNeg) r37) 0 12 ((u33.1 0 12) + (1 : Int32)))).length) (rg_map _) (mW_nd _ _ _ _ _ _) rfl rfl rfl rfl hl.1 rfl (Nat.le_of_ble_eq_true rfl) dX13_both_96 ⟨Nat.le_of_ble_eq_true rfl, Nat.le_of_ble_eq_true rfl⟩) hP hD hS hA (fun r44 u43 H locs hw42 hP hD hS => ?_)
      obtain ⟨rfl, rfl⟩ := hw42
      have z45 : ((u33.1 0 15) + (1 : Int32)).toInt = ((u33.1 0 15).toInt) + (1 : Int) := add_z rfl (show (1 : Int32).toInt = (1 : Int) by decide) (om_c0ed907fe3 zos q28 po32) (om_44216e30ae zos q28 q23 pt32 po32)
      have hP : va_P (dC, dI) vwCl (mW ad N cI cZ cJ (wA (wA (wA (wA (wA u33 11 ((u33.1 0 12).toNatClampNeg) r37) 0 12 ((u33.1 0 12) + (1 : Int32))) 13 ((u33.1 0 15).toNatClampNeg) (24 : Int32)) 14 ((u33.1 0 15).toNatClampNeg) (0 : Int32)) 0 15 ((u33.1 0 15) + (1 : Int32)))) H := hP
      have hD : va_D A (mW ad N cI cZ cJ (wA (wA (wA (wA (wA u33 11 ((u33.1 0 12).toNatClampNeg) r37) 0 12 ((u33.1 0 12) + (1 : Int32))) 13 ((u33.1 0 15).toNatClampNeg) (24 : Int32)) 14 ((u33.1 0 15).toNatClampNeg) (0 : Int32)) 0 15 ((u33.1 0 15) + (1 : Int32)))) := hD
      refine tp_i (y := (u33.1 0 15)) (rfl) ?_
      refine W.widen (k := 0) (n := 0) (Nat.le_refl _) (Nat.le_refl _) ?_
      refine lv_pop hx hb dX13_both_99 rfl ?_
      refine lv_aload_n hx hb dX13_both_100 rfl (lv_at hl 2 rfl) ?_
      refine lv_iload hx hb dX13_both_101 (lv_at hl 1 rfl) ?_
      refine lv_iconst (v := 0) hx hb dX13_both_103 (by decide) ?_
      refine lv_aload_n hx hb dX13_both_104 rfl (lv_at hl 2 rfl) ?_
      refine va_get (D := (dC, dI)) (ci := 16) (fs := mF ad (wA (wA (wA (wA (wA u33 11 ((u33.1 0 12).toNatClampNeg) r37) 0 12 ((u33.1 0 12) + (1 : Int32))) 13 ((u33.1 0 15).toNatClampNeg) (24 : Int32)) 14 ((u33.1 0 15).toNatClampNeg) (0 : Int32)) 0 15 ((u33.1 0 15) + (1 : Int32)))) (v := .int ((u33.1 0 12) + (1 : Int32))) (C := RX13) (T := TX13) (N := 124) hx hb ht itX13 hown hK hP 0 rfl rfl 12 (by decide) (ht _ tw_7) (fun _ h9 => h9) rfl dX13_both_105 ?_
      refine cu_v (rn_V (n := 3) (As := [.int ((v.1 0 12) + (1 : Int32)), .int 0, .int ((u33.1 0 12) + (1 : Int32))]) (rest := []) hx hb hml hown ht hKK hFx hP hD hS hA (c_m_jump l dC dI cI cB cZ cJ cR tb H.size ad N (wA (wA (wA (wA (wA u33 11 ((u33.1 0 12).toNatClampNeg) r37) 0 12 ((u33.1 0 12) + (1 : Int32))) 13 ((u33.1 0 15).toNatClampNeg) (24 : Int32)) 14 ((u33.1 0 15).toNatClampNeg) (0 : Int32)) 0 15 ((u33.1 0 15) + (1 : Int32))) ((v.1 0 12) + (1 : Int32)) (0 : Int32) ((u33.1 0 12) + (1 : Int32)) (show 0 ≤ ((v.1 0 12) + (1 : Int32)).toInt ∧ ((v.1 0 12) + (1 : Int32)).toInt < 24000 from (om_ac9c79b49b zt zws z9))) tw_126 tw_127 (by decide +kernel) rfl rfl ⟨show 1 + 1 ≤ 40 * n + 11 + 2 * kk from om_9c725438dc, show 8 + (4 + 11) + 21 ≤ 28 * (40 * n + 11 + 2 * kk) from om_d6b6deaa64⟩ (List.range (mW ad N cI cZ cJ (wA (wA (wA (wA (wA u33 11 ((u33.1 0 12).toNatClampNeg) r37) 0 12 ((u33.1 0 12) + (1 : Int32))) 13 ((u33.1 0 15).toNatClampNeg) (24 : Int32)) 14 ((u33.1 0 15).toNatClampNeg) (0 : Int32)) 0 15 ((u33.1 0 15) + (1 : Int32)))).length) (rg_map _) (mW_nd _ _ _ _ _ _) rfl rfl rfl rfl hl.1 rfl (Nat.le_of_ble_eq_true rfl) dX13_both_108 ⟨Nat.le_of_ble_eq_true rfl, Nat.le_of_ble_eq_true rfl⟩) hP hD hS hA (fun u47 H locs hw46 hP hD hS => ?_)
      obtain ⟨x49, rfl⟩ := hw46
      have hP : va_P (dC, dI) vwCl (mW ad N cI cZ cJ (wA (wA (wA (wA (wA (wA u33 11 ((u33.1 0 12).toNatClampNeg) r37) 0 12 ((u33.1 0 12) + (1 : Int32))) 13 ((u33.1 0 15).toNatClampNeg) (24 : Int32)) 14 ((u33.1 0 15).toNatClampNeg) (0 : Int32)) 0 15 ((u33.1 0 15) + (1 : Int32))) 11 (((v.1 0 12) + (1 : Int32)).toNatClampNeg) x49)) H := hP
      have hD : va_D A (mW ad N cI cZ cJ (wA (wA (wA (wA (wA (wA u33 11 ((u33.1 0 12).toNatClampNeg) r37) 0 12 ((u33.1 0 12) + (1 : Int32))) 13 ((u33.1 0 15).toNatClampNeg) (24 : Int32)) 14 ((u33.1 0 15).toNatClampNeg) (0 : Int32)) 0 15 ((u33.1 0 15) + (1 : Int32))) 11 (((v.1 0 12) + (1 : Int32)).toNatClampNeg) x49)) := hD
      refine W.widen (k := 0) (n := 0) (Nat.le_refl _) (Nat.le_refl _) ?_
      refine lv_aload_n hx hb dX13_both_111 rfl (lv_at hl 2 rfl) ?_
      refine va_get (D := (dC, dI)) (ci := 16) (fs := mF ad (wA (wA (wA (wA (wA (wA u33 11 ((u33.1 0 12).toNatClampNeg) r37) 0 12 ((u33.1 0 12) + (1 : Int32))) 13 ((u33.1 0 15).toNatClampNeg) (24 : Int32)) 14 ((u33.1 0 15).toNatClampNeg) (0 : Int32)) 0 15 ((u33.1 0 15) + (1 : Int32))) 11 (((v.1 0 12) + (1 : Int32)).toNatClampNeg) x49)) (v := .ref (ad 14)) (C := RX13) (T := TX13) (N := 124) hx hb ht itX13 hown hK hP 0 rfl rfl 14 (by decide) (ht _ tw_12) (fun _ h9 => h9) rfl dX13_both_112 ?_
      refine lv_iload_n hx hb dX13_both_115 rfl (lv_at hl 0 rfl) ?_
      refine lv_aload_n hx hb dX13_both_116 rfl (lv_at hl 2 rfl) ?_
      refine va_get (D := (dC, dI)) (ci := 16) (fs := mF ad (wA (wA (wA (wA (wA (wA u33 11 ((u33.1 0 12).toNatClampNeg) r37) 0 12 ((u33.1 0 12) + (1 : Int32))) 13 ((u33.1 0 15).toNatClampNeg) (24 : Int32)) 14 ((u33.1 0 15).toNatClampNeg) (0 : Int32)) 0 15 ((u33.1 0 15) + (1 : Int32))) 11 (((v.1 0 12) + (1 : Int32)).toNatClampNeg) x49)) (v := .int ((u33.1 0 15) + (1 : Int32))) (C := RX13) (T := TX13) (N := 124) hx hb ht itX13 hown hK hP 0 rfl rfl 15 (by decide) (ht _ tw_11) (fun _ h9 => h9) rfl dX13_both_117 ?_
      refine va_iast (D := (dC, dI)) (f := (upd (u33.1 14) ((u33.1 0 15).toNatClampNeg) (0 : Int32))) hx hb hK hP hD hS 10 0 rfl rfl (in_y (a := (v.1 0 15).toInt) (b := 16000) rfl (om_cd2a109470 zos) (om_df344c3ca1 zt zos) rfl) dX13_both_120 (fun H locs hP hD hS => ?_)
      have hP := cP_ (ma_14 ad N cI cZ cJ (wA (wA (wA (wA (wA (wA u33 11 ((u33.1 0 12).toNatClampNeg) r37) 0 12 ((u33.1 0 12) + (1 : Int32))) 13 ((u33.1 0 15).toNatClampNeg) (24 : Int32)) 14 ((u33.1 0 15).toNatClampNeg) (0 : Int32)) 0 15 ((u33.1 0 15) + (1 : Int32))) 11 (((v.1 0 12) + (1 : Int32)).toNatClampNeg) x49) ((v.1 0 15).toNatClampNeg) ((u33.1 0 15) + (1 : Int32))) hP
      have hD := cD_ (ma_14 ad N cI cZ cJ (wA (wA (wA (wA (wA (wA u33 11 ((u33.1 0 12).toNatClampNeg) r37) 0 12 ((u33.1 0 12) + (1 : Int32))) 13 ((u33.1 0 15).toNatClampNeg) (24 : Int32)) 14 ((u33.1 0 15).toNatClampNeg) (0 : Int32)) 0 15 ((u33.1 0 15) + (1 : Int32))) 11 (((v.1 0 12) + (1 : Int32)).toNatClampNeg) x49) ((v.1 0 15).toNatClampNeg) ((u33.1 0 15) + (1 : Int32))) hD
      obtain ⟨u50, hu51⟩ : ∃ z, z = (wA (wA (wA (wA (wA (wA (wA u33 11 ((u33.1 0 12).toNatClampNeg) r37) 0 12 ((u33.1 0 12) + (1 : Int32))) 13 ((u33.1 0 15).toNatClampNeg) (24 : Int32)) 14 ((u33.1 0 15).toNatClampNeg) (0 : Int32)) 0 15 ((u33.1 0 15) + (1 : Int32))) 11 (((v.1 0 12) + (1 : Int32)).toNatClampNeg) x49) 14 ((v.1 0 15).toNatClampNeg) ((u33.1 0 15) + (1 : Int32))) := ⟨_, rfl⟩
      have fr51 : FG [12, 15] [0, 11, 13, 14] u33 u50 := by rw [hu51]; exact (FG.a (FG.a (FG.f (FG.a (FG.a (FG.f (FG.a (FG.rf _) ((u33.1 0 12).toNatClampNeg) r37 (by decide) (by decide)) ((u33.1 0 12) + (1 : Int32)) (by decide)) ((u33.1 0 15).toNatClampNeg) (24 : Int32) (by decide) (by decide)) ((u33.1 0 15).toNatClampNeg) (0 : Int32) (by decide) (by decide)) ((u33.1 0 15) + (1 : Int32)) (by decide)) (((v.1 0 12) + (1 : Int32)).toNatClampNeg) x49 (by decide) (by decide)) ((v.1 0 15).toNatClampNeg) ((u33.1 0 15) + (1 : Int32)) (by decide) (by decide))
      have kc51 : ∀ j : Nat, (j : Int) < (v.1 0 12).toInt → (u50.1 11) j = (v.1 11) j := by rw [hu51]; exact (fun (j9 : Nat) hj9 => (Eq.trans (pk_un3 (a := ((v.1 0 12) + (1 : Int32)).toInt) rfl (om_16f6448e32 zws z9) (om_56bf42079b z9 hj9)) (Eq.trans (pk_un3 (a := (u33.1 0 12).toInt) rfl (om_30221e262c zws q27 pw32) (om_c704d8ed07 q27 pw32 hj9)) (Eq.trans (kc32 j9 (om_16573c429d q27 hj9)) (kc21 j9 hj9)))))
      have ko51 : ∀ j : Nat, (j : Int) < (v.1 0 15).toInt → (u50.1 13) j = (v.1 13) j := by rw [hu51]; exact (fun (j9 : Nat) hj9 => (Eq.trans (pk_un3 (a := (u33.1 0 15).toInt) rfl (om_fc2b7976a4 zos q28 po32) (om_a17e130e46 q28 po32 hj9)) (Eq.trans (ko32 j9 (om_caf7b1eac4 q28 hj9)) (ko21 j9 hj9))))
      have kg51 : ∀ j : Nat, (j : Int) < (v.1 0 15).toInt → (u50.1 14) j = (v.1 14) j := by rw [hu51]; exact (fun (j9 : Nat) hj9 => (Eq.trans (pk_un3 (a := (v.1 0 15).toInt) rfl (om_cd2a109470 zos) (om_4fe904e9bf hj9)) (Eq.trans (pk_un3 (a := (u33.1 0 15).toInt) rfl (om_fc2b7976a4 zos q28 po32) (om_a17e130e46 q28 po32 hj9)) (Eq.trans (kg32 j9 (om_caf7b1eac4 q28 hj9)) (kg21 j9 hj9)))))
      rw [← hu51] at hP hD
      have q52 : (u50.1 0 47).toInt = (u33.1 0 47).toInt := congrArg Int32.toInt (fr51.2.1 47 (by decide))
      have q53 : (u20.1 0 49).toInt = (v.1 0 49).toInt := congrArg Int32.toInt (fr21.2.1 49 (by decide))
      have q54 : (u50.1 0 12).toInt = (((u33.1 0 12).toInt) + (1 : Int)) := by rw [hu51]; exact (show ((u33.1 0 12) + (1 : Int32)).toInt = (((u33.1 0 12).toInt) + (1 : Int)) from z41)
      have q55 : (u50.1 0 15).toInt = (((u33.1 0 15).toInt) + (1 : Int)) := by rw [hu51]; exact (show ((u33.1 0 15) + (1 : Int32)).toInt = (((u33.1 0 15).toInt) + (1 : Int)) from z45)
      have q56 : (u50.1 0 43).toInt = (u33.1 0 43).toInt := congrArg Int32.toInt (fr51.2.1 43 (by decide))
      have q57 : (u50.1 0 39).toInt = (u33.1 0 39).toInt := congrArg Int32.toInt (fr51.2.1 39 (by decide))
      have q58 : (u50.1 0 32).toInt = (u33.1 0 32).toInt := congrArg Int32.toInt (fr51.2.1 32 (by decide))
      have q59 : (u50.1 0 48).toInt = (u33.1 0 48).toInt := congrArg Int32.toInt (fr51.2.1 48 (by decide))
      have q60 : (u50.1 0 33).toInt = (u33.1 0 33).toInt := congrArg Int32.toInt (fr51.2.1 33 (by decide))
      refine vx_ret ?_
      exact W.vret hx hb hr (fun t ht9 hW => ⟨⟨u50, rfl, ⟨(FG.tr (FG.tr (FG.tr (FG.rf _) (FG.up fr21 (by decide) (by decide))) (FG.up fr32 (by decide) (by decide))) (FG.up fr51 (by decide) (by decide))), (show (v.1 0 47).toInt + 1 ≤ (u50.1 0 47).toInt ∧ (u50.1 0 47).toInt ≤ 1500 from (om_a5c0ac1db2 q23 pt32 pb32 q52)), (show (v.1 0 49).toInt ≠ (v.1 0 47).toInt from (om_3ea692d063 q23 q53 pb32)), (show (v.1 0 12).toInt ≤ (u50.1 0 12).toInt ∧ (u50.1 0 12).toInt - 15 * (u50.1 0 47).toInt ≤ (v.1 0 12).toInt - 15 * (v.1 0 47).toInt + 5 from (om_673256465f q27 q23 pw32 q54 q52)), (show (v.1 0 15).toInt ≤ (u50.1 0 15).toInt ∧ (u50.1 0 15).toInt - 10 * (u50.1 0 47).toInt ≤ (v.1 0 15).toInt - 10 * (v.1 0 47).toInt + 2 from (om_b3f8ba7422 q28 q23 po32 q55 q52)), (show (v.1 0 43).toInt ≤ (u50.1 0 43).toInt ∧ (u50.1 0 43).toInt - 15 * (u50.1 0 47).toInt ≤ (v.1 0 43).toInt - 15 * (v.1 0 47).toInt from (om_3ebe2a93c0 q29 q23 pf32 q56 q52)), (show (v.1 0 39).toInt ≤ (u50.1 0 39).toInt ∧ (u50.1 0 39).toInt - 1 * (u50.1 0 47).toInt ≤ (v.1 0 39).toInt - 1 * (v.1 0 47).toInt from (om_a55bbffa11 q30 q23 pk32 q57 q52)), (show (u50.1 0 32).toInt = (v.1 0 32).toInt ∧ (u50.1 0 48).toInt = (v.1 0 48).toInt from (om_88acc2d82b q26 q22 pp32 q58 q59)), (show (v.1 0 33).toInt ≤ (u50.1 0 33).toInt ∧ (u50.1 0 33).toInt ≤ 500 from (om_df59a1a895 q25 ph32 q60)), (fun (j9 : Nat) hj9 => (kc51 j9 hj9)), (fun (j9 : Nat) hj9 => (ko51 j9 hj9)), (fun (j9 : Nat) hj9 => (kg51 j9 hj9)), (show AR 35 0 1500 u50 from AR.fr (fl := [12, 15]) (al := [0, 11, 13, 14]) fr51 (by decide) a3532), (show AR 37 0 23999 u50 from AR.fr (fl := [12, 15]) (al := [0, 11, 13, 14]) fr51 (by decide) a3732), (show AR 38 0 15999 u50 from AR.fr (fl := [12, 15]) (al := [0, 11, 13, 14]) fr51 (by decide) a3832), (show AR 40 0 23999 u50 from AR.fr (fl := [12, 15]) (al := [0, 11, 13, 14]) fr51 (by decide) a4032), (show FX u50 from FX.fr (fl := [12, 15]) (al := [0, 11, 13, 14]) fr51 (by decide) (by decide) fx32)⟩, by rw [ht9]; exact hP, hD⟩, hS.F ht9⟩) hS.2.2 dX13_both_121
    · have z61 : pa.toInt ≠ (0 : Int) := ne_z rfl (show (0 : Int32).toInt = (0 : Int) by decide) h14
      exact False.elim (om_e92e9f8ce0 z2 z61)
  · have z62 : pa.toInt ≠ (0 : Int) := ne_z rfl (show (0 : Int32).toInt = (0 : Int) by decide) h1
    refine lv_aload_n hx hb dX13_both_4 rfl (lv_at hl 0 rfl) ?_
    refine lv_iconst (v := 0) hx hb dX13_both_5 (by decide) ?_
    refine lv_bipush (v := 10) hx hb dX13_both_6 (by decide) ?_
    refine lv_iconst (v := 0) hx hb dX13_both_8 (by decide) ?_
    refine lv_bipush (v := 12) hx hb dX13_both_9 (by decide) ?_
    refine cu_s (mW_nd _ _ _ _ _ _) (rn_S (n := 4) (As := [.int 0, .int 10, .int 0, .int 12]) (rest := [.ref (ad 0)]) hx hb hml hown ht hKK hFx hP hD hS hA (c_m_byB l dC dI cI cB cZ cJ cR tb s.heap.size (0 : Int32) (10 : Int32) (0 : Int32) (12 : Int32) ) tw_85 tw_86 (by decide +kernel) rfl rfl ⟨show 0 + 1 ≤ 40 * n + 11 + 2 * kk from om_e4a9a18e1f, show 8 + (4 + 11) + 0 ≤ 28 * (40 * n + 11 + 2 * kk) from om_acd50960ad⟩ [] rfl rfl rfl hl.1 rfl (Nat.le_of_ble_eq_true rfl) dX13_both_11 ⟨Nat.le_of_ble_eq_true rfl, Nat.le_of_ble_eq_true rfl⟩) hP hD hS hA (fun r65 H locs hw63 hP hD hS => ?_)
    refine W.widen (k := 0) (n := 0) (Nat.le_refl _) (Nat.le_refl _) ?_
    refine cu_i (rn_V (n := 1) (As := [.int r65]) (rest := []) hx hb hml hown ht hKK hFx hP hD hS hA (c_m_emit l dC dI cI cB cZ cJ cR tb H.size ad N v r65 (show 0 ≤ (v.1 0 12).toInt ∧ (v.1 0 12).toInt < 24000 from (om_d73dcb7bba zt zws))) tw_8 tw_9 (by decide +kernel) rfl rfl ⟨show 0 + 1 ≤ 40 * n + 11 + 2 * kk from om_e4a9a18e1f, show 8 + (2 + 11) + 0 ≤ 28 * (40 * n + 11 + 2 * kk) from om_569bd57a25⟩ (List.range (mW ad N cI cZ cJ v).length) (rg_map _) (mW_nd _ _ _ _ _ _) rfl rfl rfl rfl hl.1 rfl (Nat.le_of_ble_eq_true rfl) dX13_both_14 ⟨Nat.le_of_ble_eq_true rfl, Nat.le_of_ble_eq_true rfl⟩) hP hD hS hA (fun r68 u67 H locs hw66 hP hD hS => ?_)
    obtain ⟨rfl, rfl⟩ := hw66
    have z69 : ((v.1 0 12) + (1 : Int32)).toInt = ((v.1 0 12).toInt) + (1 : Int) := add_z rfl (show (1 : Int32).toInt = (1 : Int) by decide) (om_e59ca69203 zws) (om_8efe3d1605 zt zws)
    have hP : va_P (dC, dI) vwCl (mW ad N cI cZ cJ (wA (wA v 11 ((v.1 0 12).toNatClampNeg) r65) 0 12 ((v.1 0 12) + (1 : Int32)))) H := hP
    have hD : va_D A (mW ad N cI cZ cJ (wA (wA v 11 ((v.1 0 12).toNatClampNeg) r65) 0 12 ((v.1 0 12) + (1 : Int32)))) := hD
    refine tp_i (y := (v.1 0 12)) (rfl) ?_
    refine W.widen (k := 0) (n := 0) (Nat.le_refl _) (Nat.le_refl _) ?_
    refine lv_pop hx hb dX13_both_17 rfl ?_
    refine lv_aload_n hx hb dX13_both_18 rfl (lv_at hl 0 rfl) ?_
    refine lv_bipush (v := 10) hx hb dX13_both_19 (by decide) ?_
    refine lv_iconst (v := 0) hx hb dX13_both_21 (by decide) ?_
    refine lv_iconst (v := 1) hx hb dX13_both_22 (by decide) ?_
    refine cu_s (mW_nd _ _ _ _ _ _) (rn_S (n := 3) (As := [.int 10, .int 0, .int 1]) (rest := [.ref (ad 0)]) hx hb hml hown ht hKK hFx hP hD hS hA (c_m_addi l dC dI cI cB cZ cJ cR tb H.size (10 : Int32) (0 : Int32) (1 : Int32) ) tw_65 tw_66 (by decide +kernel) rfl rfl ⟨show 1 + 1 ≤ 40 * n + 11 + 2 * kk from om_9c725438dc, show 8 + (3 + 11) + 24 ≤ 28 * (40 * n + 11 + 2 * kk) from om_52b74f11cb⟩ [] rfl rfl rfl hl.1 rfl (Nat.le_of_ble_eq_true rfl) dX13_both_23 ⟨Nat.le_of_ble_eq_true rfl, Nat.le_of_ble_eq_true rfl⟩) hP hD hS hA (fun r72 H locs hw70 hP hD hS => ?_)
    refine W.widen (k := 0) (n := 0) (Nat.le_refl _) (Nat.le_refl _) ?_
    refine cu_i (rn_V (n := 1) (As := [.int r72]) (rest := []) hx hb hml hown ht hKK hFx hP hD hS hA (c_m_emit l dC dI cI cB cZ cJ cR tb H.size ad N (wA (wA v 11 ((v.1 0 12).toNatClampNeg) r65) 0 12 ((v.1 0 12) + (1 : Int32))) r72 (show 0 ≤ ((v.1 0 12) + (1 : Int32)).toInt ∧ ((v.1 0 12) + (1 : Int32)).toInt < 24000 from (om_ac9c79b49b zt zws z69))) tw_8 tw_9 (by decide +kernel) rfl rfl ⟨show 0 + 1 ≤ 40 * n + 11 + 2 * kk from om_e4a9a18e1f, show 8 + (2 + 11) + 0 ≤ 28 * (40 * n + 11 + 2 * kk) from om_569bd57a25⟩ (List.range (mW ad N cI cZ cJ (wA (wA v 11 ((v.1 0 12).toNatClampNeg) r65) 0 12 ((v.1 0 12) + (1 : Int32)))).length) (rg_map _) (mW_nd _ _ _ _ _ _) rfl rfl rfl rfl hl.1 rfl (Nat.le_of_ble_eq_true rfl) dX13_both_26 ⟨Nat.le_of_ble_eq_true rfl, Nat.le_of_ble_eq_true rfl⟩) hP hD hS hA (fun r75 u74 H locs hw73 hP hD hS => ?_)
    obtain ⟨rfl, rfl⟩ := hw73
    have z76 : (((v.1 0 12) + (1 : Int32)) + (1 : Int32)).toInt = (((v.1 0 12).toInt) + (1 : Int)) + (1 : Int) := add_z z69 (show (1 : Int32).toInt = (1 : Int) by decide) (om_0f1b353838 zws) (om_ef70f26e53 zt zws)
    have hP : va_P (dC, dI) vwCl (mW ad N cI cZ cJ (wA (wA (wA (wA v 11 ((v.1 0 12).toNatClampNeg) r65) 0 12 ((v.1 0 12) + (1 : Int32))) 11 (((v.1 0 12) + (1 : Int32)).toNatClampNeg) r72) 0 12 (((v.1 0 12) + (1 : Int32)) + (1 : Int32)))) H := hP
    have hD : va_D A (mW ad N cI cZ cJ (wA (wA (wA (wA v 11 ((v.1 0 12).toNatClampNeg) r65) 0 12 ((v.1 0 12) + (1 : Int32))) 11 (((v.1 0 12) + (1 : Int32)).toNatClampNeg) r72) 0 12 (((v.1 0 12) + (1 : Int32)) + (1 : Int32)))) := hD
    refine tp_i (y := ((v.1 0 12) + (1 : Int32))) (rfl) ?_
    refine W.widen (k := 0) (n := 0) (Nat.le_refl _) (Nat.le_refl _) ?_
    refine lv_pop hx hb dX13_both_29 rfl ?_
    refine lv_goto (tgt := 47) hx hb dX13_both_30 (by decide) ?_
    refine lv_aload_n hx hb dX13_both_47 rfl (lv_at hl 0 rfl) ?_
    refine lv_iconst (v := -1) hx hb dX13_both_48 (by decide) ?_
    refine cu_i (rn_V (n := 1) (As := [.int (-1)]) (rest := []) hx hb hml hown ht hKK hFx hP hD hS hA (c_m_wait l dC dI cI cB cZ cJ cR tb H.size ad N (wA (wA (wA (wA v 11 ((v.1 0 12).toNatClampNeg) r65) 0 12 ((v.1 0 12) + (1 : Int32))) 11 (((v.1 0 12) + (1 : Int32)).toNatClampNeg) r72) 0 12 (((v.1 0 12) + (1 : Int32)) + (1 : Int32))) (-1 : Int32) (show 0 ≤ (((v.1 0 12) + (1 : Int32)) + (1 : Int32)).toInt ∧ (((v.1 0 12) + (1 : Int32)) + (1 : Int32)).toInt < 24000 from (om_8358e75e18 zt zws z76))) tw_122 tw_123 (by decide +kernel) rfl rfl ⟨show 1 + 1 ≤ 40 * n + 11 + 2 * kk from om_9c725438dc, show 8 + (2 + 11) + 21 ≤ 28 * (40 * n + 11 + 2 * kk) from om_95fef24b7a⟩ (List.range (mW ad N cI cZ cJ (wA (wA (wA (wA v 11 ((v.1 0 12).toNatClampNeg) r65) 0 12 ((v.1 0 12) + (1 : Int32))) 11 (((v.1 0 12) + (1 : Int32)).toNatClampNeg) r72) 0 12 (((v.1 0 12) + (1 : Int32)) + (1 : Int32)))).length) (rg_map _) (mW_nd _ _ _ _ _ _) rfl rfl rfl rfl hl.1 rfl (Nat.le_of_ble_eq_true rfl) dX13_both_49 ⟨Nat.le_of_ble_eq_true rfl, Nat.le_of_ble_eq_true rfl⟩) hP hD hS hA (fun r79 u78 H locs hw77 hP hD hS => ?_)
    obtain ⟨rfl, rfl⟩ := hw77
    have z80 : ((((v.1 0 12) + (1 : Int32)) + (1 : Int32)) + (1 : Int32)).toInt = ((((v.1 0 12).toInt) + (1 : Int)) + (1 : Int)) + (1 : Int) := add_z z76 (show (1 : Int32).toInt = (1 : Int) by decide) (om_a63fe6cb73 zws) (om_9601e50861 zt zws)
    have hP : va_P (dC, dI) vwCl (mW ad N cI cZ cJ (wA (wA (wA (wA (wA (wA v 11 ((v.1 0 12).toNatClampNeg) r65) 0 12 ((v.1 0 12) + (1 : Int32))) 11 (((v.1 0 12) + (1 : Int32)).toNatClampNeg) r72) 0 12 (((v.1 0 12) + (1 : Int32)) + (1 : Int32))) 11 ((((v.1 0 12) + (1 : Int32)) + (1 : Int32)).toNatClampNeg) (-1 : Int32)) 0 12 ((((v.1 0 12) + (1 : Int32)) + (1 : Int32)) + (1 : Int32)))) H := hP
    have hD : va_D A (mW ad N cI cZ cJ (wA (wA (wA (wA (wA (wA v 11 ((v.1 0 12).toNatClampNeg) r65) 0 12 ((v.1 0 12) + (1 : Int32))) 11 (((v.1 0 12) + (1 : Int32)).toNatClampNeg) r72) 0 12 (((v.1 0 12) + (1 : Int32)) + (1 : Int32))) 11 ((((v.1 0 12) + (1 : Int32)) + (1 : Int32)).toNatClampNeg) (-1 : Int32)) 0 12 ((((v.1 0 12) + (1 : Int32)) + (1 : Int32)) + (1 : Int32)))) := hD
    refine tp_i (y := (((v.1 0 12) + (1 : Int32)) + (1 : Int32))) (rfl) ?_
    refine W.widen (k := 0) (n := 0) (Nat.le_refl _) (Nat.le_refl _) ?_
    refine lv_istore (lv' := [(4, .int (((v.1 0 12) + (1 : Int32)) + (1 : Int32))), (0, .ref (ad 0)), (1, .int pa), (2, .int pb)]) hx hb dX13_both_52 hl (by decide) rfl (fun ls hl => ?_)
    refine lv_aload_n hx hb dX13_both_54 rfl (lv_at hl 1 rfl) ?_
    refine lv_iload_n hx hb dX13_both_55 rfl (lv_at hl 2 rfl) ?_
    refine lv_if_eq (tgt := 64) hx hb dX13_both_56 (by decide) (fun h81 => ?_) (fun h81 => ?_)
    · have z82 : pa.toInt = (0 : Int) := eq_z rfl (show (0 : Int32).toInt = (0 : Int) by decide) h81
      exact False.elim (om_6db93cff1d z62 z82)
    · have z83 : pa.toInt ≠ (0 : Int) := ne_z rfl (show (0 : Int32).toInt = (0 : Int) by decide) h81
      refine lv_bipush (v := 23) hx hb dX13_both_59 (by decide) ?_
      refine lv_goto (tgt := 66) hx hb dX13_both_61 (by decide) ?_
      refine lv_iconst (v := 0) hx hb dX13_both_66 (by decide) ?_
      refine cu_i (rn_V (n := 2) (As := [.int 23, .int 0]) (rest := []) hx hb hml hown ht hKK hFx hP hD hS hA (c_m_say l dC dI cI cB cZ cJ cR tb H.size ad N (wA (wA (wA (wA (wA (wA v 11 ((v.1 0 12).toNatClampNeg) r65) 0 12 ((v.1 0 12) + (1 : Int32))) 11 (((v.1 0 12) + (1 : Int32)).toNatClampNeg) r72) 0 12 (((v.1 0 12) + (1 : Int32)) + (1 : Int32))) 11 ((((v.1 0 12) + (1 : Int32)) + (1 : Int32)).toNatClampNeg) (-1 : Int32)) 0 12 ((((v.1 0 12) + (1 : Int32)) + (1 : Int32)) + (1 : Int32))) (23 : Int32) (0 : Int32) (show 0 ≤ (v.1 0 15).toInt ∧ (v.1 0 15).toInt < 16000 from (om_29aa3f96d3 zt zos))) tw_59 tw_60 (by decide +kernel) rfl rfl ⟨show 0 + 1 ≤ 40 * n + 11 + 2 * kk from om_e4a9a18e1f, show 8 + (3 + 11) + 0 ≤ 28 * (40 * n + 11 + 2 * kk) from om_2a7d26e2ca⟩ (List.range (mW ad N cI cZ cJ (wA (wA (wA (wA (wA (wA v 11 ((v.1 0 12).toNatClampNeg) r65) 0 12 ((v.1 0 12) + (1 : Int32))) 11 (((v.1 0 12) + (1 : Int32)).toNatClampNeg) r72) 0 12 (((v.1 0 12) + (1 : Int32)) + (1 : Int32))) 11 ((((v.1 0 12) + (1 : Int32)) + (1 : Int32)).toNatClampNeg) (-1 : Int32)) 0 12 ((((v.1 0 12) + (1 : Int32)) + (1 : Int32)) + (1 : Int32)))).length) (rg_map _) (mW_nd _ _ _ _ _ _) rfl rfl rfl rfl hl.1 rfl (Nat.le_of_ble_eq_true rfl) dX13_both_67 ⟨Nat.le_of_ble_eq_true rfl, Nat.le_of_ble_eq_true rfl⟩) hP hD hS hA (fun r86 u85 H locs hw84 hP hD hS => ?_)
      obtain ⟨rfl, rfl⟩ := hw84
      have z87 : ((v.1 0 15) + (1 : Int32)).toInt = ((v.1 0 15).toInt) + (1 : Int) := add_z rfl (show (1 : Int32).toInt = (1 : Int) by decide) (om_0fdaa42459 zos) (om_09a043d2b4 zt zos)
      have hP : va_P (dC, dI) vwCl (mW ad N cI cZ cJ (wA (wA (wA (wA (wA (wA (wA (wA (wA v 11 ((v.1 0 12).toNatClampNeg) r65) 0 12 ((v.1 0 12) + (1 : Int32))) 11 (((v.1 0 12) + (1 : Int32)).toNatClampNeg) r72) 0 12 (((v.1 0 12) + (1 : Int32)) + (1 : Int32))) 11 ((((v.1 0 12) + (1 : Int32)) + (1 : Int32)).toNatClampNeg) (-1 : Int32)) 0 12 ((((v.1 0 12) + (1 : Int32)) + (1 : Int32)) + (1 : Int32))) 13 ((v.1 0 15).toNatClampNeg) (23 : Int32)) 14 ((v.1 0 15).toNatClampNeg) (0 : Int32)) 0 15 ((v.1 0 15) + (1 : Int32)))) H := hP
      have hD : va_D A (mW ad N cI cZ cJ (wA (wA (wA (wA (wA (wA (wA (wA (wA v 11 ((v.1 0 12).toNatClampNeg) r65) 0 12 ((v.1 0 12) + (1 : Int32))) 11 (((v.1 0 12) + (1 : Int32)).toNatClampNeg) r72) 0 12 (((v.1 0 12) + (1 : Int32)) + (1 : Int32))) 11 ((((v.1 0 12) + (1 : Int32)) + (1 : Int32)).toNatClampNeg) (-1 : Int32)) 0 12 ((((v.1 0 12) + (1 : Int32)) + (1 : Int32)) + (1 : Int32))) 13 ((v.1 0 15).toNatClampNeg) (23 : Int32)) 14 ((v.1 0 15).toNatClampNeg) (0 : Int32)) 0 15 ((v.1 0 15) + (1 : Int32)))) := hD
      refine tp_i (y := (v.1 0 15)) (rfl) ?_
      refine W.widen (k := 0) (n := 0) (Nat.le_refl _) (Nat.le_refl _) ?_
      obtain ⟨u88, hu89⟩ : ∃ z, z = (wA (wA (wA (wA (wA (wA (wA (wA (wA v 11 ((v.1 0 12).toNatClampNeg) r65) 0 12 ((v.1 0 12) + (1 : Int32))) 11 (((v.1 0 12) + (1 : Int32)).toNatClampNeg) r72) 0 12 (((v.1 0 12) + (1 : Int32)) + (1 : Int32))) 11 ((((v.1 0 12) + (1 : Int32)) + (1 : Int32)).toNatClampNeg) (-1 : Int32)) 0 12 ((((v.1 0 12) + (1 : Int32)) + (1 : Int32)) + (1 : Int32))) 13 ((v.1 0 15).toNatClampNeg) (23 : Int32)) 14 ((v.1 0 15).toNatClampNeg) (0 : Int32)) 0 15 ((v.1 0 15) + (1 : Int32))) := ⟨_, rfl⟩
      have fr89 : FG [12, 15] [0, 11, 13, 14] v u88 := by rw [hu89]; exact (FG.f (FG.a (FG.a (FG.f (FG.a (FG.f (FG.a (FG.f (FG.a (FG.rf _) ((v.1 0 12).toNatClampNeg) r65 (by decide) (by decide)) ((v.1 0 12) + (1 : Int32)) (by decide)) (((v.1 0 12) + (1 : Int32)).toNatClampNeg) r72 (by decide) (by decide)) (((v.1 0 12) + (1 : Int32)) + (1 : Int32)) (by decide)) ((((v.1 0 12) + (1 : Int32)) + (1 : Int32)).toNatClampNeg) (-1 : Int32) (by decide) (by decide)) ((((v.1 0 12) + (1 : Int32)) + (1 : Int32)) + (1 : Int32)) (by decide)) ((v.1 0 15).toNatClampNeg) (23 : Int32) (by decide) (by decide)) ((v.1 0 15).toNatClampNeg) (0 : Int32) (by decide) (by decide)) ((v.1 0 15) + (1 : Int32)) (by decide))
      have kc89 : ∀ j : Nat, (j : Int) < (v.1 0 12).toInt → (u88.1 11) j = (v.1 11) j := by rw [hu89]; exact (fun (j9 : Nat) hj9 => (Eq.trans (pk_un3 (a := (((v.1 0 12) + (1 : Int32)) + (1 : Int32)).toInt) rfl (om_88af80de2a zws z76) (om_9160dd3fa3 z76 hj9)) (Eq.trans (pk_un3 (a := ((v.1 0 12) + (1 : Int32)).toInt) rfl (om_16f6448e32 zws z69) (om_56bf42079b z69 hj9)) (pk_un3 (a := (v.1 0 12).toInt) rfl (om_1fb4ad29f5 zws) (om_4fe904e9bf hj9)))))
      have ko89 : ∀ j : Nat, (j : Int) < (v.1 0 15).toInt → (u88.1 13) j = (v.1 13) j := by rw [hu89]; exact (fun (j9 : Nat) hj9 => (pk_un3 (a := (v.1 0 15).toInt) rfl (om_cd2a109470 zos) (om_4fe904e9bf hj9)))
      have kg89 : ∀ j : Nat, (j : Int) < (v.1 0 15).toInt → (u88.1 14) j = (v.1 14) j := by rw [hu89]; exact (fun (j9 : Nat) hj9 => (pk_un3 (a := (v.1 0 15).toInt) rfl (om_cd2a109470 zos) (om_4fe904e9bf hj9)))
      rw [← hu89] at hP hD
      refine lv_istore_n (lv' := [(3, .int (v.1 0 15)), (4, .int (((v.1 0 12) + (1 : Int32)) + (1 : Int32))), (0, .ref (ad 0)), (1, .int pa), (2, .int pb)]) hx hb dX13_both_70 rfl hl (by decide) rfl (fun ls hl => ?_)
      refine lv_aload_n hx hb dX13_both_71 rfl (lv_at hl 2 rfl) ?_
      refine lv_iload_n hx hb dX13_both_72 rfl (lv_at hl 4 rfl) ?_
      refine lv_iconst (v := 0) hx hb dX13_both_73 (by decide) ?_
      have q90 : (u88.1 0 48).toInt = (v.1 0 48).toInt := congrArg Int32.toInt (fr89.2.1 48 (by decide))
      have q91 : (u88.1 0 47).toInt = (v.1 0 47).toInt := congrArg Int32.toInt (fr89.2.1 47 (by decide))
      have q92 : (u88.1 0 30).toInt = (v.1 0 30).toInt := congrArg Int32.toInt (fr89.2.1 30 (by decide))
      have q93 : (u88.1 0 33).toInt = (v.1 0 33).toInt := congrArg Int32.toInt (fr89.2.1 33 (by decide))
      have q94 : (u88.1 0 32).toInt = (v.1 0 32).toInt := congrArg Int32.toInt (fr89.2.1 32 (by decide))
      have q95 : (u88.1 0 12).toInt = (((((v.1 0 12).toInt) + (1 : Int)) + (1 : Int)) + (1 : Int)) := by rw [hu89]; exact (show ((((v.1 0 12) + (1 : Int32)) + (1 : Int32)) + (1 : Int32)).toInt = (((((v.1 0 12).toInt) + (1 : Int)) + (1 : Int)) + (1 : Int)) from z80)
      have q96 : (u88.1 0 15).toInt = (((v.1 0 15).toInt) + (1 : Int)) := by rw [hu89]; exact (show ((v.1 0 15) + (1 : Int32)).toInt = (((v.1 0 15).toInt) + (1 : Int)) from z87)
      have q97 : (u88.1 0 43).toInt = (v.1 0 43).toInt := congrArg Int32.toInt (fr89.2.1 43 (by decide))
      have q98 : (u88.1 0 39).toInt = (v.1 0 39).toInt := congrArg Int32.toInt (fr89.2.1 39 (by decide))
      have q99 : (u88.1 0 27).toInt = (v.1 0 27).toInt := congrArg Int32.toInt (fr89.2.1 27 (by decide))
      refine cux_v (rx_V (n := 2) (As := [.int pb, .int 0]) (rest := []) hx hb hml hown ht hKK hFx hP hD hS hA (J dC dI cI cB cZ cJ cR tb H.size ad N u88 pb (0 : Int32) (show 40 ≤ (u88.1 0 48).toInt + (n : Int) from (om_2d3a9cf1da zn q90)) (show 0 ≤ (u88.1 0 47).toInt ∧ (u88.1 0 47).toInt ≤ 1500 from (om_cbb7fa6a05 zt zws q91)) (show 0 ≤ (u88.1 0 48).toInt ∧ (u88.1 0 48).toInt ≤ 40 from (om_99e115f631 zop q90)) (show 0 ≤ (u88.1 0 30).toInt ∧ (u88.1 0 30).toInt ≤ 500 from (om_f8376ff89c zkn q92)) (show 0 ≤ (u88.1 0 33).toInt ∧ (u88.1 0 33).toInt ≤ 500 from (om_f8376ff89c zhi q93)) (show 0 ≤ (u88.1 0 32).toInt ∧ (u88.1 0 30).toInt + (u88.1 0 32).toInt ≤ (u88.1 0 33).toInt from (om_2af3a22bf6 zs q92 q94 q93)) (show 0 ≤ (u88.1 0 12).toInt ∧ (u88.1 0 12).toInt ≤ 15 * (u88.1 0 47).toInt + 2 from (om_fc78833a2d zws q95 q91)) (show 0 ≤ (u88.1 0 15).toInt ∧ (u88.1 0 15).toInt ≤ 10 * (u88.1 0 47).toInt + 0 from (om_2747ba7112 zos q96 q91)) (show 0 ≤ (u88.1 0 43).toInt ∧ (u88.1 0 43).toInt ≤ 15 * (u88.1 0 47).toInt + 0 from (om_1540b29cc3 zfs q97 q91)) (show 0 ≤ (u88.1 0 39).toInt ∧ (u88.1 0 39).toInt ≤ 1 * (u88.1 0 47).toInt + 0 from (om_4624cec051 zcs q98 q91)) (show 0 ≤ (u88.1 0 27).toInt ∧ (u88.1 0 27).toInt ≤ 60 from (om_385c0d8cae zgl q99)) (show TI u88 from FG.ti (fl := pfl) (al := pal) (FG.tr (FG.rf _) (FG.up fr89 (by decide) (by decide))) (by decide) (by decide) hT) (show AR 29 0 1500 u88 from (show AR 29 0 1500 u88 from AR.fr (fl := [12, 15]) (al := [0, 11, 13, 14]) fr89 (by decide) a29)) (show AR 23 0 1500 u88 from (show AR 23 0 1500 u88 from AR.fr (fl := [12, 15]) (al := [0, 11, 13, 14]) fr89 (by decide) a23)) (show AR 35 0 1500 u88 from (show AR 35 0 1500 u88 from AR.fr (fl := [12, 15]) (al := [0, 11, 13, 14]) fr89 (by decide) a35)) (show AR 37 0 23999 u88 from (show AR 37 0 23999 u88 from AR.fr (fl := [12, 15]) (al := [0, 11, 13, 14]) fr89 (by decide) a37)) (show AR 38 0 15999 u88 from (show AR 38 0 15999 u88 from AR.fr (fl := [12, 15]) (al := [0, 11, 13, 14]) fr89 (by decide) a38)) (show AR 40 0 23999 u88 from (show AR 40 0 23999 u88 from AR.fr (fl := [12, 15]) (al := [0, 11, 13, 14]) fr89 (by decide) a40)) (show FX u88 from (show FX u88 from FX.fr (fl := [12, 15]) (al := [0, 11, 13, 14]) fr89 (by decide) (by decide) fx)) (show 1 ≤ pb.toInt ∧ pb.toInt ≤ 12 ∧ 11 ≤ pb.toInt + (kk : Int) from (om_286b450281 zl))) tw_124 tw_125 (by decide +kernel) rfl rfl ⟨show (40 * n + 10 + 2 * kk) + 1 ≤ 40 * n + 11 + 2 * kk from om_3e067a920a, show 8 + (6 + 11) + 28 * (40 * n + 10 + 2 * kk) ≤ 28 * (40 * n + 11 + 2 * kk) from om_1b9945aa0a⟩ (List.range (mW ad N cI cZ cJ u88).length) (rg_map _) (mW_nd _ _ _ _ _ _) rfl rfl rfl rfl hl.1 rfl (Nat.le_of_ble_eq_true rfl) dX13_both_74 ⟨Nat.le_of_ble_eq_true rfl, Nat.le_of_ble_eq_true rfl⟩) hP hD hS hA (fun u9 ce9 q9 H locs hx9 hP hD hS hc9 hv9 hf9 => ?_) (fun u101 H locs hw100 hP hD hS => ?_)
      · exact vx_out (fun x h9 => (hnt x h9).elim) hlocks hc9 hv9 hf9 (fun t9 ht9 hv8 => ⟨u9, (FG.tr (FG.tr (FG.rf _) (FG.up fr89 (by decide) (by decide))) hx9), ⟨rfl, by rw [ht9]; exact hP, hD⟩, hS.F ht9⟩) hS.2.2 (Nat.le_refl _) (Nat.le_refl _)
      obtain ⟨fr100, pt100, pb100, pw100, po100, pf100, pk100, pp100, ph100, kc100, ko100, kg100, a35100, a37100, a38100, a40100, fx100⟩ := hw100
      have pt100 : (u88.1 0 47).toInt + 0 ≤ (u101.1 0 47).toInt ∧ (u101.1 0 47).toInt ≤ 1500 := pt100
      have pb100 : (0 : Int) ≠ 0 ∨ ((u88.1 0 47).toInt + 1 ≤ (u101.1 0 47).toInt ∧ (u88.1 0 49).toInt ≠ (u88.1 0 47).toInt) := pb100
      have pw100 : (u88.1 0 12).toInt ≤ (u101.1 0 12).toInt ∧ (u101.1 0 12).toInt - 15 * (u101.1 0 47).toInt ≤ (u88.1 0 12).toInt - 15 * (u88.1 0 47).toInt := pw100
      have po100 : (u88.1 0 15).toInt ≤ (u101.1 0 15).toInt ∧ (u101.1 0 15).toInt - 10 * (u101.1 0 47).toInt ≤ (u88.1 0 15).toInt - 10 * (u88.1 0 47).toInt := po100
      have pf100 : (u88.1 0 43).toInt ≤ (u101.1 0 43).toInt ∧ (u101.1 0 43).toInt - 15 * (u101.1 0 47).toInt ≤ (u88.1 0 43).toInt - 15 * (u88.1 0 47).toInt := pf100
      have pk100 : (u88.1 0 39).toInt ≤ (u101.1 0 39).toInt ∧ (u101.1 0 39).toInt - 1 * (u101.1 0 47).toInt ≤ (u88.1 0 39).toInt - 1 * (u88.1 0 47).toInt := pk100
      have pp100 : (u101.1 0 32).toInt = (u88.1 0 32).toInt ∧ (u101.1 0 48).toInt = (u88.1 0 48).toInt := pp100
      have ph100 : (u88.1 0 33).toInt ≤ (u101.1 0 33).toInt ∧ (u101.1 0 33).toInt ≤ 500 := ph100
      have kc100 : ∀ j : Nat, (j : Int) < (u88.1 0 12).toInt → (u101.1 11) j = (u88.1 11) j := kc100
      have ko100 : ∀ j : Nat, (j : Int) < (u88.1 0 15).toInt → (u101.1 13) j = (u88.1 13) j := ko100
      have kg100 : ∀ j : Nat, (j : Int) < (u88.1 0 15).toInt → (u101.1 14) j = (u88.1 14) j := kg100
      have a35100 : AR 35 0 1500 u101 := a35100
      have a37100 : AR 37 0 23999 u101 := a37100
      have a38100 : AR 38 0 15999 u101 := a38100
      have a40100 : AR 40 0 23999 u101 := a40100
      have fx100 : FX u101 := fx100
      refine W.widen (k := 0) (n := 0) (Nat.le_refl _) (Nat.le_refl _) ?_
      refine lv_aload_n hx hb dX13_both_77 rfl (lv_at hl 2 rfl) ?_
      refine lv_iconst (v := 0) hx hb dX13_both_78 (by decide) ?_
      refine lv_iconst (v := 3) hx hb dX13_both_79 (by decide) ?_
      refine lv_bipush (v := 10) hx hb dX13_both_80 (by decide) ?_
      refine lv_iconst (v := 0) hx hb dX13_both_82 (by decide) ?_
      refine lv_bipush (v := 10) hx hb dX13_both_83 (by decide) ?_
      refine cu_s (mW_nd _ _ _ _ _ _) (rn_S (n := 5) (As := [.int 0, .int 3, .int 10, .int 0, .int 10]) (rest := [.ref (ad 0)]) hx hb hml hown ht hKK hFx hP hD hS hA (c_m_byR l dC dI cI cB cZ cJ cR tb H.size (0 : Int32) (3 : Int32) (10 : Int32) (0 : Int32) (10 : Int32) ) tw_67 tw_68 (by decide +kernel) rfl rfl ⟨show 0 + 1 ≤ 40 * n + 11 + 2 * kk from om_e4a9a18e1f, show 8 + (5 + 11) + 0 ≤ 28 * (40 * n + 11 + 2 * kk) from om_aba1db7891⟩ [] rfl rfl rfl hl.1 rfl (Nat.le_of_ble_eq_true rfl) dX13_both_85 ⟨Nat.le_of_ble_eq_true rfl, Nat.le_of_ble_eq_true rfl⟩) hP hD hS hA (fun r105 H locs hw103 hP hD hS => ?_)
      refine W.widen (k := 0) (n := 0) (Nat.le_refl _) (Nat.le_refl _) ?_
      refine cu_i (rn_V (n := 1) (As := [.int r105]) (rest := []) hx hb hml hown ht hKK hFx hP hD hS hA (c_m_emit l dC dI cI cB cZ cJ cR tb H.size ad N u101 r105 (show 0 ≤ (u101.1 0 12).toInt ∧ (u101.1 0 12).toInt < 24000 from (om_5ee698a60d zws q95 q91 pt100 pw100))) tw_8 tw_9 (by decide +kernel) rfl rfl ⟨show 0 + 1 ≤ 40 * n + 11 + 2 * kk from om_e4a9a18e1f, show 8 + (2 + 11) + 0 ≤ 28 * (40 * n + 11 + 2 * kk) from om_569bd57a25⟩ (List.range (mW ad N cI cZ cJ u101).length) (rg_map _) (mW_nd _ _ _ _ _ _) rfl rfl rfl rfl hl.1 rfl (Nat.le_of_ble_eq_true rfl) dX13_both_88 ⟨Nat.le_of_ble_eq_true rfl, Nat.le_of_ble_eq_true rfl⟩) hP hD hS hA (fun r108 u107 H locs hw106 hP hD hS => ?_)
      obtain ⟨rfl, rfl⟩ := hw106
      have z109 : ((u101.1 0 12) + (1 : Int32)).toInt = ((u101.1 0 12).toInt) + (1 : Int) := add_z rfl (show (1 : Int32).toInt = (1 : Int) by decide) (om_2e1341a074 zws q95 pw100) (om_3bab92d693 zws q95 q91 pt100 pw100)
      have hP : va_P (dC, dI) vwCl (mW ad N cI cZ cJ (wA (wA u101 11 ((u101.1 0 12).toNatClampNeg) r105) 0 12 ((u101.1 0 12) + (1 : Int32)))) H := hP
      have hD : va_D A (mW ad N cI cZ cJ (wA (wA u101 11 ((u101.1 0 12).toNatClampNeg) r105) 0 12 ((u101.1 0 12) + (1 : Int32)))) := hD
      refine tp_i (y := (u101.1 0 12)) (rfl) ?_
      refine W.widen (k := 0) (n := 0) (Nat.le_refl _) (Nat.le_refl _) ?_
      refine lv_pop hx hb dX13_both_91 rfl ?_
      refine lv_aload_n hx hb dX13_both_92 rfl (lv_at hl 2 rfl) ?_
      refine lv_bipush (v := 24) hx hb dX13_both_93 (by decide) ?_
      refine lv_iconst (v := 0) hx hb dX13_both_95 (by decide) ?_
      refine cu_i (rn_V (n := 2) (As := [.int 24, .int 0]) (rest := []) hx hb hml hown ht hKK hFx hP hD hS hA (c_m_say l dC dI cI cB cZ cJ cR tb H.size ad N (wA (wA u101 11 ((u101.1 0 12).toNatClampNeg) r105) 0 12 ((u101.1 0 12) + (1 : Int32))) (24 : Int32) (0 : Int32) (show 0 ≤ (u101.1 0 15).toInt ∧ (u101.1 0 15).toInt < 16000 from (om_ab1d49cf04 zos q96 q91 pt100 po100))) tw_59 tw_60 (by decide +kernel) rfl rfl ⟨show 0 + 1 ≤ 40 * n + 11 + 2 * kk from om_e4a9a18e1f, show 8 + (3 + 11) + 0 ≤ 28 * (40 * n + 11 + 2 * kk) from om_2a7d26e2ca⟩ (List.range (mW ad N cI cZ cJ (wA (wA u101 11 ((u101.1 0 12).toNatClampNeg) r105) 0 12 ((u101.1 0 12) + (1 : Int32)))).length) (rg_map _) (mW_nd _ _ _ _ _ _) rfl rfl rfl rfl hl.1 rfl (Nat.le_of_ble_eq_true rfl) dX13_both_96 ⟨Nat.le_of_ble_eq_true rfl, Nat.le_of_ble_eq_true rfl⟩) hP hD hS hA (fun r112 u111 H locs hw110 hP hD hS => ?_)
      obtain ⟨rfl, rfl⟩ := hw110
      have z113 : ((u101.1 0 15) + (1 : Int32)).toInt = ((u101.1 0 15).toInt) + (1 : Int) := add_z rfl (show (1 : Int32).toInt = (1 : Int) by decide) (om_c0ed907fe3 zos q96 po100) (om_44216e30ae zos q96 q91 pt100 po100)
      have hP : va_P (dC, dI) vwCl (mW ad N cI cZ cJ (wA (wA (wA (wA (wA u101 11 ((u101.1 0 12).toNatClampNeg) r105) 0 12 ((u101.1 0 12) + (1 : Int32))) 13 ((u101.1 0 15).toNatClampNeg) (24 : Int32)) 14 ((u101.1 0 15).toNatClampNeg) (0 : Int32)) 0 15 ((u101.1 0 15) + (1 : Int32)))) H := hP
      have hD : va_D A (mW ad N cI cZ cJ (wA (wA (wA (wA (wA u101 11 ((u101.1 0 12).toNatClampNeg) r105) 0 12 ((u101.1 0 12) + (1 : Int32))) 13 ((u101.1 0 15).toNatClampNeg) (24 : Int32)) 14 ((u101.1 0 15).toNatClampNeg) (0 : Int32)) 0 15 ((u101.1 0 15) + (1 : Int32)))) := hD
      refine tp_i (y := (u101.1 0 15)) (rfl) ?_
      refine W.widen (k := 0) (n := 0) (Nat.le_refl _) (Nat.le_refl _) ?_
      refine lv_pop hx hb dX13_both_99 rfl ?_
      refine lv_aload_n hx hb dX13_both_100 rfl (lv_at hl 2 rfl) ?_
      refine lv_iload hx hb dX13_both_101 (lv_at hl 1 rfl) ?_
      refine lv_iconst (v := 0) hx hb dX13_both_103 (by decide) ?_
      refine lv_aload_n hx hb dX13_both_104 rfl (lv_at hl 2 rfl) ?_
      refine va_get (D := (dC, dI)) (ci := 16) (fs := mF ad (wA (wA (wA (wA (wA u101 11 ((u101.1 0 12).toNatClampNeg) r105) 0 12 ((u101.1 0 12) + (1 : Int32))) 13 ((u101.1 0 15).toNatClampNeg) (24 : Int32)) 14 ((u101.1 0 15).toNatClampNeg) (0 : Int32)) 0 15 ((u101.1 0 15) + (1 : Int32)))) (v := .int ((u101.1 0 12) + (1 : Int32))) (C := RX13) (T := TX13) (N := 124) hx hb ht itX13 hown hK hP 0 rfl rfl 12 (by decide) (ht _ tw_7) (fun _ h9 => h9) rfl dX13_both_105 ?_
      refine cu_v (rn_V (n := 3) (As := [.int (((v.1 0 12) + (1 : Int32)) + (1 : Int32)), .int 0, .int ((u101.1 0 12) + (1 : Int32))]) (rest := []) hx hb hml hown ht hKK hFx hP hD hS hA (c_m_jump l dC dI cI cB cZ cJ cR tb H.size ad N (wA (wA (wA (wA (wA u101 11 ((u101.1 0 12).toNatClampNeg) r105) 0 12 ((u101.1 0 12) + (1 : Int32))) 13 ((u101.1 0 15).toNatClampNeg) (24 : Int32)) 14 ((u101.1 0 15).toNatClampNeg) (0 : Int32)) 0 15 ((u101.1 0 15) + (1 : Int32))) (((v.1 0 12) + (1 : Int32)) + (1 : Int32)) (0 : Int32) ((u101.1 0 12) + (1 : Int32)) (show 0 ≤ (((v.1 0 12) + (1 : Int32)) + (1 : Int32)).toInt ∧ (((v.1 0 12) + (1 : Int32)) + (1 : Int32)).toInt < 24000 from (om_8358e75e18 zt zws z76))) tw_126 tw_127 (by decide +kernel) rfl rfl ⟨show 1 + 1 ≤ 40 * n + 11 + 2 * kk from om_9c725438dc, show 8 + (4 + 11) + 21 ≤ 28 * (40 * n + 11 + 2 * kk) from om_d6b6deaa64⟩ (List.range (mW ad N cI cZ cJ (wA (wA (wA (wA (wA u101 11 ((u101.1 0 12).toNatClampNeg) r105) 0 12 ((u101.1 0 12) + (1 : Int32))) 13 ((u101.1 0 15).toNatClampNeg) (24 : Int32)) 14 ((u101.1 0 15).toNatClampNeg) (0 : Int32)) 0 15 ((u101.1 0 15) + (1 : Int32)))).length) (rg_map _) (mW_nd _ _ _ _ _ _) rfl rfl rfl rfl hl.1 rfl (Nat.le_of_ble_eq_true rfl) dX13_both_108 ⟨Nat.le_of_ble_eq_true rfl, Nat.le_of_ble_eq_true rfl⟩) hP hD hS hA (fun u115 H locs hw114 hP hD hS => ?_)
      obtain ⟨x117, rfl⟩ := hw114
      have hP : va_P (dC, dI) vwCl (mW ad N cI cZ cJ (wA (wA (wA (wA (wA (wA u101 11 ((u101.1 0 12).toNatClampNeg) r105) 0 12 ((u101.1 0 12) + (1 : Int32))) 13 ((u101.1 0 15).toNatClampNeg) (24 : Int32)) 14 ((u101.1 0 15).toNatClampNeg) (0 : Int32)) 0 15 ((u101.1 0 15) + (1 : Int32))) 11 ((((v.1 0 12) + (1 : Int32)) + (1 : Int32)).toNatClampNeg) x117)) H := hP
      have hD : va_D A (mW ad N cI cZ cJ (wA (wA (wA (wA (wA (wA u101 11 ((u101.1 0 12).toNatClampNeg) r105) 0 12 ((u101.1 0 12) + (1 : Int32))) 13 ((u101.1 0 15).toNatClampNeg) (24 : Int32)) 14 ((u101.1 0 15).toNatClampNeg) (0 : Int32)) 0 15 ((u101.1 0 15) + (1 : Int32))) 11 ((((v.1 0 12) + (1 : Int32)) + (1 : Int32)).toNatClampNeg) x117)) := hD
      refine W.widen (k := 0) (n := 0) (Nat.le_refl _) (Nat.le_refl _) ?_
      refine lv_aload_n hx hb dX13_both_111 rfl (lv_at hl 2 rfl) ?_
      refine va_get (D := (dC, dI)) (ci := 16) (fs := mF ad (wA (wA (wA (wA (wA (wA u101 11 ((u101.1 0 12).toNatClampNeg) r105) 0 12 ((u101.1 0 12) + (1 : Int32))) 13 ((u101.1 0 15).toNatClampNeg) (24 : Int32)) 14 ((u101.1 0 15).toNatClampNeg) (0 : Int32)) 0 15 ((u101.1 0 15) + (1 : Int32))) 11 ((((v.1 0 12) + (1 : Int32)) + (1 : Int32)).toNatClampNeg) x117)) (v := .ref (ad 14)) (C := RX13) (T := TX13) (N := 124) hx hb ht itX13 hown hK hP 0 rfl rfl 14 (by decide) (ht _ tw_12) (fun _ h9 => h9) rfl dX13_both_112 ?_
      refine lv_iload_n hx hb dX13_both_115 rfl (lv_at hl 0 rfl) ?_
      refine lv_aload_n hx hb dX13_both_116 rfl (lv_at hl 2 rfl) ?_
      refine va_get (D := (dC, dI)) (ci := 16) (fs := mF ad (wA (wA (wA (wA (wA (wA u101 11 ((u101.1 0 12).toNatClampNeg) r105) 0 12 ((u101.1 0 12) + (1 : Int32))) 13 ((u101.1 0 15).toNatClampNeg) (24 : Int32)) 14 ((u101.1 0 15).toNatClampNeg) (0 : Int32)) 0 15 ((u101.1 0 15) + (1 : Int32))) 11 ((((v.1 0 12) + (1 : Int32)) + (1 : Int32)).toNatClampNeg) x117)) (v := .int ((u101.1 0 15) + (1 : Int32))) (C := RX13) (T := TX13) (N := 124) hx hb ht itX13 hown hK hP 0 rfl rfl 15 (by decide) (ht _ tw_11) (fun _ h9 => h9) rfl dX13_both_117 ?_
      refine va_iast (D := (dC, dI)) (f := (upd (u101.1 14) ((u101.1 0 15).toNatClampNeg) (0 : Int32))) hx hb hK hP hD hS 10 0 rfl rfl (in_y (a := (v.1 0 15).toInt) (b := 16000) rfl (om_cd2a109470 zos) (om_df344c3ca1 zt zos) rfl) dX13_both_120 (fun H locs hP hD hS => ?_)
      have hP := cP_ (ma_14 ad N cI cZ cJ (wA (wA (wA (wA (wA (wA u101 11 ((u101.1 0 12).toNatClampNeg) r105) 0 12 ((u101.1 0 12) + (1 : Int32))) 13 ((u101.1 0 15).toNatClampNeg) (24 : Int32)) 14 ((u101.1 0 15).toNatClampNeg) (0 : Int32)) 0 15 ((u101.1 0 15) + (1 : Int32))) 11 ((((v.1 0 12) + (1 : Int32)) + (1 : Int32)).toNatClampNeg) x117) ((v.1 0 15).toNatClampNeg) ((u101.1 0 15) + (1 : Int32))) hP
      have hD := cD_ (ma_14 ad N cI cZ cJ (wA (wA (wA (wA (wA (wA u101 11 ((u101.1 0 12).toNatClampNeg) r105) 0 12 ((u101.1 0 12) + (1 : Int32))) 13 ((u101.1 0 15).toNatClampNeg) (24 : Int32)) 14 ((u101.1 0 15).toNatClampNeg) (0 : Int32)) 0 15 ((u101.1 0 15) + (1 : Int32))) 11 ((((v.1 0 12) + (1 : Int32)) + (1 : Int32)).toNatClampNeg) x117) ((v.1 0 15).toNatClampNeg) ((u101.1 0 15) + (1 : Int32))) hD
      obtain ⟨u118, hu119⟩ : ∃ z, z = (wA (wA (wA (wA (wA (wA (wA u101 11 ((u101.1 0 12).toNatClampNeg) r105) 0 12 ((u101.1 0 12) + (1 : Int32))) 13 ((u101.1 0 15).toNatClampNeg) (24 : Int32)) 14 ((u101.1 0 15).toNatClampNeg) (0 : Int32)) 0 15 ((u101.1 0 15) + (1 : Int32))) 11 ((((v.1 0 12) + (1 : Int32)) + (1 : Int32)).toNatClampNeg) x117) 14 ((v.1 0 15).toNatClampNeg) ((u101.1 0 15) + (1 : Int32))) := ⟨_, rfl⟩
      have fr119 : FG [12, 15] [0, 11, 13, 14] u101 u118 := by rw [hu119]; exact (FG.a (FG.a (FG.f (FG.a (FG.a (FG.f (FG.a (FG.rf _) ((u101.1 0 12).toNatClampNeg) r105 (by decide) (by decide)) ((u101.1 0 12) + (1 : Int32)) (by decide)) ((u101.1 0 15).toNatClampNeg) (24 : Int32) (by decide) (by decide)) ((u101.1 0 15).toNatClampNeg) (0 : Int32) (by decide) (by decide)) ((u101.1 0 15) + (1 : Int32)) (by decide)) ((((v.1 0 12) + (1 : Int32)) + (1 : Int32)).toNatClampNeg) x117 (by decide) (by decide)) ((v.1 0 15).toNatClampNeg) ((u101.1 0 15) + (1 : Int32)) (by decide) (by decide))
      have kc119 : ∀ j : Nat, (j : Int) < (v.1 0 12).toInt → (u118.1 11) j = (v.1 11) j := by rw [hu119]; exact (fun (j9 : Nat) hj9 => (Eq.trans (pk_un3 (a := (((v.1 0 12) + (1 : Int32)) + (1 : Int32)).toInt) rfl (om_88af80de2a zws z76) (om_9160dd3fa3 z76 hj9)) (Eq.trans (pk_un3 (a := (u101.1 0 12).toInt) rfl (om_38cf47e436 zws q95 pw100) (om_1a10ac8dc0 q95 pw100 hj9)) (Eq.trans (kc100 j9 (om_37b328d921 q95 hj9)) (kc89 j9 hj9)))))
      have ko119 : ∀ j : Nat, (j : Int) < (v.1 0 15).toInt → (u118.1 13) j = (v.1 13) j := by rw [hu119]; exact (fun (j9 : Nat) hj9 => (Eq.trans (pk_un3 (a := (u101.1 0 15).toInt) rfl (om_fc2b7976a4 zos q96 po100) (om_a17e130e46 q96 po100 hj9)) (Eq.trans (ko100 j9 (om_caf7b1eac4 q96 hj9)) (ko89 j9 hj9))))
      have kg119 : ∀ j : Nat, (j : Int) < (v.1 0 15).toInt → (u118.1 14) j = (v.1 14) j := by rw [hu119]; exact (fun (j9 : Nat) hj9 => (Eq.trans (pk_un3 (a := (v.1 0 15).toInt) rfl (om_cd2a109470 zos) (om_4fe904e9bf hj9)) (Eq.trans (pk_un3 (a := (u101.1 0 15).toInt) rfl (om_fc2b7976a4 zos q96 po100) (om_a17e130e46 q96 po100 hj9)) (Eq.trans (kg100 j9 (om_caf7b1eac4 q96 hj9)) (kg89 j9 hj9)))))
      rw [← hu119] at hP hD
      have q120 : (u118.1 0 47).toInt = (u101.1 0 47).toInt := congrArg Int32.toInt (fr119.2.1 47 (by decide))
      have q121 : (u88.1 0 49).toInt = (v.1 0 49).toInt := congrArg Int32.toInt (fr89.2.1 49 (by decide))
      have q122 : (u118.1 0 12).toInt = (((u101.1 0 12).toInt) + (1 : Int)) := by rw [hu119]; exact (show ((u101.1 0 12) + (1 : Int32)).toInt = (((u101.1 0 12).toInt) + (1 : Int)) from z109)
      have q123 : (u118.1 0 15).toInt = (((u101.1 0 15).toInt) + (1 : Int)) := by rw [hu119]; exact (show ((u101.1 0 15) + (1 : Int32)).toInt = (((u101.1 0 15).toInt) + (1 : Int)) from z113)
      have q124 : (u118.1 0 43).toInt = (u101.1 0 43).toInt := congrArg Int32.toInt (fr119.2.1 43 (by decide))
      have q125 : (u118.1 0 39).toInt = (u101.1 0 39).toInt := congrArg Int32.toInt (fr119.2.1 39 (by decide))
      have q126 : (u118.1 0 32).toInt = (u101.1 0 32).toInt := congrArg Int32.toInt (fr119.2.1 32 (by decide))
      have q127 : (u118.1 0 48).toInt = (u101.1 0 48).toInt := congrArg Int32.toInt (fr119.2.1 48 (by decide))
      have q128 : (u118.1 0 33).toInt = (u101.1 0 33).toInt := congrArg Int32.toInt (fr119.2.1 33 (by decide))
      refine vx_ret ?_
      exact W.vret hx hb hr (fun t ht9 hW => ⟨⟨u118, rfl, ⟨(FG.tr (FG.tr (FG.tr (FG.rf _) (FG.up fr89 (by decide) (by decide))) (FG.up fr100 (by decide) (by decide))) (FG.up fr119 (by decide) (by decide))), (show (v.1 0 47).toInt + 1 ≤ (u118.1 0 47).toInt ∧ (u118.1 0 47).toInt ≤ 1500 from (om_a5c0ac1db2 q91 pt100 pb100 q120)), (show (v.1 0 49).toInt ≠ (v.1 0 47).toInt from (om_3ea692d063 q91 q121 pb100)), (show (v.1 0 12).toInt ≤ (u118.1 0 12).toInt ∧ (u118.1 0 12).toInt - 15 * (u118.1 0 47).toInt ≤ (v.1 0 12).toInt - 15 * (v.1 0 47).toInt + 5 from (om_4a991ac19c q95 q91 pw100 q122 q120)), (show (v.1 0 15).toInt ≤ (u118.1 0 15).toInt ∧ (u118.1 0 15).toInt - 10 * (u118.1 0 47).toInt ≤ (v.1 0 15).toInt - 10 * (v.1 0 47).toInt + 2 from (om_b3f8ba7422 q96 q91 po100 q123 q120)), (show (v.1 0 43).toInt ≤ (u118.1 0 43).toInt ∧ (u118.1 0 43).toInt - 15 * (u118.1 0 47).toInt ≤ (v.1 0 43).toInt - 15 * (v.1 0 47).toInt from (om_3ebe2a93c0 q97 q91 pf100 q124 q120)), (show (v.1 0 39).toInt ≤ (u118.1 0 39).toInt ∧ (u118.1 0 39).toInt - 1 * (u118.1 0 47).toInt ≤ (v.1 0 39).toInt - 1 * (v.1 0 47).toInt from (om_a55bbffa11 q98 q91 pk100 q125 q120)), (show (u118.1 0 32).toInt = (v.1 0 32).toInt ∧ (u118.1 0 48).toInt = (v.1 0 48).toInt from (om_88acc2d82b q94 q90 pp100 q126 q127)), (show (v.1 0 33).toInt ≤ (u118.1 0 33).toInt ∧ (u118.1 0 33).toInt ≤ 500 from (om_df59a1a895 q93 ph100 q128)), (fun (j9 : Nat) hj9 => (kc119 j9 hj9)), (fun (j9 : Nat) hj9 => (ko119 j9 hj9)), (fun (j9 : Nat) hj9 => (kg119 j9 hj9)), (show AR 35 0 1500 u118 from AR.fr (fl := [12, 15]) (al := [0, 11, 13, 14]) fr119 (by decide) a35100), (show AR 37 0 23999 u118 from AR.fr (fl := [12, 15]) (al := [0, 11, 13, 14]) fr119 (by decide) a37100), (show AR 38 0 15999 u118 from AR.fr (fl := [12, 15]) (al := [0, 11, 13, 14]) fr119 (by decide) a38100), (show AR 40 0 23999 u118 from AR.fr (fl := [12, 15]) (al := [0, 11, 13, 14]) fr119 (by decide) a40100), (show FX u118 from FX.fr (fl := [12, 15]) (al := [0, 11, 13, 14]) fr119 (by decide) (by decide) fx100)⟩, by rw [ht9]; exact hP, hD⟩, hS.F ht9⟩) hS.2.2 dX13_both_121
