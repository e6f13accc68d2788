theorem dX13_block_0 : decode cX13_block 0 = .ok (.aload_n 0, 1) := by decide +kernel
theorem dX13_block_1 : decode cX13_block 1 = .ok (.getfield 171, 3) := by decide +kernel
theorem dX13_block_4 : decode cX13_block 4 = .ok (.istore_n 1, 1) := by decide +kernel
theorem dX13_block_5 : decode cX13_block 5 = .ok (.aload_n 0, 1) := by decide +kernel
theorem dX13_block_6 : decode cX13_block 6 = .ok (.getfield 353, 3) := by decide +kernel
theorem dX13_block_9 : decode cX13_block 9 = .ok (.istore_n 2, 1) := by decide +kernel
theorem dX13_block_10 : decode cX13_block 10 = .ok (.aload_n 0, 1) := by decide +kernel
theorem dX13_block_11 : decode cX13_block 11 = .ok (.bipush 123, 2) := by decide +kernel
theorem dX13_block_13 : decode cX13_block 13 = .ok (.invokevirtual 281, 3) := by decide +kernel
theorem dX13_block_16 : decode cX13_block 16 = .ok (.aload_n 0, 1) := by decide +kernel
theorem dX13_block_17 : decode cX13_block 17 = .ok (.aload_n 0, 1) := by decide +kernel
theorem dX13_block_18 : decode cX13_block 18 = .ok (.getfield 171, 3) := by decide +kernel
theorem dX13_block_21 : decode cX13_block 21 = .ok (.putfield 353, 3) := by decide +kernel
theorem dX13_block_24 : decode cX13_block 24 = .ok (.aload_n 0, 1) := by decide +kernel
theorem dX13_block_25 : decode cX13_block 25 = .ok (.bipush 125, 2) := by decide +kernel
theorem dX13_block_27 : decode cX13_block 27 = .ok (.invokevirtual 158, 3) := by decide +kernel
theorem dX13_block_30 : decode cX13_block 30 = .ok (.ifCond .ne 10, 3) := by decide +kernel
theorem dX13_block_40 : decode cX13_block 40 = .ok (.aload_n 0, 1) := by decide +kernel
theorem dX13_block_41 : decode cX13_block 41 = .ok (.bipush 125, 2) := by decide +kernel
theorem dX13_block_43 : decode cX13_block 43 = .ok (.invokevirtual 287, 3) := by decide +kernel
theorem dX13_block_46 : decode cX13_block 46 = .ok (.aload_n 0, 1) := by decide +kernel
theorem dX13_block_47 : decode cX13_block 47 = .ok (.iload_n 1, 1) := by decide +kernel
theorem dX13_block_48 : decode cX13_block 48 = .ok (.putfield 171, 3) := by decide +kernel
theorem dX13_block_51 : decode cX13_block 51 = .ok (.aload_n 0, 1) := by decide +kernel
theorem dX13_block_52 : decode cX13_block 52 = .ok (.iload_n 2, 1) := by decide +kernel
theorem dX13_block_53 : decode cX13_block 53 = .ok (.putfield 353, 3) := by decide +kernel
theorem dX13_block_56 : decode cX13_block 56 = .ok (.return_, 1) := by decide +kernel
theorem dX13_block_33 : decode cX13_block 33 = .ok (.aload_n 0, 1) := by decide +kernel
theorem dX13_block_34 : decode cX13_block 34 = .ok (.invokevirtual 356, 3) := by decide +kernel
theorem dX13_block_37 : decode cX13_block 37 = .ok (.goto (-13), 3) := by decide +kernel
theorem om_25e1fa377e {x0 x1 : Int} (h0 : x0 = (x1) + (1 : Int)) (h1 : x1 < 1500) : x1 + 1 ≤ x0 ∧ x0 ≤ 1500 := by omega
theorem om_9f25030599 {x0 x1 x2 : Int} (h0 : x0 = (x1) + (1 : Int)) : x2 ≤ x2 ∧ x2 - 15 * x0 + 15 ≤ x2 - 15 * x1 := by omega
theorem om_a69241b3b4 {x0 x1 x2 : Int} (h0 : x0 = (x1) + (1 : Int)) : x2 ≤ x2 ∧ x2 - 10 * x0 + 10 ≤ x2 - 10 * x1 := by omega
theorem om_dd211c80d8 {x0 x1 x2 : Int} (h0 : x0 = (x1) + (1 : Int)) : x2 ≤ x2 ∧ x2 - 15 * x0 ≤ x2 - 15 * x1 := by omega
theorem om_7fb4ccc7b3 {x0 x1 x2 : Int} (h0 : x0 = (x1) + (1 : Int)) : x2 ≤ x2 ∧ x2 - 1 * x0 ≤ x2 - 1 * x1 := by omega
theorem om_c01123aec4 {x0 x1 x2 : Int} (h0 : x0 = (x1) + (1 : Int)) : x2 = x2 ∧ x0 = x1 + 1 := by omega
theorem om_936e45a552 {x0 x1 x2 x3 x4 : Int} (h0 : 0 ≤ x0 ∧ x0 ≤ 15 * x1 + 0) (h1 : x1 + 1 ≤ x2 ∧ x2 ≤ 1500) (h2 : x3 ≤ x4 ∧ x4 - 15 * x2 + 15 ≤ x3 - 15 * x1) : 0 ≤ x2 ∧ x2 ≤ 1500 := by omega
theorem om_f22ca966b6 {x0 x1 x2 x3 : Int} (h0 : 0 ≤ x0 ∧ x0 ≤ 40) (h1 : x0 < 40) (h2 : x1 = x2 ∧ x3 = x0 + 1) : 0 ≤ x3 ∧ x3 ≤ 40 := by omega
theorem om_aa1edce31d {x0 x1 x2 x3 : Int} (h0 : 0 ≤ x0 ∧ x0 ≤ 15 * x1 + 2) (h1 : x0 ≤ x2 ∧ x2 - 15 * x3 + 15 ≤ x0 - 15 * x1) : -2147483648 ≤ (x3) + (1 : Int) := by omega
theorem om_ab132201e3 {x0 x1 x2 x3 : Int} (h0 : 0 ≤ x0 ∧ x0 ≤ 40) (h1 : x1 = x2 ∧ x3 = x0 + 1) : -2147483648 ≤ (x3) - (1 : Int) := by omega
theorem om_24bc851bce {x0 x1 x2 x3 : Int} (h0 : x0 < 40) (h1 : x1 = x2 ∧ x3 = x0 + 1) : (x3) - (1 : Int) < 2147483648 := by omega
theorem om_e6c1a67d9b {x0 x1 x2 x3 x4 : Int} (h0 : x0 ≤ x1 ∧ x1 - 15 * x2 + 15 ≤ x0 - 15 * x3) (h1 : x4 = (x2) + (1 : Int)) (h2 : x2 < 1500) : x3 + 1 ≤ x4 ∧ x4 ≤ 1500 := by omega
theorem om_fb0894ce83 {x0 x1 x2 x3 x4 : Int} (h0 : x0 ≤ x1 ∧ x1 - 15 * x2 + 15 ≤ x0 - 15 * x3) (h1 : x4 = (x2) + (1 : Int)) : x0 ≤ x1 ∧ x1 - 15 * x4 ≤ x0 - 15 * x3 := by omega
theorem om_b85d42c3ca {x0 x1 x2 x3 x4 : Int} (h0 : x0 ≤ x1 ∧ x1 - 10 * x2 + 10 ≤ x0 - 10 * x3) (h1 : x4 = (x2) + (1 : Int)) : x0 ≤ x1 ∧ x1 - 10 * x4 ≤ x0 - 10 * x3 := by omega
theorem om_2046725687 {x0 x1 x2 x3 x4 : Int} (h0 : x0 = x1 ∧ x2 = x3 + 1) (h1 : x4 = (x2) - (1 : Int)) : x0 = x1 ∧ x4 = x3 := by omega
theorem om_747eb5a70b {x0 x2 x3 x4 : Int} {n1 n5 : Nat} (h0 : 40 ≤ x0 + (n1 : Int)) (h1 : x2 = x3 ∧ x4 = x0 + 1) (h2 : n1 = n5 + 1) : 40 ≤ x4 + (n5 : Int) := by omega
theorem om_dec479af6f {x0 x1 x2 x3 x4 x5 : Int} (h0 : x0 ≤ x1 ∧ x1 ≤ 500) (h1 : 0 ≤ x2 ∧ x2 ≤ x1 ∧ x3 = x4 + 0 ∧ 0 ≤ x5 ∧ x5 ≤ 500) : 0 ≤ x2 ∧ x2 ≤ 500 := by omega
theorem om_75c21808ae {x0 x1 x2 x3 x4 x5 : Int} (h0 : x0 ≤ x1 ∧ x1 ≤ 500) (h1 : 0 ≤ x2 ∧ x2 ≤ x1 ∧ x3 = x4 + 0 ∧ 0 ≤ x5 ∧ x5 ≤ 500) : 0 ≤ x1 ∧ x1 ≤ 500 := by omega
theorem om_444147deb6 {x0 x1 x2 x3 x4 x5 x6 x7 x8 x9 x10 : Int} (h0 : 0 ≤ x0 ∧ x1 + x0 ≤ x2) (h1 : x0 = 0) (h2 : x3 = x0 ∧ x4 = x5 + 1) (h3 : 0 ≤ x6 ∧ x6 ≤ x7 ∧ x8 = x9 + 0 ∧ 0 ≤ x10 ∧ x10 ≤ 500) : 0 ≤ x3 ∧ x6 + x3 ≤ x7 := by omega
theorem om_99bee73f09 {x0 x1 x2 x3 : Int} (h0 : 0 ≤ x0 ∧ x0 ≤ 15 * x1 + 2) (h1 : x0 ≤ x2 ∧ x2 - 15 * x3 + 15 ≤ x0 - 15 * x1) : 0 ≤ x2 ∧ x2 ≤ 15 * x3 + 2 := by omega
theorem om_de3cf2ef24 {x0 x1 x2 x3 : Int} (h0 : 0 ≤ x0 ∧ x0 ≤ 10 * x1 + 0) (h1 : x0 ≤ x2 ∧ x2 - 10 * x3 + 10 ≤ x0 - 10 * x1) : 0 ≤ x2 ∧ x2 ≤ 10 * x3 + 0 := by omega
theorem om_dd466cfb49 {x0 x1 x2 x3 : Int} (h0 : 0 ≤ x0 ∧ x0 ≤ 15 * x1 + 0) (h1 : x0 ≤ x2 ∧ x2 - 15 * x3 ≤ x0 - 15 * x1) : 0 ≤ x2 ∧ x2 ≤ 15 * x3 + 0 := by omega
theorem om_ecb466e919 {x0 x1 x2 x3 : Int} (h0 : 0 ≤ x0 ∧ x0 ≤ 1 * x1 + 0) (h1 : x0 ≤ x2 ∧ x2 - 1 * x3 ≤ x0 - 1 * x1) : 0 ≤ x2 ∧ x2 ≤ 1 * x3 + 0 := by omega
theorem om_3a25394644 {x0 x1 x2 x3 x4 x5 : Int} (h0 : 0 ≤ x0 ∧ x1 + x0 ≤ x2) (h1 : x0 = 0) (h2 : x3 = x0 ∧ x4 = x5 + 1) : x3 = 0 := by omega
theorem om_f1885ad227 {x0 x1 x2 x3 x4 : Int} (h0 : 0 ≤ x0 ∧ x0 ≤ x1 ∧ x2 = x3 + 0 ∧ 0 ≤ x4 ∧ x4 ≤ 500) : 0 ≤ x4 ∧ x4 ≤ 500 := by omega
theorem om_ee3a668266 {x0 x1 x2 x3 x4 x5 x6 x7 x8 : Int} (h0 : 0 ≤ x0 ∧ x0 ≤ x1) (h1 : x2 = x3 ∧ x4 = x1 + 1) (h2 : 0 ≤ x5 ∧ x5 ≤ x6 ∧ x7 = x0 + 0 ∧ 0 ≤ x8 ∧ x8 ≤ 500) : 0 ≤ x7 ∧ x7 ≤ x4 := by omega
theorem om_c78ee38cdc {n0 n1 : Nat} (h0 : n0 = n1 + 1) : (40 * n1 + 48) + 1 ≤ 40 * n0 + 46 := by omega
theorem om_9d72bc7b2e {n0 n1 : Nat} (h0 : n0 = n1 + 1) : 8 + (1 + 11) + 28 * (40 * n1 + 48) ≤ 28 * (40 * n0 + 46) := by omega
theorem om_4fb5df961e {x0 x1 x2 x3 : Int} {n4 : Nat} (h0 : x0 ≤ x1 ∧ x1 - 15 * x2 + 15 ≤ x0 - 15 * x3) (h1 : (n4 : Int) < x0) : (n4 : Int) < x1 := by omega
theorem om_42deb639a3 {x0 x1 x2 x3 : Int} {n4 : Nat} (h0 : x0 ≤ x1 ∧ x1 - 10 * x2 + 10 ≤ x0 - 10 * x3) (h1 : (n4 : Int) < x0) : (n4 : Int) < x1 := by omega
theorem om_1c68d89cdf {x0 x1 x2 x3 x4 x5 : Int} (h0 : x0 ≤ x1 ∧ x1 - 15 * x2 + 15 ≤ x0 - 15 * x3) (h1 : x2 + 1 ≤ x4 ∧ x4 ≤ 1500) (h2 : x1 ≤ x5 ∧ x5 - 15 * x4 ≤ x1 - 15 * x2) : x3 + 1 ≤ x4 ∧ x4 ≤ 1500 := by omega
theorem om_ba044e773f {x0 x1 x2 x3 x4 x5 : Int} (h0 : x0 ≤ x1 ∧ x1 - 15 * x2 + 15 ≤ x0 - 15 * x3) (h1 : x1 ≤ x4 ∧ x4 - 15 * x5 ≤ x1 - 15 * x2) : x0 ≤ x4 ∧ x4 - 15 * x5 + 15 ≤ x0 - 15 * x3 := by omega
theorem om_1bb6637a9b {x0 x1 x2 x3 x4 x5 : Int} (h0 : x0 ≤ x1 ∧ x1 - 10 * x2 + 10 ≤ x0 - 10 * x3) (h1 : x1 ≤ x4 ∧ x4 - 10 * x5 ≤ x1 - 10 * x2) : x0 ≤ x4 ∧ x4 - 10 * x5 + 10 ≤ x0 - 10 * x3 := by omega
theorem om_374e1fb9ff {x0 x1 x2 x3 x4 x5 : Int} (h0 : x0 ≤ x1 ∧ x1 - 15 * x2 ≤ x0 - 15 * x3) (h1 : x1 ≤ x4 ∧ x4 - 15 * x5 ≤ x1 - 15 * x2) : x0 ≤ x4 ∧ x4 - 15 * x5 ≤ x0 - 15 * x3 := by omega
theorem om_54799ff400 {x0 x1 x2 x3 x4 x5 : Int} (h0 : x0 ≤ x1 ∧ x1 - 1 * x2 ≤ x0 - 1 * x3) (h1 : x1 ≤ x4 ∧ x4 - 1 * x5 ≤ x1 - 1 * x2) : x0 ≤ x4 ∧ x4 - 1 * x5 ≤ x0 - 1 * x3 := by omega
theorem om_8cd3707d76 {x0 x1 x2 x3 x4 x5 : Int} (h0 : x0 = x1 ∧ x2 = x3 + 1) (h1 : x4 = x0 ∧ x5 = x2) : x4 = x1 ∧ x5 = x3 + 1 := by omega
theorem om_1f0f54f6ef {x0 x1 x2 x3 x4 x5 x6 x7 x8 : Int} (h0 : 0 ≤ x0 ∧ x0 ≤ x1 ∧ x2 = x3 + 0 ∧ 0 ≤ x4 ∧ x4 ≤ 500) (h1 : 0 ≤ x5 ∧ x5 ≤ x6 ∧ x7 = x2 + 0 ∧ 0 ≤ x8 ∧ x8 ≤ 500) : 0 ≤ x5 ∧ x5 ≤ x6 ∧ x7 = x3 + 0 ∧ 0 ≤ x8 ∧ x8 ≤ 500 := by omega
theorem om_d13a67caa6 {x0 x1 : Int} (h0 : x0 + 1 ≤ x1 ∧ x1 ≤ 1500) : 1500 - x1 < 1500 - x0 := by omega
theorem om_71815dc006 {x0 x1 : Int} (h0 : x0 + 1 ≤ x1 ∧ x1 ≤ 1500) : 0 < 1500 - x0 := by omega
set_option maxHeartbeats 16000000 in
set_option maxRecDepth 100000 in
theorem c_m_block (l : Launch) (n : Nat) (ihS : ∀ m, n = m + 1 → Cx_statement l m) (dC : Nat → ClassId) (dI : Nat → Nat → Nat) (cI cB cZ cJ cR : ClassId) (tb : Nat → Nat) (sz : Nat) (ad : Nat → Nat) (N : Nat) (v : MS) (lab : Nat → Nat) (labm : Nat → Nat) (zn : 40 ≤ (v.1 0 48).toInt + (n : Int)) (zt : 0 ≤ (v.1 0 47).toInt ∧ (v.1 0 47).toInt ≤ 1500) (zop : 0 ≤ (v.1 0 48).toInt ∧ (v.1 0 48).toInt ≤ 40) (zkn : 0 ≤ (v.1 0 30).toInt ∧ (v.1 0 30).toInt ≤ 500) (zhi : 0 ≤ (v.1 0 33).toInt ∧ (v.1 0 33).toInt ≤ 500) (zs : 0 ≤ (v.1 0 32).toInt ∧ (v.1 0 30).toInt + (v.1 0 32).toInt ≤ (v.1 0 33).toInt) (zws : 0 ≤ (v.1 0 12).toInt ∧ (v.1 0 12).toInt ≤ 15 * (v.1 0 47).toInt + 2) (zos : 0 ≤ (v.1 0 15).toInt ∧ (v.1 0 15).toInt ≤ 10 * (v.1 0 47).toInt + 0) (zfs : 0 ≤ (v.1 0 43).toInt ∧ (v.1 0 43).toInt ≤ 15 * (v.1 0 47).toInt + 0) (zcs : 0 ≤ (v.1 0 39).toInt ∧ (v.1 0 39).toInt ≤ 1 * (v.1 0 47).toInt + 0) (zgl : 0 ≤ (v.1 0 27).toInt ∧ (v.1 0 27).toInt ≤ 60) (hT : TI v) (a29 : AR 29 0 1500 v) (a23 : AR 23 0 1500 v) (a35 : AR 35 0 1500 v) (a37 : AR 37 0 23999 v) (a38 : AR 38 0 15999 v) (a40 : AR 40 0 23999 v) (fx : FX v) (zp0 : (v.1 0 32).toInt = 0) (zmk : 0 ≤ (v.1 0 34).toInt ∧ (v.1 0 34).toInt ≤ 500) (zlp : 0 ≤ (v.1 0 52).toInt ∧ (v.1 0 52).toInt ≤ (v.1 0 48).toInt) (gi : GI true v lab labm) : vx_Met l yX13_block (Cond.code yX13_block cX13_block 3 none :: tw_W) ({ frames := 40 * n + 46, cells := 0, slots := 0, locals := 28 * (40 * n + 46) }) (pc_ (dC, dI) (tyS cI cB cZ cJ cR) tb (mW ad N cI cZ cJ v) sz [.ref (ad 0)]) (qv_ (dC, dI) (mW ad N cI cZ cJ v) sz (fun (u : MS) => FG [12, 15, 30, 31, 32, 33, 34, 39, 43, 44, 45, 47, 48, 49, 50, 51, 52, 53, 54, 55, 56, 57, 58, 59, 60] [0, 11, 13, 14, 29, 35, 36, 37, 38, 40, 41, 42, 61, 62, 63, 64, 65, 66] v u ∧ ((v.1 0 47).toInt + 1 ≤ (u.1 0 47).toInt ∧ (u.1 0 47).toInt ≤ 1500) ∧ ((v.1 0 12).toInt ≤ (u.1 0 12).toInt ∧ (u.1 0 12).toInt - 15 * (u.1 0 47).toInt ≤ (v.1 0 12).toInt - 15 * (v.1 0 47).toInt) ∧ ((v.1 0 15).toInt ≤ (u.1 0 15).toInt ∧ (u.1 0 15).toInt - 10 * (u.1 0 47).toInt ≤ (v.1 0 15).toInt - 10 * (v.1 0 47).toInt) ∧ ((v.1 0 43).toInt ≤ (u.1 0 43).toInt ∧ (u.1 0 43).toInt - 15 * (u.1 0 47).toInt ≤ (v.1 0 43).toInt - 15 * (v.1 0 47).toInt) ∧ ((v.1 0 39).toInt ≤ (u.1 0 39).toInt ∧ (u.1 0 39).toInt - 1 * (u.1 0 47).toInt ≤ (v.1 0 39).toInt - 1 * (v.1 0 47).toInt) ∧ ((u.1 0 32).toInt = (v.1 0 32).toInt ∧ (u.1 0 48).toInt = (v.1 0 48).toInt) ∧ ((v.1 0 33).toInt ≤ (u.1 0 33).toInt ∧ (u.1 0 33).toInt ≤ 500) ∧ (∀ j : Nat, (j : Int) < (v.1 0 12).toInt → (u.1 11) j = (v.1 11) j) ∧ (∀ j : Nat, (j : Int) < (v.1 0 15).toInt → (u.1 13) j = (v.1 13) j) ∧ (∀ j : Nat, (j : Int) < (v.1 0 15).toInt → (u.1 14) j = (v.1 14) j) ∧ (AR 35 0 1500 u) ∧ (AR 37 0 23999 u) ∧ (AR 38 0 15999 u) ∧ (AR 40 0 23999 u) ∧ (FX u) ∧ ((u.1 0 30).toInt = (v.1 0 30).toInt ∧ (u.1 0 52).toInt = (v.1 0 52).toInt + 0 ∧ 0 ≤ (u.1 0 34).toInt ∧ (u.1 0 34).toInt ≤ 500) ∧ (AR 29 0 1500 u) ∧ (GQ u (v.1 0 12).toInt (v.1 0 15).toInt lab labm)) (fun (u : MS) => (mW ad N cI cZ cJ u))) (qxm (dC, dI) (mW ad N cI cZ cJ v) sz (fun (u : MS) => (mW ad N cI cZ cJ u)) (fun (u : MS) => Fr v u)) 0 0 (va_A (mW ad N cI cZ cJ v) sz) := by
  refine vx_ofW (cc := cX13_block) (maxL := 3) (ret := none) (by decide) rfl ?_
  intro p e s m args below meth c s₁ B hml hnt hv
  obtain ⟨rfl, hsz, hP, hKK, hD0, hFx⟩ := hv
  have hK := hKK.1
  have hx := B.exec
  have hb := B.bytes
  have hr := B.returns
  have ht : ∀ w ∈ tw_W, w.before _ s = true := fun w h => atoms_spec (ws := Cond.code yX13_block cX13_block 3 none :: tw_W) B.pre w (List.mem_cons_of_mem _ h)
  have hown : s.vm.findClass RX13 = some m.cls := findClass_of_methodNamed B.named
  have hlocks := B.notSynchronized
  subst hsz
  unfold qv_ qxm
  have hD := hD0.self (sz := s.heap.size)
  generalize hAe : va_A (mW ad N cI cZ cJ v) s.heap.size = A at hD hFx ⊢
  have hA : ∀ q : Nat, s.heap.size ≤ q → A q := fun q h => by rw [← hAe]; exact Or.inr h
  have hS : va_S A s.heap s.heap [] := va_S.rf
  have hl := lv_entry ([.ref (ad 0)]) (n := 3) (Nat.le_of_ble_eq_true rfl)
  rw [lg_entry_eq]
  generalize (lg_sl ([.ref (ad 0)]) ++ List.replicate (3 - (lg_sl ([.ref (ad 0)])).length) Slot.unset).toArray = ls at hl ⊢
  have hl : lv_has ls 3 [(0, .ref (ad 0))] := hl
  refine lv_aload_n hx hb dX13_block_0 rfl (lv_at hl 0 rfl) ?_
  refine va_get (D := (dC, dI)) (ci := 16) (fs := mF ad v) (v := .int (v.1 0 30)) (C := RX13) (T := TX13) (N := 124) hx hb ht itX13 hown hK hP 0 rfl rfl 30 (by decide) (ht _ tw_44) (fun _ h9 => h9) rfl dX13_block_1 ?_
  refine lv_istore_n (lv' := [(1, .int (v.1 0 30)), (0, .ref (ad 0))]) hx hb dX13_block_4 rfl hl (by decide) rfl (fun ls hl => ?_)
  refine lv_aload_n hx hb dX13_block_5 rfl (lv_at hl 1 rfl) ?_
  refine va_get (D := (dC, dI)) (ci := 16) (fs := mF ad v) (v := .int (v.1 0 31)) (C := RX13) (T := TX13) (N := 124) hx hb ht itX13 hown hK hP 0 rfl rfl 31 (by decide) (ht _ tw_158) (fun _ h9 => h9) rfl dX13_block_6 ?_
  refine lv_istore_n (lv' := [(2, .int (v.1 0 31)), (1, .int (v.1 0 30)), (0, .ref (ad 0))]) hx hb dX13_block_9 rfl hl (by decide) rfl (fun ls hl => ?_)
  refine lv_aload_n hx hb dX13_block_10 rfl (lv_at hl 2 rfl) ?_
  refine lv_bipush (v := 123) hx hb dX13_block_11 (by decide) ?_
  refine cux_v (rx_V (n := 1) (As := [.int 123]) (rest := []) hx hb hml hown ht hKK hFx hP hD hS hA (c_m_open l dC dI cI cB cZ cJ cR tb s.heap.size ad N v (123 : Int32) (show 0 ≤ (v.1 0 47).toInt ∧ (v.1 0 47).toInt ≤ 1500 from (om_2fb699b811 zt zfs)) (show 0 ≤ (v.1 0 48).toInt ∧ (v.1 0 48).toInt ≤ 40 from (om_7eaf33e007 zop))) tw_78 tw_79 (by decide +kernel) rfl rfl ⟨show 3 + 1 ≤ 40 * n + 46 from om_f0dd11378f, show 8 + (2 + 11) + 62 ≤ 28 * (40 * n + 46) from om_0d4a820e8d⟩ (List.range (mW ad N cI cZ cJ v).length) (rg_map _) (mW_nd _ _ _ _ _ _) rfl rfl rfl rfl hl.1 rfl (Nat.le_of_ble_eq_true rfl) dX13_block_13 ⟨Nat.le_of_ble_eq_true rfl, Nat.le_of_ble_eq_true rfl⟩) hP hD hS hA (fun u9 ce9 q9 H locs hx9 hP hD hS hc9 hv9 hf9 => ?_) (fun u2 H locs hw1 hP hD hS => ?_)
  · exact vx_out (fun x h9 => (hnt x h9).elim) hlocks hc9 hv9 hf9 (fun t9 ht9 hv8 => ⟨u9, (FG.tr (FG.rf _) hx9), ⟨rfl, by rw [ht9]; exact hP, hD⟩, hS.F ht9⟩) hS.2.2 (Nat.le_refl _) (Nat.le_refl _)
  obtain ⟨rfl, a1, b1, c1⟩ := hw1
  have z4 : ((v.1 0 47) + (1 : Int32)).toInt = ((v.1 0 47).toInt) + (1 : Int) := add_z rfl (show (1 : Int32).toInt = (1 : Int) by decide) (om_3eca9b17a5 zws) (om_27eb55d06c zt)
  have z5 : ((v.1 0 48) + (1 : Int32)).toInt = ((v.1 0 48).toInt) + (1 : Int) := add_z rfl (show (1 : Int32).toInt = (1 : Int) by decide) (om_c2418a9965 zop) (om_defb2a7457 zop)
  have hP : va_P (dC, dI) vwCl (mW ad N cI cZ cJ (wA (wA v 0 47 ((v.1 0 47) + (1 : Int32))) 0 48 ((v.1 0 48) + (1 : Int32)))) H := hP
  have hD : va_D A (mW ad N cI cZ cJ (wA (wA v 0 47 ((v.1 0 47) + (1 : Int32))) 0 48 ((v.1 0 48) + (1 : Int32)))) := hD
  refine W.widen (k := 0) (n := 0) (Nat.le_refl _) (Nat.le_refl _) ?_
  refine lv_aload_n hx hb dX13_block_16 rfl (lv_at hl 2 rfl) ?_
  refine lv_aload_n hx hb dX13_block_17 rfl (lv_at hl 2 rfl) ?_
  refine va_get (D := (dC, dI)) (ci := 16) (fs := mF ad (wA (wA v 0 47 ((v.1 0 47) + (1 : Int32))) 0 48 ((v.1 0 48) + (1 : Int32)))) (v := .int (v.1 0 30)) (C := RX13) (T := TX13) (N := 124) hx hb ht itX13 hown hK hP 0 rfl rfl 30 (by decide) (ht _ tw_44) (fun _ h9 => h9) rfl dX13_block_18 ?_
  refine va_put (D := (dC, dI)) (ci := 16) (fs := mF ad (wA (wA v 0 47 ((v.1 0 47) + (1 : Int32))) 0 48 ((v.1 0 48) + (1 : Int32)))) (v := .int (v.1 0 30)) (ty := .int) (C := RX13) (T := TX13) (N := 124) hx hb ht itX13 tyX13 tyX13_ok nmX13 hown hK hP hD hS 0 rfl rfl 31 (by decide) (ht _ tw_158) (fun _ h9 => h9) rfl (by decide +kernel) rfl rfl (Nat.le_of_ble_eq_true rfl) dX13_block_21 (fun H locs hP hD hS => ?_)
  have hP := cP_ (mw_31 ad N cI cZ cJ (wA (wA v 0 47 ((v.1 0 47) + (1 : Int32))) 0 48 ((v.1 0 48) + (1 : Int32))) (v.1 0 30)) hP
  have hD := cD_ (mw_31 ad N cI cZ cJ (wA (wA v 0 47 ((v.1 0 47) + (1 : Int32))) 0 48 ((v.1 0 48) + (1 : Int32))) (v.1 0 30)) hD
  have g6 : GI true (wA (wA (wA v 0 47 ((v.1 0 47) + (1 : Int32))) 0 48 ((v.1 0 48) + (1 : Int32))) 0 31 (v.1 0 30)) lab labm := (GI.of (GI.of (GI.of gi (by decide)) (by decide)) (by decide))
  refine lpm_ (X := MS) (P := (fun (x9 : MS) (H : Heap) (locs : List Loc) (ls : Array Slot) => (FG [12, 15, 30, 31, 32, 33, 34, 39, 43, 44, 45, 47, 48, 49, 50, 51, 52, 53, 54, 55, 56, 57, 58, 59, 60] [0, 11, 13, 14, 29, 35, 36, 37, 38, 40, 41, 42, 61, 62, 63, 64, 65, 66] v x9) ∧ ((v.1 0 47).toInt + 1 ≤ (x9.1 0 47).toInt ∧ (x9.1 0 47).toInt ≤ 1500) ∧ ((v.1 0 12).toInt ≤ (x9.1 0 12).toInt ∧ (x9.1 0 12).toInt - 15 * (x9.1 0 47).toInt + 15 ≤ (v.1 0 12).toInt - 15 * (v.1 0 47).toInt) ∧ ((v.1 0 15).toInt ≤ (x9.1 0 15).toInt ∧ (x9.1 0 15).toInt - 10 * (x9.1 0 47).toInt + 10 ≤ (v.1 0 15).toInt - 10 * (v.1 0 47).toInt) ∧ ((v.1 0 43).toInt ≤ (x9.1 0 43).toInt ∧ (x9.1 0 43).toInt - 15 * (x9.1 0 47).toInt ≤ (v.1 0 43).toInt - 15 * (v.1 0 47).toInt) ∧ ((v.1 0 39).toInt ≤ (x9.1 0 39).toInt ∧ (x9.1 0 39).toInt - 1 * (x9.1 0 47).toInt ≤ (v.1 0 39).toInt - 1 * (v.1 0 47).toInt) ∧ ((x9.1 0 32).toInt = (v.1 0 32).toInt ∧ (x9.1 0 48).toInt = (v.1 0 48).toInt + 1) ∧ ((v.1 0 33).toInt ≤ (x9.1 0 33).toInt ∧ (x9.1 0 33).toInt ≤ 500) ∧ (∀ j : Nat, (j : Int) < (v.1 0 12).toInt → (x9.1 11) j = (v.1 11) j) ∧ (∀ j : Nat, (j : Int) < (v.1 0 15).toInt → (x9.1 13) j = (v.1 13) j) ∧ (∀ j : Nat, (j : Int) < (v.1 0 15).toInt → (x9.1 14) j = (v.1 14) j) ∧ (AR 35 0 1500 x9) ∧ (AR 37 0 23999 x9) ∧ (AR 38 0 15999 x9) ∧ (AR 40 0 23999 x9) ∧ (FX x9) ∧ (0 ≤ (x9.1 0 30).toInt ∧ (x9.1 0 30).toInt ≤ (x9.1 0 33).toInt ∧ (x9.1 0 52).toInt = (v.1 0 52).toInt + 0 ∧ 0 ≤ (x9.1 0 34).toInt ∧ (x9.1 0 34).toInt ≤ 500) ∧ (AR 29 0 1500 x9) ∧ (GQ x9 (v.1 0 12).toInt (v.1 0 15).toInt lab labm) ∧ va_P (dC, dI) vwCl (mW ad N cI cZ cJ x9) H ∧ va_D A (mW ad N cI cZ cJ x9) ∧ va_S A s.heap H locs ∧ lv_has ls 3 [(2, .int (v.1 0 31)), (1, .int (v.1 0 30)), (0, .ref (ad 0))])) (fun x9 => (1500 - (x9.1 0 47).toInt).toNat) 24 (fun w24 H locs ls hh ih24 => ?_) (wA (wA (wA v 0 47 ((v.1 0 47) + (1 : Int32))) 0 48 ((v.1 0 48) + (1 : Int32))) 0 31 (v.1 0 30)) _ _ _ ⟨(show FG [12, 15, 30, 31, 32, 33, 34, 39, 43, 44, 45, 47, 48, 49, 50, 51, 52, 53, 54, 55, 56, 57, 58, 59, 60] [0, 11, 13, 14, 29, 35, 36, 37, 38, 40, 41, 42, 61, 62, 63, 64, 65, 66] v (wA (wA (wA v 0 47 ((v.1 0 47) + (1 : Int32))) 0 48 ((v.1 0 48) + (1 : Int32))) 0 31 (v.1 0 30)) from (FG.f (FG.f (FG.f (FG.rf _) ((v.1 0 47) + (1 : Int32)) (by decide)) ((v.1 0 48) + (1 : Int32)) (by decide)) (v.1 0 30) (by decide))), (show (v.1 0 47).toInt + 1 ≤ ((v.1 0 47) + (1 : Int32)).toInt ∧ ((v.1 0 47) + (1 : Int32)).toInt ≤ 1500 from (om_25e1fa377e z4 a1)), (show (v.1 0 12).toInt ≤ (v.1 0 12).toInt ∧ (v.1 0 12).toInt - 15 * ((v.1 0 47) + (1 : Int32)).toInt + 15 ≤ (v.1 0 12).toInt - 15 * (v.1 0 47).toInt from (om_9f25030599 z4)), (show (v.1 0 15).toInt ≤ (v.1 0 15).toInt ∧ (v.1 0 15).toInt - 10 * ((v.1 0 47) + (1 : Int32)).toInt + 10 ≤ (v.1 0 15).toInt - 10 * (v.1 0 47).toInt from (om_a69241b3b4 z4)), (show (v.1 0 43).toInt ≤ (v.1 0 43).toInt ∧ (v.1 0 43).toInt - 15 * ((v.1 0 47) + (1 : Int32)).toInt ≤ (v.1 0 43).toInt - 15 * (v.1 0 47).toInt from (om_dd211c80d8 z4)), (show (v.1 0 39).toInt ≤ (v.1 0 39).toInt ∧ (v.1 0 39).toInt - 1 * ((v.1 0 47) + (1 : Int32)).toInt ≤ (v.1 0 39).toInt - 1 * (v.1 0 47).toInt from (om_7fb4ccc7b3 z4)), (show (v.1 0 32).toInt = (v.1 0 32).toInt ∧ ((v.1 0 48) + (1 : Int32)).toInt = (v.1 0 48).toInt + 1 from (om_c01123aec4 z5)), (show (v.1 0 33).toInt ≤ (v.1 0 33).toInt ∧ (v.1 0 33).toInt ≤ 500 from (om_b8827882d9 zhi)), (show ∀ j : Nat, (j : Int) < (v.1 0 12).toInt → (v.1 11) j = (v.1 11) j from (fun (j9 : Nat) hj9 => rfl)), (show ∀ j : Nat, (j : Int) < (v.1 0 15).toInt → (v.1 13) j = (v.1 13) j from (fun (j9 : Nat) hj9 => rfl)), (show ∀ j : Nat, (j : Int) < (v.1 0 15).toInt → (v.1 14) j = (v.1 14) j from (fun (j9 : Nat) hj9 => rfl)), (show AR 35 0 1500 (wA (wA (wA v 0 47 ((v.1 0 47) + (1 : Int32))) 0 48 ((v.1 0 48) + (1 : Int32))) 0 31 (v.1 0 30)) from (AR.o (AR.o (AR.o a35 (by decide)) (by decide)) (by decide))), (show AR 37 0 23999 (wA (wA (wA v 0 47 ((v.1 0 47) + (1 : Int32))) 0 48 ((v.1 0 48) + (1 : Int32))) 0 31 (v.1 0 30)) from (AR.o (AR.o (AR.o a37 (by decide)) (by decide)) (by decide))), (show AR 38 0 15999 (wA (wA (wA v 0 47 ((v.1 0 47) + (1 : Int32))) 0 48 ((v.1 0 48) + (1 : Int32))) 0 31 (v.1 0 30)) from (AR.o (AR.o (AR.o a38 (by decide)) (by decide)) (by decide))), (show AR 40 0 23999 (wA (wA (wA v 0 47 ((v.1 0 47) + (1 : Int32))) 0 48 ((v.1 0 48) + (1 : Int32))) 0 31 (v.1 0 30)) from (AR.o (AR.o (AR.o a40 (by decide)) (by decide)) (by decide))), (show FX (wA (wA (wA v 0 47 ((v.1 0 47) + (1 : Int32))) 0 48 ((v.1 0 48) + (1 : Int32))) 0 31 (v.1 0 30)) from (FX.o (FX.o (FX.o fx (by decide) (by decide)) (by decide) (by decide)) (by decide) (by decide))), (show 0 ≤ (v.1 0 30).toInt ∧ (v.1 0 30).toInt ≤ (v.1 0 33).toInt ∧ (v.1 0 52).toInt = (v.1 0 52).toInt + 0 ∧ 0 ≤ (v.1 0 34).toInt ∧ (v.1 0 34).toInt ≤ 500 from (om_a08b4f7e66 zkn zs zmk)), (show AR 29 0 1500 (wA (wA (wA v 0 47 ((v.1 0 47) + (1 : Int32))) 0 48 ((v.1 0 48) + (1 : Int32))) 0 31 (v.1 0 30)) from (AR.o (AR.o (AR.o a29 (by decide)) (by decide)) (by decide))), (show GQ (wA (wA (wA v 0 47 ((v.1 0 47) + (1 : Int32))) 0 48 ((v.1 0 48) + (1 : Int32))) 0 31 (v.1 0 30)) (v.1 0 12).toInt (v.1 0 15).toInt lab labm from ⟨lab, labm, g6, (fun (j9 : Nat) hj9 => rfl), (fun (j9 : Nat) hj9 => rfl)⟩), hP, hD, hS, lv_sub hl [0, 1, 2] rfl⟩
  obtain ⟨fwL24, ptL24, pwL24, poL24, pfL24, pkL24, ppL24, phL24, kcL24, koL24, kgL24, a35L24, a37L24, a38L24, a40L24, fxL24, pnL24, a29L24, gpL24, hP, hD, hS, hl⟩ := hh
  have fwL24 : FG [12, 15, 30, 31, 32, 33, 34, 39, 43, 44, 45, 47, 48, 49, 50, 51, 52, 53, 54, 55, 56, 57, 58, 59, 60] [0, 11, 13, 14, 29, 35, 36, 37, 38, 40, 41, 42, 61, 62, 63, 64, 65, 66] v w24 := fwL24
  have ptL24 : (v.1 0 47).toInt + 1 ≤ (w24.1 0 47).toInt ∧ (w24.1 0 47).toInt ≤ 1500 := ptL24
  have pwL24 : (v.1 0 12).toInt ≤ (w24.1 0 12).toInt ∧ (w24.1 0 12).toInt - 15 * (w24.1 0 47).toInt + 15 ≤ (v.1 0 12).toInt - 15 * (v.1 0 47).toInt := pwL24
  have poL24 : (v.1 0 15).toInt ≤ (w24.1 0 15).toInt ∧ (w24.1 0 15).toInt - 10 * (w24.1 0 47).toInt + 10 ≤ (v.1 0 15).toInt - 10 * (v.1 0 47).toInt := poL24
  have pfL24 : (v.1 0 43).toInt ≤ (w24.1 0 43).toInt ∧ (w24.1 0 43).toInt - 15 * (w24.1 0 47).toInt ≤ (v.1 0 43).toInt - 15 * (v.1 0 47).toInt := pfL24
  have pkL24 : (v.1 0 39).toInt ≤ (w24.1 0 39).toInt ∧ (w24.1 0 39).toInt - 1 * (w24.1 0 47).toInt ≤ (v.1 0 39).toInt - 1 * (v.1 0 47).toInt := pkL24
  have ppL24 : (w24.1 0 32).toInt = (v.1 0 32).toInt ∧ (w24.1 0 48).toInt = (v.1 0 48).toInt + 1 := ppL24
  have phL24 : (v.1 0 33).toInt ≤ (w24.1 0 33).toInt ∧ (w24.1 0 33).toInt ≤ 500 := phL24
  have kcL24 : ∀ j : Nat, (j : Int) < (v.1 0 12).toInt → (w24.1 11) j = (v.1 11) j := kcL24
  have koL24 : ∀ j : Nat, (j : Int) < (v.1 0 15).toInt → (w24.1 13) j = (v.1 13) j := koL24
  have kgL24 : ∀ j : Nat, (j : Int) < (v.1 0 15).toInt → (w24.1 14) j = (v.1 14) j := kgL24
  have a35L24 : AR 35 0 1500 w24 := a35L24
  have a37L24 : AR 37 0 23999 w24 := a37L24
  have a38L24 : AR 38 0 15999 w24 := a38L24
  have a40L24 : AR 40 0 23999 w24 := a40L24
  have fxL24 : FX w24 := fxL24
  have pnL24 : 0 ≤ (w24.1 0 30).toInt ∧ (w24.1 0 30).toInt ≤ (w24.1 0 33).toInt ∧ (w24.1 0 52).toInt = (v.1 0 52).toInt + 0 ∧ 0 ≤ (w24.1 0 34).toInt ∧ (w24.1 0 34).toInt ≤ 500 := pnL24
  have a29L24 : AR 29 0 1500 w24 := a29L24
  have gpL24 : GQ w24 (v.1 0 12).toInt (v.1 0 15).toInt lab labm := gpL24
  have hP : va_P (dC, dI) vwCl (mW ad N cI cZ cJ w24) H := hP
  have hD : va_D A (mW ad N cI cZ cJ w24) := hD
  have hl : lv_has ls 3 [(2, .int (v.1 0 31)), (1, .int (v.1 0 30)), (0, .ref (ad 0))] := hl
  obtain ⟨labL24, labmL24, giL24, klL24, kmL24⟩ := gpL24
  refine lv_aload_n hx hb dX13_block_24 rfl (lv_at hl 2 rfl) ?_
  refine lv_bipush (v := 125) hx hb dX13_block_25 (by decide) ?_
  refine cu_i (rn_V (n := 1) (As := [.int 125]) (rest := []) hx hb hml hown ht hKK hFx hP hD hS hA (c_m_is l dC dI cI cB cZ cJ cR tb H.size ad N w24 (125 : Int32) (show 0 ≤ (w24.1 0 47).toInt ∧ (w24.1 0 47).toInt ≤ 1500 from (om_936e45a552 zfs ptL24 pwL24))) tw_34 tw_35 (by decide +kernel) rfl rfl ⟨show 1 + 1 ≤ 40 * n + 46 from om_23ef84a34a, show 8 + (2 + 11) + 22 ≤ 28 * (40 * n + 46) from om_268c4b38ae⟩ (List.range (mW ad N cI cZ cJ w24).length) (rg_map _) (mW_nd _ _ _ _ _ _) rfl rfl rfl rfl hl.1 rfl (Nat.le_of_ble_eq_true rfl) dX13_block_27 ⟨Nat.le_of_ble_eq_true rfl, Nat.le_of_ble_eq_true rfl⟩) hP hD hS hA (fun r9 u8 H locs hw7 hP hD hS => ?_)
  obtain ⟨rfl, b7, e7⟩ := hw7
  have b7 : (r9 = 0 ∨ r9 = 1) := b7
  have e7 : 0 ≤ r9.toInt ∧ r9.toInt ≤ 1 := e7
  refine W.widen (k := 0) (n := 0) (Nat.le_refl _) (Nat.le_refl _) ?_
  refine lv_if_ne (tgt := 40) hx hb dX13_block_30 (by decide) (fun h10 => ?_) (fun h10 => ?_)
  · have z11 : r9.toInt ≠ (0 : Int) := ne_z rfl (show (0 : Int32).toInt = (0 : Int) by decide) h10
    refine lv_aload_n hx hb dX13_block_40 rfl (lv_at hl 2 rfl) ?_
    refine lv_bipush (v := 125) hx hb dX13_block_41 (by decide) ?_
    refine cux_v (rx_V (n := 1) (As := [.int 125]) (rest := []) hx hb hml hown ht hKK hFx hP hD hS hA (c_m_close l dC dI cI cB cZ cJ cR tb H.size ad N w24 (125 : Int32) (show 0 ≤ (w24.1 0 47).toInt ∧ (w24.1 0 47).toInt ≤ 1500 from (om_936e45a552 zfs ptL24 pwL24)) (show 0 ≤ (w24.1 0 48).toInt ∧ (w24.1 0 48).toInt ≤ 40 from (om_f22ca966b6 zop b1 ppL24))) tw_82 tw_83 (by decide +kernel) rfl rfl ⟨show 3 + 1 ≤ 40 * n + 46 from om_f0dd11378f, show 8 + (2 + 11) + 64 ≤ 28 * (40 * n + 46) from om_d36b284e26⟩ (List.range (mW ad N cI cZ cJ w24).length) (rg_map _) (mW_nd _ _ _ _ _ _) rfl rfl rfl rfl hl.1 rfl (Nat.le_of_ble_eq_true rfl) dX13_block_43 ⟨Nat.le_of_ble_eq_true rfl, Nat.le_of_ble_eq_true rfl⟩) hP hD hS hA (fun u9 ce9 q9 H locs hx9 hP hD hS hc9 hv9 hf9 => ?_) (fun u13 H locs hw12 hP hD hS => ?_)
    · exact vx_out (fun x h9 => (hnt x h9).elim) hlocks hc9 hv9 hf9 (fun t9 ht9 hv8 => ⟨u9, (FG.tr (FG.tr (FG.rf _) (FG.up fwL24 (by decide) (by decide))) hx9), ⟨rfl, by rw [ht9]; exact hP, hD⟩, hS.F ht9⟩) hS.2.2 (Nat.le_refl _) (Nat.le_refl _)
    obtain ⟨rfl, a12, c12⟩ := hw12
    have z15 : ((w24.1 0 47) + (1 : Int32)).toInt = ((w24.1 0 47).toInt) + (1 : Int) := add_z rfl (show (1 : Int32).toInt = (1 : Int) by decide) (om_aa1edce31d zws pwL24) (om_3c2140d515 ptL24)
    have z16 : ((w24.1 0 48) - (1 : Int32)).toInt = ((w24.1 0 48).toInt) - (1 : Int) := sub_z rfl (show (1 : Int32).toInt = (1 : Int) by decide) (om_ab132201e3 zop ppL24) (om_24bc851bce b1 ppL24)
    have hP : va_P (dC, dI) vwCl (mW ad N cI cZ cJ (wA (wA w24 0 47 ((w24.1 0 47) + (1 : Int32))) 0 48 ((w24.1 0 48) - (1 : Int32)))) H := hP
    have hD : va_D A (mW ad N cI cZ cJ (wA (wA w24 0 47 ((w24.1 0 47) + (1 : Int32))) 0 48 ((w24.1 0 48) - (1 : Int32)))) := hD
    have a12 : (w24.1 0 47).toInt < 1500 := a12
    have c12 : (w24.1 0 49).toInt ≠ (w24.1 0 47).toInt := c12
    refine W.widen (k := 0) (n := 0) (Nat.le_refl _) (Nat.le_refl _) ?_
    refine lv_aload_n hx hb dX13_block_46 rfl (lv_at hl 2 rfl) ?_
    refine lv_iload_n hx hb dX13_block_47 rfl (lv_at hl 1 rfl) ?_
    refine va_put (D := (dC, dI)) (ci := 16) (fs := mF ad (wA (wA w24 0 47 ((w24.1 0 47) + (1 : Int32))) 0 48 ((w24.1 0 48) - (1 : Int32)))) (v := .int (v.1 0 30)) (ty := .int) (C := RX13) (T := TX13) (N := 124) hx hb ht itX13 tyX13 tyX13_ok nmX13 hown hK hP hD hS 0 rfl rfl 30 (by decide) (ht _ tw_44) (fun _ h9 => h9) rfl (by decide +kernel) rfl rfl (Nat.le_of_ble_eq_true rfl) dX13_block_48 (fun H locs hP hD hS => ?_)
    have hP := cP_ (mw_30 ad N cI cZ cJ (wA (wA w24 0 47 ((w24.1 0 47) + (1 : Int32))) 0 48 ((w24.1 0 48) - (1 : Int32))) (v.1 0 30)) hP
    have hD := cD_ (mw_30 ad N cI cZ cJ (wA (wA w24 0 47 ((w24.1 0 47) + (1 : Int32))) 0 48 ((w24.1 0 48) - (1 : Int32))) (v.1 0 30)) hD
    refine lv_aload_n hx hb dX13_block_51 rfl (lv_at hl 2 rfl) ?_
    refine lv_iload_n hx hb dX13_block_52 rfl (lv_at hl 0 rfl) ?_
    refine va_put (D := (dC, dI)) (ci := 16) (fs := mF ad (wA (wA (wA w24 0 47 ((w24.1 0 47) + (1 : Int32))) 0 48 ((w24.1 0 48) - (1 : Int32))) 0 30 (v.1 0 30))) (v := .int (v.1 0 31)) (ty := .int) (C := RX13) (T := TX13) (N := 124) hx hb ht itX13 tyX13 tyX13_ok nmX13 hown hK hP hD hS 0 rfl rfl 31 (by decide) (ht _ tw_158) (fun _ h9 => h9) rfl (by decide +kernel) rfl rfl (Nat.le_of_ble_eq_true rfl) dX13_block_53 (fun H locs hP hD hS => ?_)
    have hP := cP_ (mw_31 ad N cI cZ cJ (wA (wA (wA w24 0 47 ((w24.1 0 47) + (1 : Int32))) 0 48 ((w24.1 0 48) - (1 : Int32))) 0 30 (v.1 0 30)) (v.1 0 31)) hP
    have hD := cD_ (mw_31 ad N cI cZ cJ (wA (wA (wA w24 0 47 ((w24.1 0 47) + (1 : Int32))) 0 48 ((w24.1 0 48) - (1 : Int32))) 0 30 (v.1 0 30)) (v.1 0 31)) hD
    have g17 : GI true (wA (wA (wA (wA w24 0 47 ((w24.1 0 47) + (1 : Int32))) 0 48 ((w24.1 0 48) - (1 : Int32))) 0 30 (v.1 0 30)) 0 31 (v.1 0 31)) labL24 labmL24 := (GI.of (GI.of (GI.of (GI.of giL24 (by decide)) (by decide)) (by decide)) (by decide))
    refine vx_ret ?_
    exact W.vret hx hb hr (fun t ht9 hW => ⟨⟨(wA (wA (wA (wA w24 0 47 ((w24.1 0 47) + (1 : Int32))) 0 48 ((w24.1 0 48) - (1 : Int32))) 0 30 (v.1 0 30)) 0 31 (v.1 0 31)), rfl, ⟨(FG.f (FG.f (FG.f (FG.f (FG.tr (FG.rf _) (FG.up fwL24 (by decide) (by decide))) ((w24.1 0 47) + (1 : Int32)) (by decide)) ((w24.1 0 48) - (1 : Int32)) (by decide)) (v.1 0 30) (by decide)) (v.1 0 31) (by decide)), (show (v.1 0 47).toInt + 1 ≤ ((w24.1 0 47) + (1 : Int32)).toInt ∧ ((w24.1 0 47) + (1 : Int32)).toInt ≤ 1500 from (om_e6c1a67d9b pwL24 z15 a12)), (show (v.1 0 12).toInt ≤ (w24.1 0 12).toInt ∧ (w24.1 0 12).toInt - 15 * ((w24.1 0 47) + (1 : Int32)).toInt ≤ (v.1 0 12).toInt - 15 * (v.1 0 47).toInt from (om_fb0894ce83 pwL24 z15)), (show (v.1 0 15).toInt ≤ (w24.1 0 15).toInt ∧ (w24.1 0 15).toInt - 10 * ((w24.1 0 47) + (1 : Int32)).toInt ≤ (v.1 0 15).toInt - 10 * (v.1 0 47).toInt from (om_b85d42c3ca poL24 z15)), (show (v.1 0 43).toInt ≤ (w24.1 0 43).toInt ∧ (w24.1 0 43).toInt - 15 * ((w24.1 0 47) + (1 : Int32)).toInt ≤ (v.1 0 43).toInt - 15 * (v.1 0 47).toInt from (om_73eb63a3ce pfL24 z15)), (show (v.1 0 39).toInt ≤ (w24.1 0 39).toInt ∧ (w24.1 0 39).toInt - 1 * ((w24.1 0 47) + (1 : Int32)).toInt ≤ (v.1 0 39).toInt - 1 * (v.1 0 47).toInt from (om_b65749bf07 pkL24 z15)), (show (w24.1 0 32).toInt = (v.1 0 32).toInt ∧ ((w24.1 0 48) - (1 : Int32)).toInt = (v.1 0 48).toInt from (om_2046725687 ppL24 z16)), (show (v.1 0 33).toInt ≤ (w24.1 0 33).toInt ∧ (w24.1 0 33).toInt ≤ 500 from (om_6bc0cea141 phL24)), (fun (j9 : Nat) hj9 => (kcL24 j9 (om_4fe904e9bf hj9))), (fun (j9 : Nat) hj9 => (koL24 j9 (om_4fe904e9bf hj9))), (fun (j9 : Nat) hj9 => (kgL24 j9 (om_4fe904e9bf hj9))), (AR.o (AR.o (AR.o (AR.o a35L24 (by decide)) (by decide)) (by decide)) (by decide)), (AR.o (AR.o (AR.o (AR.o a37L24 (by decide)) (by decide)) (by decide)) (by decide)), (AR.o (AR.o (AR.o (AR.o a38L24 (by decide)) (by decide)) (by decide)) (by decide)), (AR.o (AR.o (AR.o (AR.o a40L24 (by decide)) (by decide)) (by decide)) (by decide)), (FX.o (FX.o (FX.o (FX.o fxL24 (by decide) (by decide)) (by decide) (by decide)) (by decide) (by decide)) (by decide) (by decide)), (show (v.1 0 30).toInt = (v.1 0 30).toInt ∧ (w24.1 0 52).toInt = (v.1 0 52).toInt + 0 ∧ 0 ≤ (w24.1 0 34).toInt ∧ (w24.1 0 34).toInt ≤ 500 from (om_819415244a pnL24)), (AR.o (AR.o (AR.o (AR.o a29L24 (by decide)) (by decide)) (by decide)) (by decide)), ⟨labL24, labmL24, g17, (fun (j9 : Nat) hj9 => (klL24 j9 (om_4fe904e9bf hj9))), (fun (j9 : Nat) hj9 => (kmL24 j9 (om_4fe904e9bf hj9)))⟩⟩, by rw [ht9]; exact hP, hD⟩, hS.F ht9⟩) hS.2.2 dX13_block_56
  · have z18 : r9.toInt = (0 : Int) := eq_z rfl (show (0 : Int32).toInt = (0 : Int) by decide) h10
    refine lv_aload_n hx hb dX13_block_33 rfl (lv_at hl 2 rfl) ?_
    obtain ⟨n19, hn20⟩ : ∃ m, n = m + 1 := ex_z (om_78b28660f8 zn b1)
    have q21 : (w24.1 0 27).toInt = (v.1 0 27).toInt := congrArg Int32.toInt ((fwL24.2.1 27 (by decide)).trans (show v.1 0 27 = (v.1 0 27) by rfl))
    refine cux_v (rx_V (n := 0) (As := []) (rest := []) hx hb hml hown ht hKK hFx hP hD hS hA (ihS n19 hn20 dC dI cI cB cZ cJ cR tb H.size ad N w24 labL24 labmL24 (show 40 ≤ (w24.1 0 48).toInt + (n19 : Int) from (om_747eb5a70b zn ppL24 hn20)) (show 0 ≤ (w24.1 0 47).toInt ∧ (w24.1 0 47).toInt ≤ 1500 from (om_936e45a552 zfs ptL24 pwL24)) (show 0 ≤ (w24.1 0 48).toInt ∧ (w24.1 0 48).toInt ≤ 40 from (om_f22ca966b6 zop b1 ppL24)) (show 0 ≤ (w24.1 0 30).toInt ∧ (w24.1 0 30).toInt ≤ 500 from (om_dec479af6f phL24 pnL24)) (show 0 ≤ (w24.1 0 33).toInt ∧ (w24.1 0 33).toInt ≤ 500 from (om_75c21808ae phL24 pnL24)) (show 0 ≤ (w24.1 0 32).toInt ∧ (w24.1 0 30).toInt + (w24.1 0 32).toInt ≤ (w24.1 0 33).toInt from (om_444147deb6 zs zp0 ppL24 pnL24)) (show 0 ≤ (w24.1 0 12).toInt ∧ (w24.1 0 12).toInt ≤ 15 * (w24.1 0 47).toInt + 2 from (om_99bee73f09 zws pwL24)) (show 0 ≤ (w24.1 0 15).toInt ∧ (w24.1 0 15).toInt ≤ 10 * (w24.1 0 47).toInt + 0 from (om_de3cf2ef24 zos poL24)) (show 0 ≤ (w24.1 0 43).toInt ∧ (w24.1 0 43).toInt ≤ 15 * (w24.1 0 47).toInt + 0 from (om_dd466cfb49 zfs pfL24)) (show 0 ≤ (w24.1 0 39).toInt ∧ (w24.1 0 39).toInt ≤ 1 * (w24.1 0 47).toInt + 0 from (om_ecb466e919 zcs pkL24)) (show 0 ≤ (w24.1 0 27).toInt ∧ (w24.1 0 27).toInt ≤ 60 from (om_385c0d8cae zgl q21)) (show TI w24 from FG.ti (fl := pfl) (al := pal) (FG.tr (FG.rf _) (FG.up fwL24 (by decide) (by decide))) (by decide) (by decide) hT) (show AR 29 0 1500 w24 from a29L24) (show AR 23 0 1500 w24 from (show AR 23 0 1500 w24 from AR.fr (fl := [12, 15, 30, 31, 32, 33, 34, 39, 43, 44, 45, 47, 48, 49, 50, 51, 52, 53, 54, 55, 56, 57, 58, 59, 60]) (al := [0, 11, 13, 14, 29, 35, 36, 37, 38, 40, 41, 42, 61, 62, 63, 64, 65, 66]) fwL24 (by decide) a23)) (show AR 35 0 1500 w24 from a35L24) (show AR 37 0 23999 w24 from a37L24) (show AR 38 0 15999 w24 from a38L24) (show AR 40 0 23999 w24 from a40L24) (show FX w24 from fxL24) (show (w24.1 0 32).toInt = 0 from (om_3a25394644 zs zp0 ppL24)) (show 0 ≤ (w24.1 0 34).toInt ∧ (w24.1 0 34).toInt ≤ 500 from (om_f1885ad227 pnL24)) (show 0 ≤ (w24.1 0 52).toInt ∧ (w24.1 0 52).toInt ≤ (w24.1 0 48).toInt from (om_ee3a668266 zlp ppL24 pnL24)) (show GI true w24 labL24 labmL24 from giL24)) tw_159 tw_160 (by decide +kernel) rfl rfl ⟨show (40 * n19 + 48) + 1 ≤ 40 * n + 46 from (om_c78ee38cdc hn20), show 8 + (1 + 11) + 28 * (40 * n19 + 48) ≤ 28 * (40 * n + 46) from (om_9d72bc7b2e hn20)⟩ (List.range (mW ad N cI cZ cJ w24).length) (rg_map _) (mW_nd _ _ _ _ _ _) rfl rfl rfl rfl hl.1 rfl (Nat.le_of_ble_eq_true rfl) dX13_block_34 ⟨Nat.le_of_ble_eq_true rfl, Nat.le_of_ble_eq_true rfl⟩) hP hD hS hA (fun u9 ce9 q9 H locs hx9 hP hD hS hc9 hv9 hf9 => ?_) (fun u23 H locs hw22 hP hD hS => ?_)
    · exact vx_out (fun x h9 => (hnt x h9).elim) hlocks hc9 hv9 hf9 (fun t9 ht9 hv8 => ⟨u9, (FG.tr (FG.tr (FG.rf _) (FG.up fwL24 (by decide) (by decide))) hx9), ⟨rfl, by rw [ht9]; exact hP, hD⟩, hS.F ht9⟩) hS.2.2 (Nat.le_refl _) (Nat.le_refl _)
    obtain ⟨fr22, pt22, pw22, po22, pf22, pk22, pp22, ph22, kc22, ko22, kg22, a3522, a3722, a3822, a4022, fx22, pn22, a2922, gp22⟩ := hw22
    have pt22 : (w24.1 0 47).toInt + 1 ≤ (u23.1 0 47).toInt ∧ (u23.1 0 47).toInt ≤ 1500 := pt22
    have pw22 : (w24.1 0 12).toInt ≤ (u23.1 0 12).toInt ∧ (u23.1 0 12).toInt - 15 * (u23.1 0 47).toInt ≤ (w24.1 0 12).toInt - 15 * (w24.1 0 47).toInt := pw22
    have po22 : (w24.1 0 15).toInt ≤ (u23.1 0 15).toInt ∧ (u23.1 0 15).toInt - 10 * (u23.1 0 47).toInt ≤ (w24.1 0 15).toInt - 10 * (w24.1 0 47).toInt := po22
    have pf22 : (w24.1 0 43).toInt ≤ (u23.1 0 43).toInt ∧ (u23.1 0 43).toInt - 15 * (u23.1 0 47).toInt ≤ (w24.1 0 43).toInt - 15 * (w24.1 0 47).toInt := pf22
    have pk22 : (w24.1 0 39).toInt ≤ (u23.1 0 39).toInt ∧ (u23.1 0 39).toInt - 1 * (u23.1 0 47).toInt ≤ (w24.1 0 39).toInt - 1 * (w24.1 0 47).toInt := pk22
    have pp22 : (u23.1 0 32).toInt = (w24.1 0 32).toInt ∧ (u23.1 0 48).toInt = (w24.1 0 48).toInt := pp22
    have ph22 : (w24.1 0 33).toInt ≤ (u23.1 0 33).toInt ∧ (u23.1 0 33).toInt ≤ 500 := ph22
    have kc22 : ∀ j : Nat, (j : Int) < (w24.1 0 12).toInt → (u23.1 11) j = (w24.1 11) j := kc22
    have ko22 : ∀ j : Nat, (j : Int) < (w24.1 0 15).toInt → (u23.1 13) j = (w24.1 13) j := ko22
    have kg22 : ∀ j : Nat, (j : Int) < (w24.1 0 15).toInt → (u23.1 14) j = (w24.1 14) j := kg22
    have a3522 : AR 35 0 1500 u23 := a3522
    have a3722 : AR 37 0 23999 u23 := a3722
    have a3822 : AR 38 0 15999 u23 := a3822
    have a4022 : AR 40 0 23999 u23 := a4022
    have fx22 : FX u23 := fx22
    have pn22 : 0 ≤ (u23.1 0 30).toInt ∧ (u23.1 0 30).toInt ≤ (u23.1 0 33).toInt ∧ (u23.1 0 52).toInt = (w24.1 0 52).toInt + 0 ∧ 0 ≤ (u23.1 0 34).toInt ∧ (u23.1 0 34).toInt ≤ 500 := pn22
    have a2922 : AR 29 0 1500 u23 := a2922
    have gp22 : GQ u23 (w24.1 0 12).toInt (w24.1 0 15).toInt labL24 labmL24 := gp22
    obtain ⟨lab22, labm22, gi22, kl22, km22⟩ := gp22
    have gi22 : GI true u23 lab22 labm22 := gi22
    have kl22 : ∀ j : Nat, (j : Int) < (w24.1 0 12).toInt → lab22 j = labL24 j := kl22
    have km22 : ∀ j : Nat, (j : Int) < (w24.1 0 15).toInt → labm22 j = labmL24 j := km22
    refine W.widen (k := 0) (n := 0) (Nat.le_refl _) (Nat.le_refl _) ?_
    refine lv_goto (tgt := 24) hx hb dX13_block_37 (by decide) ?_
    exact ih24 u23 _ _ _ (show (1500 - (u23.1 0 47).toInt).toNat < (1500 - (w24.1 0 47).toInt).toNat from tn_z (om_d13a67caa6 pt22) (om_71815dc006 pt22)) ⟨(show FG [12, 15, 30, 31, 32, 33, 34, 39, 43, 44, 45, 47, 48, 49, 50, 51, 52, 53, 54, 55, 56, 57, 58, 59, 60] [0, 11, 13, 14, 29, 35, 36, 37, 38, 40, 41, 42, 61, 62, 63, 64, 65, 66] v u23 from (FG.tr (FG.tr (FG.rf _) (FG.up fwL24 (by decide) (by decide))) (FG.up fr22 (by decide) (by decide)))), (show (v.1 0 47).toInt + 1 ≤ (u23.1 0 47).toInt ∧ (u23.1 0 47).toInt ≤ 1500 from (om_1c68d89cdf pwL24 pt22 pw22)), (show (v.1 0 12).toInt ≤ (u23.1 0 12).toInt ∧ (u23.1 0 12).toInt - 15 * (u23.1 0 47).toInt + 15 ≤ (v.1 0 12).toInt - 15 * (v.1 0 47).toInt from (om_ba044e773f pwL24 pw22)), (show (v.1 0 15).toInt ≤ (u23.1 0 15).toInt ∧ (u23.1 0 15).toInt - 10 * (u23.1 0 47).toInt + 10 ≤ (v.1 0 15).toInt - 10 * (v.1 0 47).toInt from (om_1bb6637a9b poL24 po22)), (show (v.1 0 43).toInt ≤ (u23.1 0 43).toInt ∧ (u23.1 0 43).toInt - 15 * (u23.1 0 47).toInt ≤ (v.1 0 43).toInt - 15 * (v.1 0 47).toInt from (om_374e1fb9ff pfL24 pf22)), (show (v.1 0 39).toInt ≤ (u23.1 0 39).toInt ∧ (u23.1 0 39).toInt - 1 * (u23.1 0 47).toInt ≤ (v.1 0 39).toInt - 1 * (v.1 0 47).toInt from (om_54799ff400 pkL24 pk22)), (show (u23.1 0 32).toInt = (v.1 0 32).toInt ∧ (u23.1 0 48).toInt = (v.1 0 48).toInt + 1 from (om_8cd3707d76 ppL24 pp22)), (show (v.1 0 33).toInt ≤ (u23.1 0 33).toInt ∧ (u23.1 0 33).toInt ≤ 500 from (om_121fab16d5 phL24 ph22)), (show ∀ j : Nat, (j : Int) < (v.1 0 12).toInt → (u23.1 11) j = (v.1 11) j from (fun (j9 : Nat) hj9 => (Eq.trans (kc22 j9 (om_4fb5df961e pwL24 hj9)) (kcL24 j9 (om_4fe904e9bf hj9))))), (show ∀ j : Nat, (j : Int) < (v.1 0 15).toInt → (u23.1 13) j = (v.1 13) j from (fun (j9 : Nat) hj9 => (Eq.trans (ko22 j9 (om_42deb639a3 poL24 hj9)) (koL24 j9 (om_4fe904e9bf hj9))))), (show ∀ j : Nat, (j : Int) < (v.1 0 15).toInt → (u23.1 14) j = (v.1 14) j from (fun (j9 : Nat) hj9 => (Eq.trans (kg22 j9 (om_42deb639a3 poL24 hj9)) (kgL24 j9 (om_4fe904e9bf hj9))))), (show AR 35 0 1500 u23 from a3522), (show AR 37 0 23999 u23 from a3722), (show AR 38 0 15999 u23 from a3822), (show AR 40 0 23999 u23 from a4022), (show FX u23 from fx22), (show 0 ≤ (u23.1 0 30).toInt ∧ (u23.1 0 30).toInt ≤ (u23.1 0 33).toInt ∧ (u23.1 0 52).toInt = (v.1 0 52).toInt + 0 ∧ 0 ≤ (u23.1 0 34).toInt ∧ (u23.1 0 34).toInt ≤ 500 from (om_1f0f54f6ef pnL24 pn22)), (show AR 29 0 1500 u23 from a2922), (show GQ u23 (v.1 0 12).toInt (v.1 0 15).toInt lab labm from ⟨lab22, labm22, gi22, (fun (j9 : Nat) hj9 => (Eq.trans (kl22 j9 (om_4fb5df961e pwL24 hj9)) (klL24 j9 (om_4fe904e9bf hj9)))), (fun (j9 : Nat) hj9 => (Eq.trans (km22 j9 (om_42deb639a3 poL24 hj9)) (kmL24 j9 (om_4fe904e9bf hj9))))⟩), hP, hD, hS, lv_sub hl [0, 1, 2] rfl⟩
