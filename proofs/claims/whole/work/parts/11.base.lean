/-! the cells that the law's two constructors lay, and what of them never changes -/
section VZero
variable {l : Launch} {B : Nat} {D : va_G} {ca : Nat → ClassId} {d d' : Nat} {M M' : sh_M} {lv lv' : List (Nat × Value)} {st : List Value} {μ : sh_Mem} {Q Q' : Option Value → sh_Mem → Prop} {cells slots mc ms : Nat}
abbrev sh_V0 (l : Launch) (B : Nat) (D : va_G) (ca : Nat → ClassId) (d : Nat) (M : sh_M) (pc : Nat) (lv : List (Nat × Value)) (st : List Value) (μ : sh_Mem) (Q : Option Value → sh_Mem → Prop) : Prop := sh_V l B D ca d 0 0 M pc lv st μ 0 0 Q
abbrev sh_C0 (l : Launch) (B : Nat) (D : va_G) (ca : Nat → ClassId) (d : Nat) (M : sh_M) (as : List Value) (μ : sh_Mem) (Q : Option Value → sh_Mem → Prop) : Prop := sh_Con l B D ca d 0 0 M as μ Q
theorem vv_iincc {n : Int} {x c : Int32} (pc i : Nat) (hd : decode M.2.1 pc = .ok (.iinc i n, 3)) (hk : sh_lk lv i = some (.int x)) (hc : Int32.ofInt n = c) (hn : i < M.2.2.1) (hv : sh_s1 lv i (.int (x + c)) = lv') (k : sh_V l B D ca d mc ms M (pc + 3) lv' st μ cells slots Q) : sh_V l B D ca d mc ms M pc lv st μ cells slots Q := vv_iinc pc i hd hk (by rw [hc]) hn hv k
theorem v0_callV {idx n ci nn r : Nat} (as : List Value) (pc : Nat) (hd : decode M.2.1 pc = .ok (.invokevirtual idx, 3)) (hc : sh_CV M.1.cls idx M' n) (hl : (sh_lay μ)[r]? = some (ci, nn)) (hci : ci < 13 ∧ sh_R ci = M'.1.cls) (hcon : sh_C0 l B D ca d' M' (.ref r :: as) μ Q') (hdd : d' + 1 ≤ d) (hL : (lg_sl (.ref r :: as)).length ≤ M'.2.2.1 ∧ M'.2.2.1 ≤ 81) (hn : as.length = n) (hst : (st.map fun v => v.category).sum ≤ 8)
    (kk : ∀ (v : Option Value) (μ' : sh_Mem), Q' v μ' → sh_V0 l B D ca d M (pc + 3) lv (sh_psh v st) μ' Q) : sh_V0 l B D ca d M pc lv (as.reverse ++ .ref r :: st) μ Q := vv_callV as pc hd hc hl hci hcon hdd hL hn hst (Nat.le_refl 0) (Nat.le_refl 0) kk
theorem v0_callVN {idx n ci nn r : Nat} (as : List Value) (pc : Nat) (hd : decode M.2.1 pc = .ok (.invokevirtual idx, 3)) (hc : sh_CVN M.1.cls idx M' n) (hl : (sh_lay μ)[r]? = some (ci, nn)) (hci : ci < 13 ∧ sh_R ci = M'.1.cls) (hcon : sh_C0 l B D ca d' M' (.ref r :: as) μ Q') (hdd : d' + 1 ≤ d) (hL : (lg_sl (.ref r :: as)).length ≤ M'.2.2.1 ∧ M'.2.2.1 ≤ 81) (hn : as.length = n) (hst : (st.map fun v => v.category).sum ≤ 8)
    (kk : ∀ (v : Option Value) (μ' : sh_Mem), Q' v μ' → sh_V0 l B D ca d M (pc + 3) lv (sh_psh v st) μ' Q) : sh_V0 l B D ca d M pc lv (as.reverse ++ .ref r :: st) μ Q := vv_callVN as pc hd hc hl hci hcon hdd hL hn hst (Nat.le_refl 0) (Nat.le_refl 0) kk
theorem v0_callS {idx n : Nat} (as : List Value) (pc : Nat) (hd : decode M.2.1 pc = .ok (.invokestatic idx, 3)) (hc : sh_CS M.1.cls idx M' n) (hcon : sh_C0 l B D ca d' M' as μ Q') (hdd : d' + 1 ≤ d) (hL : (lg_sl as).length ≤ M'.2.2.1 ∧ M'.2.2.1 ≤ 81) (hn : as.length = n) (hst : (st.map fun v => v.category).sum ≤ 8)
    (kk : ∀ (v : Option Value) (μ' : sh_Mem), Q' v μ' → sh_V0 l B D ca d M (pc + 3) lv (sh_psh v st) μ' Q) : sh_V0 l B D ca d M pc lv (as.reverse ++ st) μ Q := vv_callS as pc hd hc hcon hdd hL hn hst (Nat.le_refl 0) (Nat.le_refl 0) kk
end VZero
theorem ik_m8 : Int32.ofInt (-8) = (-8) := by decide
theorem ik_m1 : Int32.ofInt (-1) = (-1) := by decide
theorem ik_0 : Int32.ofInt (0) = 0 := by decide
theorem ik_1 : Int32.ofInt (1) = 1 := by decide
theorem ik_2 : Int32.ofInt (2) = 2 := by decide
theorem ik_3 : Int32.ofInt (3) = 3 := by decide
theorem ik_4 : Int32.ofInt (4) = 4 := by decide
theorem ik_5 : Int32.ofInt (5) = 5 := by decide
theorem ik_6 : Int32.ofInt (6) = 6 := by decide
theorem bk_m100 : (Int8.ofInt (-100)).toInt32 = (-100) := by decide
theorem bk_m4 : (Int8.ofInt (-4)).toInt32 = (-4) := by decide
theorem bk_m3 : (Int8.ofInt (-3)).toInt32 = (-3) := by decide
theorem bk_m2 : (Int8.ofInt (-2)).toInt32 = (-2) := by decide
theorem bk_6 : (Int8.ofInt (6)).toInt32 = 6 := by decide
theorem bk_7 : (Int8.ofInt (7)).toInt32 = 7 := by decide
theorem bk_8 : (Int8.ofInt (8)).toInt32 = 8 := by decide
theorem bk_9 : (Int8.ofInt (9)).toInt32 = 9 := by decide
theorem bk_10 : (Int8.ofInt (10)).toInt32 = 10 := by decide
theorem bk_11 : (Int8.ofInt (11)).toInt32 = 11 := by decide
theorem bk_12 : (Int8.ofInt (12)).toInt32 = 12 := by decide
theorem bk_13 : (Int8.ofInt (13)).toInt32 = 13 := by decide
theorem bk_14 : (Int8.ofInt (14)).toInt32 = 14 := by decide
theorem bk_15 : (Int8.ofInt (15)).toInt32 = 15 := by decide
theorem bk_16 : (Int8.ofInt (16)).toInt32 = 16 := by decide
theorem bk_17 : (Int8.ofInt (17)).toInt32 = 17 := by decide
theorem bk_18 : (Int8.ofInt (18)).toInt32 = 18 := by decide
theorem bk_19 : (Int8.ofInt (19)).toInt32 = 19 := by decide
theorem bk_20 : (Int8.ofInt (20)).toInt32 = 20 := by decide
theorem bk_21 : (Int8.ofInt (21)).toInt32 = 21 := by decide
theorem bk_22 : (Int8.ofInt (22)).toInt32 = 22 := by decide
theorem bk_23 : (Int8.ofInt (23)).toInt32 = 23 := by decide
theorem bk_24 : (Int8.ofInt (24)).toInt32 = 24 := by decide
theorem bk_25 : (Int8.ofInt (25)).toInt32 = 25 := by decide
theorem bk_26 : (Int8.ofInt (26)).toInt32 = 26 := by decide
theorem bk_27 : (Int8.ofInt (27)).toInt32 = 27 := by decide
theorem bk_28 : (Int8.ofInt (28)).toInt32 = 28 := by decide
theorem bk_29 : (Int8.ofInt (29)).toInt32 = 29 := by decide
theorem bk_30 : (Int8.ofInt (30)).toInt32 = 30 := by decide
theorem bk_31 : (Int8.ofInt (31)).toInt32 = 31 := by decide
theorem bk_32 : (Int8.ofInt (32)).toInt32 = 32 := by decide
theorem bk_33 : (Int8.ofInt (33)).toInt32 = 33 := by decide
theorem bk_35 : (Int8.ofInt (35)).toInt32 = 35 := by decide
theorem bk_38 : (Int8.ofInt (38)).toInt32 = 38 := by decide
theorem bk_39 : (Int8.ofInt (39)).toInt32 = 39 := by decide
theorem bk_40 : (Int8.ofInt (40)).toInt32 = 40 := by decide
theorem bk_41 : (Int8.ofInt (41)).toInt32 = 41 := by decide
theorem bk_42 : (Int8.ofInt (42)).toInt32 = 42 := by decide
theorem bk_43 : (Int8.ofInt (43)).toInt32 = 43 := by decide
theorem bk_44 : (Int8.ofInt (44)).toInt32 = 44 := by decide
theorem bk_45 : (Int8.ofInt (45)).toInt32 = 45 := by decide
theorem bk_47 : (Int8.ofInt (47)).toInt32 = 47 := by decide
theorem bk_48 : (Int8.ofInt (48)).toInt32 = 48 := by decide
theorem bk_49 : (Int8.ofInt (49)).toInt32 = 49 := by decide
theorem bk_50 : (Int8.ofInt (50)).toInt32 = 50 := by decide
theorem bk_51 : (Int8.ofInt (51)).toInt32 = 51 := by decide
theorem bk_52 : (Int8.ofInt (52)).toInt32 = 52 := by decide
theorem bk_57 : (Int8.ofInt (57)).toInt32 = 57 := by decide
theorem bk_59 : (Int8.ofInt (59)).toInt32 = 59 := by decide
theorem bk_60 : (Int8.ofInt (60)).toInt32 = 60 := by decide
theorem bk_61 : (Int8.ofInt (61)).toInt32 = 61 := by decide
theorem bk_62 : (Int8.ofInt (62)).toInt32 = 62 := by decide
theorem bk_63 : (Int8.ofInt (63)).toInt32 = 63 := by decide
theorem bk_64 : (Int8.ofInt (64)).toInt32 = 64 := by decide
theorem bk_71 : (Int8.ofInt (71)).toInt32 = 71 := by decide
theorem bk_72 : (Int8.ofInt (72)).toInt32 = 72 := by decide
theorem bk_80 : (Int8.ofInt (80)).toInt32 = 80 := by decide
theorem bk_91 : (Int8.ofInt (91)).toInt32 = 91 := by decide
theorem bk_93 : (Int8.ofInt (93)).toInt32 = 93 := by decide
theorem bk_97 : (Int8.ofInt (97)).toInt32 = 97 := by decide
theorem bk_98 : (Int8.ofInt (98)).toInt32 = 98 := by decide
theorem bk_99 : (Int8.ofInt (99)).toInt32 = 99 := by decide
theorem bk_100 : (Int8.ofInt (100)).toInt32 = 100 := by decide
theorem bk_101 : (Int8.ofInt (101)).toInt32 = 101 := by decide
theorem bk_102 : (Int8.ofInt (102)).toInt32 = 102 := by decide
theorem bk_103 : (Int8.ofInt (103)).toInt32 = 103 := by decide
theorem bk_104 : (Int8.ofInt (104)).toInt32 = 104 := by decide
theorem bk_105 : (Int8.ofInt (105)).toInt32 = 105 := by decide
theorem bk_107 : (Int8.ofInt (107)).toInt32 = 107 := by decide
theorem bk_108 : (Int8.ofInt (108)).toInt32 = 108 := by decide
theorem bk_109 : (Int8.ofInt (109)).toInt32 = 109 := by decide
theorem bk_110 : (Int8.ofInt (110)).toInt32 = 110 := by decide
theorem bk_111 : (Int8.ofInt (111)).toInt32 = 111 := by decide
theorem bk_112 : (Int8.ofInt (112)).toInt32 = 112 := by decide
theorem bk_114 : (Int8.ofInt (114)).toInt32 = 114 := by decide
theorem bk_115 : (Int8.ofInt (115)).toInt32 = 115 := by decide
theorem bk_116 : (Int8.ofInt (116)).toInt32 = 116 := by decide
theorem bk_117 : (Int8.ofInt (117)).toInt32 = 117 := by decide
theorem bk_119 : (Int8.ofInt (119)).toInt32 = 119 := by decide
theorem bk_120 : (Int8.ofInt (120)).toInt32 = 120 := by decide
theorem bk_121 : (Int8.ofInt (121)).toInt32 = 121 := by decide
theorem bk_122 : (Int8.ofInt (122)).toInt32 = 122 := by decide
theorem sk_160 : (Int16.ofInt (160)).toInt32 = 160 := by decide
theorem sk_227 : (Int16.ofInt (227)).toInt32 = 227 := by decide
theorem sk_228 : (Int16.ofInt (228)).toInt32 = 228 := by decide
theorem sk_232 : (Int16.ofInt (232)).toInt32 = 232 := by decide
theorem sk_251 : (Int16.ofInt (251)).toInt32 = 251 := by decide
theorem sk_255 : (Int16.ofInt (255)).toInt32 = 255 := by decide
theorem sk_256 : (Int16.ofInt (256)).toInt32 = 256 := by decide
theorem sk_896 : (Int16.ofInt (896)).toInt32 = 896 := by decide
theorem sk_999 : (Int16.ofInt (999)).toInt32 = 999 := by decide
theorem sk_1000 : (Int16.ofInt (1000)).toInt32 = 1000 := by decide
theorem sk_1519 : (Int16.ofInt (1519)).toInt32 = 1519 := by decide
theorem sk_1600 : (Int16.ofInt (1600)).toInt32 = 1600 := by decide
theorem sk_1700 : (Int16.ofInt (1700)).toInt32 = 1700 := by decide
theorem sk_3200 : (Int16.ofInt (3200)).toInt32 = 3200 := by decide
theorem sk_4640 : (Int16.ofInt (4640)).toInt32 = 4640 := by decide
theorem sk_9999 : (Int16.ofInt (9999)).toInt32 = 9999 := by decide
theorem sk_10633 : (Int16.ofInt (10633)).toInt32 = 10633 := by decide
theorem lk_0 : Int64.ofNat ((0 : Fin 2) : Nat) = 0 := by decide
theorem lk_1 : Int64.ofNat ((1 : Fin 2) : Nat) = 1 := by decide
def sh_LAY : List (Nat × Nat) := [(11, 0), (13, 1600), (8, 0), (1, 0), (13, 1600), (14, 64), (2, 0), (6, 0), (5, 0), (13, 5), (13, 7), (13, 12), (13, 12), (1, 0), (13, 1600), (14, 64), (1, 0), (13, 1600), (14, 64), (1, 0), (13, 1600), (14, 64), (3, 0), (13, 49), (13, 7), (13, 7), (13, 7), (13, 7), (13, 38), (5, 0), (13, 5), (13, 7), (13, 12), (13, 12), (1, 0), (13, 1600), (14, 64), (1, 0), (13, 1600), (14, 64), (1, 0), (13, 1600), (14, 64), (3, 0), (13, 49), (13, 7), (13, 7), (13, 7), (13, 7), (3, 0), (13, 49), (13, 7), (13, 7), (13, 7), (13, 7), (10, 0), (13, 38), (3, 0), (13, 49), (13, 7), (13, 7), (13, 7), (13, 7), (4, 0), (13, 160), (16, 20), (17, 20), (13, 160), (13, 160), (13, 160), (13, 160), (13, 160), (13, 160), (13, 160), (13, 160), (13, 160), (13, 160), (13, 160), (13, 160), (13, 160), (13, 160), (13, 160), (13, 160), (13, 160), (13, 160), (13, 160), (13, 160), (13, 20), (3, 0), (13, 49), (13, 7), (13, 7), (13, 7), (13, 7), (3, 0), (13, 49), (13, 7), (13, 7), (13, 7), (13, 7), (3, 0), (13, 49), (13, 7), (13, 7), (13, 7), (13, 7), (3, 0), (13, 49), (13, 7), (13, 7), (13, 7), (13, 7), (3, 0), (13, 49), (13, 7), (13, 7), (13, 7), (13, 7), (3, 0), (13, 49), (13, 7), (13, 7), (13, 7), (13, 7), (3, 0), (13, 49), (13, 7), (13, 7), (13, 7), (13, 7), (3, 0), (13, 49), (13, 7), (13, 7), (13, 7), (13, 7), (3, 0), (13, 49), (13, 7), (13, 7), (13, 7), (13, 7), (3, 0), (13, 49), (13, 7), (13, 7), (13, 7), (13, 7), (3, 0), (13, 49), (13, 7), (13, 7), (13, 7), (13, 7), (3, 0), (13, 49), (13, 7), (13, 7), (13, 7), (13, 7), (3, 0), (13, 49), (13, 7), (13, 7), (13, 7), (13, 7), (3, 0), (13, 49), (13, 7), (13, 7), (13, 7), (13, 7), (3, 0), (13, 49), (13, 7), (13, 7), (13, 7), (13, 7), (3, 0), (13, 49), (13, 7), (13, 7), (13, 7), (13, 7), (3, 0), (13, 49), (13, 7), (13, 7), (13, 7), (13, 7), (3, 0), (13, 49), (13, 7), (13, 7), (13, 7), (13, 7), (3, 0), (13, 49), (13, 7), (13, 7), (13, 7), (13, 7), (3, 0), (13, 49), (13, 7), (13, 7), (13, 7), (13, 7), (0, 0), (3, 0), (13, 49), (13, 7), (13, 7), (13, 7), (13, 7), (16, 7), (13, 64), (13, 896), (3, 0), (13, 49), (13, 7), (13, 7), (13, 7), (13, 7), (3, 0), (13, 49), (13, 7), (13, 7), (13, 7), (13, 7), (3, 0), (13, 49), (13, 7), (13, 7), (13, 7), (13, 7), (3, 0), (13, 49), (13, 7), (13, 7), (13, 7), (13, 7), (3, 0), (13, 49), (13, 7), (13, 7), (13, 7), (13, 7), (3, 0), (13, 49), (13, 7), (13, 7), (13, 7), (13, 7), (3, 0), (13, 49), (13, 7), (13, 7), (13, 7), (13, 7), (7, 0), (16, 4), (13, 3), (3, 0), (13, 49), (13, 7), (13, 7), (13, 7), (13, 7), (3, 0), (13, 49), (13, 7), (13, 7), (13, 7), (13, 7), (3, 0), (13, 49), (13, 7), (13, 7), (13, 7), (13, 7), (3, 0), (13, 49), (13, 7), (13, 7), (13, 7), (13, 7), (9, 0), (13, 49), (13, 80), (13, 6), (12, 0), (13, 1600), (13, 6), (15, 5), (15, 2), (15, 4), (15, 5), (15, 6), (15, 2), (15, 5), (15, 5), (15, 2), (15, 4), (15, 5), (15, 5), (15, 5), (15, 5), (15, 6), (15, 5), (15, 3), (15, 4), (15, 6), (15, 6), (15, 3), (15, 2), (15, 3), (15, 3), (15, 3), (15, 3), (15, 3), (13, 6), (13, 6), (14, 32), (13, 49), (13, 21), (13, 48), (13, 6), (13, 6), (13, 3200), (13, 232), (13, 71), (13, 35), (13, 3), (13, 71), (13, 71), (13, 49), (13, 896), (13, 48), (13, 10633), (13, 4640), (15, 5), (15, 4), (15, 5), (15, 5), (15, 4), (15, 5), (15, 3), (15, 3), (15, 2), (15, 3), (15, 3), (15, 3), (15, 5), (15, 6), (15, 5), (15, 3), (15, 5), (15, 4), (15, 6), (15, 6), (15, 3), (15, 5), (15, 5), (13, 1700), (13, 1700), (14, 1700), (13, 80)]
def sh_HRL : List (Nat × Nat × Nat) := [(0, 0, 1), (0, 2, 2), (0, 3, 3), (0, 4, 6), (0, 5, 7), (0, 6, 28), (0, 8, 49), (0, 9, 55), (0, 10, 63), (0, 11, 208), (0, 12, 260), (0, 13, 287), (0, 17, 289), (0, 19, 290), (2, 0, 1), (3, 0, 4), (3, 2, 5), (6, 0, 2), (7, 0, 2), (7, 1, 6), (8, 6, 9), (8, 7, 10), (8, 8, 11), (8, 9, 12), (8, 10, 13), (8, 11, 16), (8, 12, 19), (8, 16, 22), (13, 0, 14), (13, 2, 15), (16, 0, 17), (16, 2, 18), (19, 0, 20), (19, 2, 21), (22, 1, 23), (22, 2, 24), (22, 3, 25), (22, 4, 26), (22, 5, 27), (29, 6, 30), (29, 7, 31), (29, 8, 32), (29, 9, 33), (29, 10, 34), (29, 11, 37), (29, 12, 40), (29, 16, 43), (34, 0, 35), (34, 2, 36), (37, 0, 38), (37, 2, 39), (40, 0, 41), (40, 2, 42), (43, 1, 44), (43, 2, 45), (43, 3, 46), (43, 4, 47), (43, 5, 48), (49, 1, 50), (49, 2, 51), (49, 3, 52), (49, 4, 53), (49, 5, 54), (55, 2, 56), (55, 3, 57), (57, 1, 58), (57, 2, 59), (57, 3, 60), (57, 4, 61), (57, 5, 62), (63, 0, 64), (63, 4, 65), (63, 5, 66), (63, 6, 87), (65, 0, 88), (65, 1, 94), (65, 2, 100), (65, 3, 106), (65, 4, 112), (65, 5, 118), (65, 6, 124), (65, 7, 130), (65, 8, 136), (65, 9, 142), (65, 10, 148), (65, 11, 154), (65, 12, 160), (65, 13, 166), (65, 14, 172), (65, 15, 178), (65, 16, 184), (65, 17, 190), (65, 18, 196), (65, 19, 202), (66, 0, 67), (66, 1, 68), (66, 2, 69), (66, 3, 70), (66, 4, 71), (66, 5, 72), (66, 6, 73), (66, 7, 74), (66, 8, 75), (66, 9, 76), (66, 10, 77), (66, 11, 78), (66, 12, 79), (66, 13, 80), (66, 14, 81), (66, 15, 82), (66, 16, 83), (66, 17, 84), (66, 18, 85), (66, 19, 86), (88, 1, 89), (88, 2, 90), (88, 3, 91), (88, 4, 92), (88, 5, 93), (94, 1, 95), (94, 2, 96), (94, 3, 97), (94, 4, 98), (94, 5, 99), (100, 1, 101), (100, 2, 102), (100, 3, 103), (100, 4, 104), (100, 5, 105), (106, 1, 107), (106, 2, 108), (106, 3, 109), (106, 4, 110), (106, 5, 111), (112, 1, 113), (112, 2, 114), (112, 3, 115), (112, 4, 116), (112, 5, 117), (118, 1, 119), (118, 2, 120), (118, 3, 121), (118, 4, 122), (118, 5, 123), (124, 1, 125), (124, 2, 126), (124, 3, 127), (124, 4, 128), (124, 5, 129), (130, 1, 131), (130, 2, 132), (130, 3, 133), (130, 4, 134), (130, 5, 135), (136, 1, 137), (136, 2, 138), (136, 3, 139), (136, 4, 140), (136, 5, 141), (142, 1, 143), (142, 2, 144), (142, 3, 145), (142, 4, 146), (142, 5, 147), (148, 1, 149), (148, 2, 150), (148, 3, 151), (148, 4, 152), (148, 5, 153), (154, 1, 155), (154, 2, 156), (154, 3, 157), (154, 4, 158), (154, 5, 159), (160, 1, 161), (160, 2, 162), (160, 3, 163), (160, 4, 164), (160, 5, 165), (166, 1, 167), (166, 2, 168), (166, 3, 169), (166, 4, 170), (166, 5, 171), (172, 1, 173), (172, 2, 174), (172, 3, 175), (172, 4, 176), (172, 5, 177), (178, 1, 179), (178, 2, 180), (178, 3, 181), (178, 4, 182), (178, 5, 183), (184, 1, 185), (184, 2, 186), (184, 3, 187), (184, 4, 188), (184, 5, 189), (190, 1, 191), (190, 2, 192), (190, 3, 193), (190, 4, 194), (190, 5, 195), (196, 1, 197), (196, 2, 198), (196, 3, 199), (196, 4, 200), (196, 5, 201), (202, 1, 203), (202, 2, 204), (202, 3, 205), (202, 4, 206), (202, 5, 207), (208, 0, 55), (208, 1, 209), (208, 2, 215), (208, 3, 216), (208, 5, 217), (209, 1, 210), (209, 2, 211), (209, 3, 212), (209, 4, 213), (209, 5, 214), (215, 0, 218), (215, 1, 224), (215, 2, 230), (215, 3, 236), (215, 4, 242), (215, 5, 248), (215, 6, 254), (218, 1, 219), (218, 2, 220), (218, 3, 221), (218, 4, 222), (218, 5, 223), (224, 1, 225), (224, 2, 226), (224, 3, 227), (224, 4, 228), (224, 5, 229), (230, 1, 231), (230, 2, 232), (230, 3, 233), (230, 4, 234), (230, 5, 235), (236, 1, 237), (236, 2, 238), (236, 3, 239), (236, 4, 240), (236, 5, 241), (242, 1, 243), (242, 2, 244), (242, 3, 245), (242, 4, 246), (242, 5, 247), (248, 1, 249), (248, 2, 250), (248, 3, 251), (248, 4, 252), (248, 5, 253), (254, 1, 255), (254, 2, 256), (254, 3, 257), (254, 4, 258), (254, 5, 259), (260, 0, 55), (260, 1, 261), (260, 2, 262), (261, 0, 263), (261, 1, 269), (261, 2, 275), (261, 3, 281), (263, 1, 264), (263, 2, 265), (263, 3, 266), (263, 4, 267), (263, 5, 268), (269, 1, 270), (269, 2, 271), (269, 3, 272), (269, 4, 273), (269, 5, 274), (275, 1, 276), (275, 2, 277), (275, 3, 278), (275, 4, 279), (275, 5, 280), (281, 1, 282), (281, 2, 283), (281, 3, 284), (281, 4, 285), (281, 5, 286), (287, 0, 288), (291, 0, 292), (291, 9, 293), (291, 11, 294), (291, 12, 295), (291, 13, 296), (291, 14, 297), (291, 15, 298), (291, 16, 299), (291, 17, 300), (291, 18, 301), (291, 19, 302), (291, 20, 303), (291, 21, 304), (291, 22, 305), (291, 23, 306), (291, 24, 307), (291, 25, 308), (291, 26, 309), (291, 27, 310), (291, 28, 311), (291, 29, 312), (291, 30, 313), (291, 31, 314), (291, 32, 315), (291, 33, 316), (291, 34, 317), (291, 35, 318), (291, 36, 319), (291, 37, 320), (291, 39, 321), (291, 40, 322), (291, 41, 323), (291, 42, 324), (291, 43, 325), (291, 44, 326), (291, 45, 327), (291, 46, 328), (291, 47, 329), (291, 52, 330), (291, 53, 331), (291, 61, 332), (291, 62, 333), (291, 63, 334), (291, 64, 335), (291, 69, 336), (291, 70, 337), (291, 72, 338), (291, 73, 339), (291, 75, 340), (291, 79, 341), (291, 80, 342), (291, 81, 343), (291, 82, 344), (291, 83, 345), (291, 84, 346), (291, 85, 347), (291, 86, 348), (291, 87, 349), (291, 88, 350), (291, 89, 351), (291, 90, 352), (291, 91, 353), (291, 92, 354), (291, 93, 355), (291, 94, 356), (291, 95, 357), (291, 96, 358), (291, 97, 359), (291, 98, 360), (291, 99, 361), (291, 100, 362), (291, 101, 363), (291, 102, 364), (291, 104, 365), (291, 108, 366), (291, 112, 367)]
/-- what never changes: what the cells are, the references that are final -/
def sh_G (μ : sh_Mem) : Prop := sh_lay μ = sh_LAY ∧ ∀ q ∈ sh_HRL, sh_r μ q.1 q.2.1 = some q.2.2
theorem g_l_0 {μ : sh_Mem} (h : sh_G μ) : (sh_lay μ)[0]? = some (11, 0) := by rw [h.1]; decide +kernel
theorem g_l_1 {μ : sh_Mem} (h : sh_G μ) : (sh_lay μ)[1]? = some (13, 1600) := by rw [h.1]; decide +kernel
theorem g_l_2 {μ : sh_Mem} (h : sh_G μ) : (sh_lay μ)[2]? = some (8, 0) := by rw [h.1]; decide +kernel
theorem g_l_3 {μ : sh_Mem} (h : sh_G μ) : (sh_lay μ)[3]? = some (1, 0) := by rw [h.1]; decide +kernel
theorem g_l_4 {μ : sh_Mem} (h : sh_G μ) : (sh_lay μ)[4]? = some (13, 1600) := by rw [h.1]; decide +kernel
theorem g_l_5 {μ : sh_Mem} (h : sh_G μ) : (sh_lay μ)[5]? = some (14, 64) := by rw [h.1]; decide +kernel
theorem g_l_6 {μ : sh_Mem} (h : sh_G μ) : (sh_lay μ)[6]? = some (2, 0) := by rw [h.1]; decide +kernel
theorem g_l_7 {μ : sh_Mem} (h : sh_G μ) : (sh_lay μ)[7]? = some (6, 0) := by rw [h.1]; decide +kernel
theorem g_l_8 {μ : sh_Mem} (h : sh_G μ) : (sh_lay μ)[8]? = some (5, 0) := by rw [h.1]; decide +kernel
theorem g_l_9 {μ : sh_Mem} (h : sh_G μ) : (sh_lay μ)[9]? = some (13, 5) := by rw [h.1]; decide +kernel
theorem g_l_10 {μ : sh_Mem} (h : sh_G μ) : (sh_lay μ)[10]? = some (13, 7) := by rw [h.1]; decide +kernel
theorem g_l_11 {μ : sh_Mem} (h : sh_G μ) : (sh_lay μ)[11]? = some (13, 12) := by rw [h.1]; decide +kernel
theorem g_l_12 {μ : sh_Mem} (h : sh_G μ) : (sh_lay μ)[12]? = some (13, 12) := by rw [h.1]; decide +kernel
theorem g_l_13 {μ : sh_Mem} (h : sh_G μ) : (sh_lay μ)[13]? = some (1, 0) := by rw [h.1]; decide +kernel
theorem g_l_14 {μ : sh_Mem} (h : sh_G μ) : (sh_lay μ)[14]? = some (13, 1600) := by rw [h.1]; decide +kernel
theorem g_l_15 {μ : sh_Mem} (h : sh_G μ) : (sh_lay μ)[15]? = some (14, 64) := by rw [h.1]; decide +kernel
theorem g_l_16 {μ : sh_Mem} (h : sh_G μ) : (sh_lay μ)[16]? = some (1, 0) := by rw [h.1]; decide +kernel
theorem g_l_17 {μ : sh_Mem} (h : sh_G μ) : (sh_lay μ)[17]? = some (13, 1600) := by rw [h.1]; decide +kernel
theorem g_l_18 {μ : sh_Mem} (h : sh_G μ) : (sh_lay μ)[18]? = some (14, 64) := by rw [h.1]; decide +kernel
theorem g_l_19 {μ : sh_Mem} (h : sh_G μ) : (sh_lay μ)[19]? = some (1, 0) := by rw [h.1]; decide +kernel
theorem g_l_20 {μ : sh_Mem} (h : sh_G μ) : (sh_lay μ)[20]? = some (13, 1600) := by rw [h.1]; decide +kernel
theorem g_l_21 {μ : sh_Mem} (h : sh_G μ) : (sh_lay μ)[21]? = some (14, 64) := by rw [h.1]; decide +kernel
theorem g_l_22 {μ : sh_Mem} (h : sh_G μ) : (sh_lay μ)[22]? = some (3, 0) := by rw [h.1]; decide +kernel
theorem g_l_23 {μ : sh_Mem} (h : sh_G μ) : (sh_lay μ)[23]? = some (13, 49) := by rw [h.1]; decide +kernel
theorem g_l_24 {μ : sh_Mem} (h : sh_G μ) : (sh_lay μ)[24]? = some (13, 7) := by rw [h.1]; decide +kernel
theorem g_l_25 {μ : sh_Mem} (h : sh_G μ) : (sh_lay μ)[25]? = some (13, 7) := by rw [h.1]; decide +kernel
theorem g_l_26 {μ : sh_Mem} (h : sh_G μ) : (sh_lay μ)[26]? = some (13, 7) := by rw [h.1]; decide +kernel
theorem g_l_27 {μ : sh_Mem} (h : sh_G μ) : (sh_lay μ)[27]? = some (13, 7) := by rw [h.1]; decide +kernel
theorem g_l_28 {μ : sh_Mem} (h : sh_G μ) : (sh_lay μ)[28]? = some (13, 38) := by rw [h.1]; decide +kernel
theorem g_l_29 {μ : sh_Mem} (h : sh_G μ) : (sh_lay μ)[29]? = some (5, 0) := by rw [h.1]; decide +kernel
theorem g_l_30 {μ : sh_Mem} (h : sh_G μ) : (sh_lay μ)[30]? = some (13, 5) := by rw [h.1]; decide +kernel
theorem g_l_31 {μ : sh_Mem} (h : sh_G μ) : (sh_lay μ)[31]? = some (13, 7) := by rw [h.1]; decide +kernel
theorem g_l_32 {μ : sh_Mem} (h : sh_G μ) : (sh_lay μ)[32]? = some (13, 12) := by rw [h.1]; decide +kernel
theorem g_l_33 {μ : sh_Mem} (h : sh_G μ) : (sh_lay μ)[33]? = some (13, 12) := by rw [h.1]; decide +kernel
theorem g_l_34 {μ : sh_Mem} (h : sh_G μ) : (sh_lay μ)[34]? = some (1, 0) := by rw [h.1]; decide +kernel
theorem g_l_35 {μ : sh_Mem} (h : sh_G μ) : (sh_lay μ)[35]? = some (13, 1600) := by rw [h.1]; decide +kernel
theorem g_l_36 {μ : sh_Mem} (h : sh_G μ) : (sh_lay μ)[36]? = some (14, 64) := by rw [h.1]; decide +kernel
theorem g_l_37 {μ : sh_Mem} (h : sh_G μ) : (sh_lay μ)[37]? = some (1, 0) := by rw [h.1]; decide +kernel
theorem g_l_38 {μ : sh_Mem} (h : sh_G μ) : (sh_lay μ)[38]? = some (13, 1600) := by rw [h.1]; decide +kernel
theorem g_l_39 {μ : sh_Mem} (h : sh_G μ) : (sh_lay μ)[39]? = some (14, 64) := by rw [h.1]; decide +kernel
theorem g_l_40 {μ : sh_Mem} (h : sh_G μ) : (sh_lay μ)[40]? = some (1, 0) := by rw [h.1]; decide +kernel
theorem g_l_41 {μ : sh_Mem} (h : sh_G μ) : (sh_lay μ)[41]? = some (13, 1600) := by rw [h.1]; decide +kernel
theorem g_l_42 {μ : sh_Mem} (h : sh_G μ) : (sh_lay μ)[42]? = some (14, 64) := by rw [h.1]; decide +kernel
theorem g_l_43 {μ : sh_Mem} (h : sh_G μ) : (sh_lay μ)[43]? = some (3, 0) := by rw [h.1]; decide +kernel
theorem g_l_44 {μ : sh_Mem} (h : sh_G μ) : (sh_lay μ)[44]? = some (13, 49) := by rw [h.1]; decide +kernel
theorem g_l_45 {μ : sh_Mem} (h : sh_G μ) : (sh_lay μ)[45]? = some (13, 7) := by rw [h.1]; decide +kernel
theorem g_l_46 {μ : sh_Mem} (h : sh_G μ) : (sh_lay μ)[46]? = some (13, 7) := by rw [h.1]; decide +kernel
theorem g_l_47 {μ : sh_Mem} (h : sh_G μ) : (sh_lay μ)[47]? = some (13, 7) := by rw [h.1]; decide +kernel
theorem g_l_48 {μ : sh_Mem} (h : sh_G μ) : (sh_lay μ)[48]? = some (13, 7) := by rw [h.1]; decide +kernel
theorem g_l_49 {μ : sh_Mem} (h : sh_G μ) : (sh_lay μ)[49]? = some (3, 0) := by rw [h.1]; decide +kernel
theorem g_l_50 {μ : sh_Mem} (h : sh_G μ) : (sh_lay μ)[50]? = some (13, 49) := by rw [h.1]; decide +kernel
theorem g_l_51 {μ : sh_Mem} (h : sh_G μ) : (sh_lay μ)[51]? = some (13, 7) := by rw [h.1]; decide +kernel
theorem g_l_52 {μ : sh_Mem} (h : sh_G μ) : (sh_lay μ)[52]? = some (13, 7) := by rw [h.1]; decide +kernel
theorem g_l_53 {μ : sh_Mem} (h : sh_G μ) : (sh_lay μ)[53]? = some (13, 7) := by rw [h.1]; decide +kernel
theorem g_l_54 {μ : sh_Mem} (h : sh_G μ) : (sh_lay μ)[54]? = some (13, 7) := by rw [h.1]; decide +kernel
theorem g_l_55 {μ : sh_Mem} (h : sh_G μ) : (sh_lay μ)[55]? = some (10, 0) := by rw [h.1]; decide +kernel
theorem g_l_56 {μ : sh_Mem} (h : sh_G μ) : (sh_lay μ)[56]? = some (13, 38) := by rw [h.1]; decide +kernel
theorem g_l_57 {μ : sh_Mem} (h : sh_G μ) : (sh_lay μ)[57]? = some (3, 0) := by rw [h.1]; decide +kernel
theorem g_l_58 {μ : sh_Mem} (h : sh_G μ) : (sh_lay μ)[58]? = some (13, 49) := by rw [h.1]; decide +kernel
theorem g_l_59 {μ : sh_Mem} (h : sh_G μ) : (sh_lay μ)[59]? = some (13, 7) := by rw [h.1]; decide +kernel
theorem g_l_60 {μ : sh_Mem} (h : sh_G μ) : (sh_lay μ)[60]? = some (13, 7) := by rw [h.1]; decide +kernel
theorem g_l_61 {μ : sh_Mem} (h : sh_G μ) : (sh_lay μ)[61]? = some (13, 7) := by rw [h.1]; decide +kernel
theorem g_l_62 {μ : sh_Mem} (h : sh_G μ) : (sh_lay μ)[62]? = some (13, 7) := by rw [h.1]; decide +kernel
theorem g_l_63 {μ : sh_Mem} (h : sh_G μ) : (sh_lay μ)[63]? = some (4, 0) := by rw [h.1]; decide +kernel
theorem g_l_64 {μ : sh_Mem} (h : sh_G μ) : (sh_lay μ)[64]? = some (13, 160) := by rw [h.1]; decide +kernel
theorem g_l_65 {μ : sh_Mem} (h : sh_G μ) : (sh_lay μ)[65]? = some (16, 20) := by rw [h.1]; decide +kernel
theorem g_l_66 {μ : sh_Mem} (h : sh_G μ) : (sh_lay μ)[66]? = some (17, 20) := by rw [h.1]; decide +kernel
theorem g_l_87 {μ : sh_Mem} (h : sh_G μ) : (sh_lay μ)[87]? = some (13, 20) := by rw [h.1]; decide +kernel
theorem g_l_208 {μ : sh_Mem} (h : sh_G μ) : (sh_lay μ)[208]? = some (0, 0) := by rw [h.1]; decide +kernel
theorem g_l_215 {μ : sh_Mem} (h : sh_G μ) : (sh_lay μ)[215]? = some (16, 7) := by rw [h.1]; decide +kernel
theorem g_l_216 {μ : sh_Mem} (h : sh_G μ) : (sh_lay μ)[216]? = some (13, 64) := by rw [h.1]; decide +kernel
theorem g_l_217 {μ : sh_Mem} (h : sh_G μ) : (sh_lay μ)[217]? = some (13, 896) := by rw [h.1]; decide +kernel
theorem g_l_260 {μ : sh_Mem} (h : sh_G μ) : (sh_lay μ)[260]? = some (7, 0) := by rw [h.1]; decide +kernel
theorem g_l_261 {μ : sh_Mem} (h : sh_G μ) : (sh_lay μ)[261]? = some (16, 4) := by rw [h.1]; decide +kernel
theorem g_l_262 {μ : sh_Mem} (h : sh_G μ) : (sh_lay μ)[262]? = some (13, 3) := by rw [h.1]; decide +kernel
theorem g_l_287 {μ : sh_Mem} (h : sh_G μ) : (sh_lay μ)[287]? = some (9, 0) := by rw [h.1]; decide +kernel
theorem g_l_288 {μ : sh_Mem} (h : sh_G μ) : (sh_lay μ)[288]? = some (13, 49) := by rw [h.1]; decide +kernel
theorem g_l_289 {μ : sh_Mem} (h : sh_G μ) : (sh_lay μ)[289]? = some (13, 80) := by rw [h.1]; decide +kernel
theorem g_l_290 {μ : sh_Mem} (h : sh_G μ) : (sh_lay μ)[290]? = some (13, 6) := by rw [h.1]; decide +kernel
theorem g_l_291 {μ : sh_Mem} (h : sh_G μ) : (sh_lay μ)[291]? = some (12, 0) := by rw [h.1]; decide +kernel
theorem g_l_292 {μ : sh_Mem} (h : sh_G μ) : (sh_lay μ)[292]? = some (13, 1600) := by rw [h.1]; decide +kernel
theorem g_l_293 {μ : sh_Mem} (h : sh_G μ) : (sh_lay μ)[293]? = some (13, 6) := by rw [h.1]; decide +kernel
theorem g_l_294 {μ : sh_Mem} (h : sh_G μ) : (sh_lay μ)[294]? = some (15, 5) := by rw [h.1]; decide +kernel
theorem g_l_295 {μ : sh_Mem} (h : sh_G μ) : (sh_lay μ)[295]? = some (15, 2) := by rw [h.1]; decide +kernel
theorem g_l_296 {μ : sh_Mem} (h : sh_G μ) : (sh_lay μ)[296]? = some (15, 4) := by rw [h.1]; decide +kernel
theorem g_l_297 {μ : sh_Mem} (h : sh_G μ) : (sh_lay μ)[297]? = some (15, 5) := by rw [h.1]; decide +kernel
theorem g_l_298 {μ : sh_Mem} (h : sh_G μ) : (sh_lay μ)[298]? = some (15, 6) := by rw [h.1]; decide +kernel
theorem g_l_299 {μ : sh_Mem} (h : sh_G μ) : (sh_lay μ)[299]? = some (15, 2) := by rw [h.1]; decide +kernel
theorem g_l_300 {μ : sh_Mem} (h : sh_G μ) : (sh_lay μ)[300]? = some (15, 5) := by rw [h.1]; decide +kernel
theorem g_l_301 {μ : sh_Mem} (h : sh_G μ) : (sh_lay μ)[301]? = some (15, 5) := by rw [h.1]; decide +kernel
theorem g_l_302 {μ : sh_Mem} (h : sh_G μ) : (sh_lay μ)[302]? = some (15, 2) := by rw [h.1]; decide +kernel
theorem g_l_303 {μ : sh_Mem} (h : sh_G μ) : (sh_lay μ)[303]? = some (15, 4) := by rw [h.1]; decide +kernel
theorem g_l_304 {μ : sh_Mem} (h : sh_G μ) : (sh_lay μ)[304]? = some (15, 5) := by rw [h.1]; decide +kernel
theorem g_l_305 {μ : sh_Mem} (h : sh_G μ) : (sh_lay μ)[305]? = some (15, 5) := by rw [h.1]; decide +kernel
theorem g_l_306 {μ : sh_Mem} (h : sh_G μ) : (sh_lay μ)[306]? = some (15, 5) := by rw [h.1]; decide +kernel
theorem g_l_307 {μ : sh_Mem} (h : sh_G μ) : (sh_lay μ)[307]? = some (15, 5) := by rw [h.1]; decide +kernel
theorem g_l_308 {μ : sh_Mem} (h : sh_G μ) : (sh_lay μ)[308]? = some (15, 6) := by rw [h.1]; decide +kernel
theorem g_l_309 {μ : sh_Mem} (h : sh_G μ) : (sh_lay μ)[309]? = some (15, 5) := by rw [h.1]; decide +kernel
theorem g_l_310 {μ : sh_Mem} (h : sh_G μ) : (sh_lay μ)[310]? = some (15, 3) := by rw [h.1]; decide +kernel
theorem g_l_311 {μ : sh_Mem} (h : sh_G μ) : (sh_lay μ)[311]? = some (15, 4) := by rw [h.1]; decide +kernel
theorem g_l_312 {μ : sh_Mem} (h : sh_G μ) : (sh_lay μ)[312]? = some (15, 6) := by rw [h.1]; decide +kernel
theorem g_l_313 {μ : sh_Mem} (h : sh_G μ) : (sh_lay μ)[313]? = some (15, 6) := by rw [h.1]; decide +kernel
theorem g_l_314 {μ : sh_Mem} (h : sh_G μ) : (sh_lay μ)[314]? = some (15, 3) := by rw [h.1]; decide +kernel
theorem g_l_315 {μ : sh_Mem} (h : sh_G μ) : (sh_lay μ)[315]? = some (15, 2) := by rw [h.1]; decide +kernel
theorem g_l_316 {μ : sh_Mem} (h : sh_G μ) : (sh_lay μ)[316]? = some (15, 3) := by rw [h.1]; decide +kernel
theorem g_l_317 {μ : sh_Mem} (h : sh_G μ) : (sh_lay μ)[317]? = some (15, 3) := by rw [h.1]; decide +kernel
theorem g_l_318 {μ : sh_Mem} (h : sh_G μ) : (sh_lay μ)[318]? = some (15, 3) := by rw [h.1]; decide +kernel
theorem g_l_319 {μ : sh_Mem} (h : sh_G μ) : (sh_lay μ)[319]? = some (15, 3) := by rw [h.1]; decide +kernel
theorem g_l_320 {μ : sh_Mem} (h : sh_G μ) : (sh_lay μ)[320]? = some (15, 3) := by rw [h.1]; decide +kernel
theorem g_l_321 {μ : sh_Mem} (h : sh_G μ) : (sh_lay μ)[321]? = some (13, 6) := by rw [h.1]; decide +kernel
theorem g_l_322 {μ : sh_Mem} (h : sh_G μ) : (sh_lay μ)[322]? = some (13, 6) := by rw [h.1]; decide +kernel
theorem g_l_323 {μ : sh_Mem} (h : sh_G μ) : (sh_lay μ)[323]? = some (14, 32) := by rw [h.1]; decide +kernel
theorem g_l_324 {μ : sh_Mem} (h : sh_G μ) : (sh_lay μ)[324]? = some (13, 49) := by rw [h.1]; decide +kernel
theorem g_l_325 {μ : sh_Mem} (h : sh_G μ) : (sh_lay μ)[325]? = some (13, 21) := by rw [h.1]; decide +kernel
theorem g_l_326 {μ : sh_Mem} (h : sh_G μ) : (sh_lay μ)[326]? = some (13, 48) := by rw [h.1]; decide +kernel
theorem g_l_327 {μ : sh_Mem} (h : sh_G μ) : (sh_lay μ)[327]? = some (13, 6) := by rw [h.1]; decide +kernel
theorem g_l_328 {μ : sh_Mem} (h : sh_G μ) : (sh_lay μ)[328]? = some (13, 6) := by rw [h.1]; decide +kernel
theorem g_l_329 {μ : sh_Mem} (h : sh_G μ) : (sh_lay μ)[329]? = some (13, 3200) := by rw [h.1]; decide +kernel
theorem g_l_330 {μ : sh_Mem} (h : sh_G μ) : (sh_lay μ)[330]? = some (13, 232) := by rw [h.1]; decide +kernel
theorem g_l_331 {μ : sh_Mem} (h : sh_G μ) : (sh_lay μ)[331]? = some (13, 71) := by rw [h.1]; decide +kernel
theorem g_l_332 {μ : sh_Mem} (h : sh_G μ) : (sh_lay μ)[332]? = some (13, 35) := by rw [h.1]; decide +kernel
theorem g_l_333 {μ : sh_Mem} (h : sh_G μ) : (sh_lay μ)[333]? = some (13, 3) := by rw [h.1]; decide +kernel
theorem g_l_334 {μ : sh_Mem} (h : sh_G μ) : (sh_lay μ)[334]? = some (13, 71) := by rw [h.1]; decide +kernel
theorem g_l_335 {μ : sh_Mem} (h : sh_G μ) : (sh_lay μ)[335]? = some (13, 71) := by rw [h.1]; decide +kernel
theorem g_l_336 {μ : sh_Mem} (h : sh_G μ) : (sh_lay μ)[336]? = some (13, 49) := by rw [h.1]; decide +kernel
theorem g_l_337 {μ : sh_Mem} (h : sh_G μ) : (sh_lay μ)[337]? = some (13, 896) := by rw [h.1]; decide +kernel
theorem g_l_338 {μ : sh_Mem} (h : sh_G μ) : (sh_lay μ)[338]? = some (13, 48) := by rw [h.1]; decide +kernel
theorem g_l_339 {μ : sh_Mem} (h : sh_G μ) : (sh_lay μ)[339]? = some (13, 10633) := by rw [h.1]; decide +kernel
theorem g_l_340 {μ : sh_Mem} (h : sh_G μ) : (sh_lay μ)[340]? = some (13, 4640) := by rw [h.1]; decide +kernel
theorem g_l_341 {μ : sh_Mem} (h : sh_G μ) : (sh_lay μ)[341]? = some (15, 5) := by rw [h.1]; decide +kernel
theorem g_l_342 {μ : sh_Mem} (h : sh_G μ) : (sh_lay μ)[342]? = some (15, 4) := by rw [h.1]; decide +kernel
theorem g_l_343 {μ : sh_Mem} (h : sh_G μ) : (sh_lay μ)[343]? = some (15, 5) := by rw [h.1]; decide +kernel
theorem g_l_344 {μ : sh_Mem} (h : sh_G μ) : (sh_lay μ)[344]? = some (15, 5) := by rw [h.1]; decide +kernel
theorem g_l_345 {μ : sh_Mem} (h : sh_G μ) : (sh_lay μ)[345]? = some (15, 4) := by rw [h.1]; decide +kernel
theorem g_l_346 {μ : sh_Mem} (h : sh_G μ) : (sh_lay μ)[346]? = some (15, 5) := by rw [h.1]; decide +kernel
theorem g_l_347 {μ : sh_Mem} (h : sh_G μ) : (sh_lay μ)[347]? = some (15, 3) := by rw [h.1]; decide +kernel
theorem g_l_348 {μ : sh_Mem} (h : sh_G μ) : (sh_lay μ)[348]? = some (15, 3) := by rw [h.1]; decide +kernel
theorem g_l_349 {μ : sh_Mem} (h : sh_G μ) : (sh_lay μ)[349]? = some (15, 2) := by rw [h.1]; decide +kernel
theorem g_l_350 {μ : sh_Mem} (h : sh_G μ) : (sh_lay μ)[350]? = some (15, 3) := by rw [h.1]; decide +kernel
theorem g_l_351 {μ : sh_Mem} (h : sh_G μ) : (sh_lay μ)[351]? = some (15, 3) := by rw [h.1]; decide +kernel
theorem g_l_352 {μ : sh_Mem} (h : sh_G μ) : (sh_lay μ)[352]? = some (15, 3) := by rw [h.1]; decide +kernel
theorem g_l_353 {μ : sh_Mem} (h : sh_G μ) : (sh_lay μ)[353]? = some (15, 5) := by rw [h.1]; decide +kernel
theorem g_l_354 {μ : sh_Mem} (h : sh_G μ) : (sh_lay μ)[354]? = some (15, 6) := by rw [h.1]; decide +kernel
theorem g_l_355 {μ : sh_Mem} (h : sh_G μ) : (sh_lay μ)[355]? = some (15, 5) := by rw [h.1]; decide +kernel
theorem g_l_356 {μ : sh_Mem} (h : sh_G μ) : (sh_lay μ)[356]? = some (15, 3) := by rw [h.1]; decide +kernel
theorem g_l_357 {μ : sh_Mem} (h : sh_G μ) : (sh_lay μ)[357]? = some (15, 5) := by rw [h.1]; decide +kernel
theorem g_l_358 {μ : sh_Mem} (h : sh_G μ) : (sh_lay μ)[358]? = some (15, 4) := by rw [h.1]; decide +kernel
theorem g_l_359 {μ : sh_Mem} (h : sh_G μ) : (sh_lay μ)[359]? = some (15, 6) := by rw [h.1]; decide +kernel
theorem g_l_360 {μ : sh_Mem} (h : sh_G μ) : (sh_lay μ)[360]? = some (15, 6) := by rw [h.1]; decide +kernel
theorem g_l_361 {μ : sh_Mem} (h : sh_G μ) : (sh_lay μ)[361]? = some (15, 3) := by rw [h.1]; decide +kernel
theorem g_l_362 {μ : sh_Mem} (h : sh_G μ) : (sh_lay μ)[362]? = some (15, 5) := by rw [h.1]; decide +kernel
theorem g_l_363 {μ : sh_Mem} (h : sh_G μ) : (sh_lay μ)[363]? = some (15, 5) := by rw [h.1]; decide +kernel
theorem g_l_364 {μ : sh_Mem} (h : sh_G μ) : (sh_lay μ)[364]? = some (13, 1700) := by rw [h.1]; decide +kernel
theorem g_l_365 {μ : sh_Mem} (h : sh_G μ) : (sh_lay μ)[365]? = some (13, 1700) := by rw [h.1]; decide +kernel
theorem g_l_366 {μ : sh_Mem} (h : sh_G μ) : (sh_lay μ)[366]? = some (14, 1700) := by rw [h.1]; decide +kernel
theorem g_l_367 {μ : sh_Mem} (h : sh_G μ) : (sh_lay μ)[367]? = some (13, 80) := by rw [h.1]; decide +kernel
theorem g_r_0_0 {μ : sh_Mem} (h : sh_G μ) : sh_r μ 0 0 = some 1 := h.2 (0, 0, 1) (by decide +kernel)
theorem g_r_0_2 {μ : sh_Mem} (h : sh_G μ) : sh_r μ 0 2 = some 2 := h.2 (0, 2, 2) (by decide +kernel)
theorem g_r_0_3 {μ : sh_Mem} (h : sh_G μ) : sh_r μ 0 3 = some 3 := h.2 (0, 3, 3) (by decide +kernel)
theorem g_r_0_4 {μ : sh_Mem} (h : sh_G μ) : sh_r μ 0 4 = some 6 := h.2 (0, 4, 6) (by decide +kernel)
theorem g_r_0_5 {μ : sh_Mem} (h : sh_G μ) : sh_r μ 0 5 = some 7 := h.2 (0, 5, 7) (by decide +kernel)
theorem g_r_0_6 {μ : sh_Mem} (h : sh_G μ) : sh_r μ 0 6 = some 28 := h.2 (0, 6, 28) (by decide +kernel)
theorem g_r_0_8 {μ : sh_Mem} (h : sh_G μ) : sh_r μ 0 8 = some 49 := h.2 (0, 8, 49) (by decide +kernel)
theorem g_r_0_9 {μ : sh_Mem} (h : sh_G μ) : sh_r μ 0 9 = some 55 := h.2 (0, 9, 55) (by decide +kernel)
theorem g_r_0_10 {μ : sh_Mem} (h : sh_G μ) : sh_r μ 0 10 = some 63 := h.2 (0, 10, 63) (by decide +kernel)
theorem g_r_0_11 {μ : sh_Mem} (h : sh_G μ) : sh_r μ 0 11 = some 208 := h.2 (0, 11, 208) (by decide +kernel)
theorem g_r_0_12 {μ : sh_Mem} (h : sh_G μ) : sh_r μ 0 12 = some 260 := h.2 (0, 12, 260) (by decide +kernel)
theorem g_r_0_13 {μ : sh_Mem} (h : sh_G μ) : sh_r μ 0 13 = some 287 := h.2 (0, 13, 287) (by decide +kernel)
theorem g_r_0_17 {μ : sh_Mem} (h : sh_G μ) : sh_r μ 0 17 = some 289 := h.2 (0, 17, 289) (by decide +kernel)
theorem g_r_0_19 {μ : sh_Mem} (h : sh_G μ) : sh_r μ 0 19 = some 290 := h.2 (0, 19, 290) (by decide +kernel)
theorem g_r_2_0 {μ : sh_Mem} (h : sh_G μ) : sh_r μ 2 0 = some 1 := h.2 (2, 0, 1) (by decide +kernel)
theorem g_r_3_0 {μ : sh_Mem} (h : sh_G μ) : sh_r μ 3 0 = some 4 := h.2 (3, 0, 4) (by decide +kernel)
theorem g_r_3_2 {μ : sh_Mem} (h : sh_G μ) : sh_r μ 3 2 = some 5 := h.2 (3, 2, 5) (by decide +kernel)
theorem g_r_6_0 {μ : sh_Mem} (h : sh_G μ) : sh_r μ 6 0 = some 2 := h.2 (6, 0, 2) (by decide +kernel)
theorem g_r_7_0 {μ : sh_Mem} (h : sh_G μ) : sh_r μ 7 0 = some 2 := h.2 (7, 0, 2) (by decide +kernel)
theorem g_r_7_1 {μ : sh_Mem} (h : sh_G μ) : sh_r μ 7 1 = some 6 := h.2 (7, 1, 6) (by decide +kernel)
theorem g_r_8_6 {μ : sh_Mem} (h : sh_G μ) : sh_r μ 8 6 = some 9 := h.2 (8, 6, 9) (by decide +kernel)
theorem g_r_8_7 {μ : sh_Mem} (h : sh_G μ) : sh_r μ 8 7 = some 10 := h.2 (8, 7, 10) (by decide +kernel)
theorem g_r_8_8 {μ : sh_Mem} (h : sh_G μ) : sh_r μ 8 8 = some 11 := h.2 (8, 8, 11) (by decide +kernel)
theorem g_r_8_9 {μ : sh_Mem} (h : sh_G μ) : sh_r μ 8 9 = some 12 := h.2 (8, 9, 12) (by decide +kernel)
theorem g_r_8_10 {μ : sh_Mem} (h : sh_G μ) : sh_r μ 8 10 = some 13 := h.2 (8, 10, 13) (by decide +kernel)
theorem g_r_8_11 {μ : sh_Mem} (h : sh_G μ) : sh_r μ 8 11 = some 16 := h.2 (8, 11, 16) (by decide +kernel)
theorem g_r_8_12 {μ : sh_Mem} (h : sh_G μ) : sh_r μ 8 12 = some 19 := h.2 (8, 12, 19) (by decide +kernel)
theorem g_r_8_16 {μ : sh_Mem} (h : sh_G μ) : sh_r μ 8 16 = some 22 := h.2 (8, 16, 22) (by decide +kernel)
theorem g_r_13_0 {μ : sh_Mem} (h : sh_G μ) : sh_r μ 13 0 = some 14 := h.2 (13, 0, 14) (by decide +kernel)
theorem g_r_13_2 {μ : sh_Mem} (h : sh_G μ) : sh_r μ 13 2 = some 15 := h.2 (13, 2, 15) (by decide +kernel)
theorem g_r_16_0 {μ : sh_Mem} (h : sh_G μ) : sh_r μ 16 0 = some 17 := h.2 (16, 0, 17) (by decide +kernel)
theorem g_r_16_2 {μ : sh_Mem} (h : sh_G μ) : sh_r μ 16 2 = some 18 := h.2 (16, 2, 18) (by decide +kernel)
theorem g_r_19_0 {μ : sh_Mem} (h : sh_G μ) : sh_r μ 19 0 = some 20 := h.2 (19, 0, 20) (by decide +kernel)
theorem g_r_19_2 {μ : sh_Mem} (h : sh_G μ) : sh_r μ 19 2 = some 21 := h.2 (19, 2, 21) (by decide +kernel)
theorem g_r_22_1 {μ : sh_Mem} (h : sh_G μ) : sh_r μ 22 1 = some 23 := h.2 (22, 1, 23) (by decide +kernel)
theorem g_r_22_2 {μ : sh_Mem} (h : sh_G μ) : sh_r μ 22 2 = some 24 := h.2 (22, 2, 24) (by decide +kernel)
theorem g_r_22_3 {μ : sh_Mem} (h : sh_G μ) : sh_r μ 22 3 = some 25 := h.2 (22, 3, 25) (by decide +kernel)
theorem g_r_22_4 {μ : sh_Mem} (h : sh_G μ) : sh_r μ 22 4 = some 26 := h.2 (22, 4, 26) (by decide +kernel)
theorem g_r_22_5 {μ : sh_Mem} (h : sh_G μ) : sh_r μ 22 5 = some 27 := h.2 (22, 5, 27) (by decide +kernel)
theorem g_r_29_6 {μ : sh_Mem} (h : sh_G μ) : sh_r μ 29 6 = some 30 := h.2 (29, 6, 30) (by decide +kernel)
theorem g_r_29_7 {μ : sh_Mem} (h : sh_G μ) : sh_r μ 29 7 = some 31 := h.2 (29, 7, 31) (by decide +kernel)
theorem g_r_29_8 {μ : sh_Mem} (h : sh_G μ) : sh_r μ 29 8 = some 32 := h.2 (29, 8, 32) (by decide +kernel)
theorem g_r_29_9 {μ : sh_Mem} (h : sh_G μ) : sh_r μ 29 9 = some 33 := h.2 (29, 9, 33) (by decide +kernel)
theorem g_r_29_10 {μ : sh_Mem} (h : sh_G μ) : sh_r μ 29 10 = some 34 := h.2 (29, 10, 34) (by decide +kernel)
theorem g_r_29_11 {μ : sh_Mem} (h : sh_G μ) : sh_r μ 29 11 = some 37 := h.2 (29, 11, 37) (by decide +kernel)
theorem g_r_29_12 {μ : sh_Mem} (h : sh_G μ) : sh_r μ 29 12 = some 40 := h.2 (29, 12, 40) (by decide +kernel)
theorem g_r_29_16 {μ : sh_Mem} (h : sh_G μ) : sh_r μ 29 16 = some 43 := h.2 (29, 16, 43) (by decide +kernel)
theorem g_r_34_0 {μ : sh_Mem} (h : sh_G μ) : sh_r μ 34 0 = some 35 := h.2 (34, 0, 35) (by decide +kernel)
theorem g_r_34_2 {μ : sh_Mem} (h : sh_G μ) : sh_r μ 34 2 = some 36 := h.2 (34, 2, 36) (by decide +kernel)
theorem g_r_37_0 {μ : sh_Mem} (h : sh_G μ) : sh_r μ 37 0 = some 38 := h.2 (37, 0, 38) (by decide +kernel)
theorem g_r_37_2 {μ : sh_Mem} (h : sh_G μ) : sh_r μ 37 2 = some 39 := h.2 (37, 2, 39) (by decide +kernel)
theorem g_r_40_0 {μ : sh_Mem} (h : sh_G μ) : sh_r μ 40 0 = some 41 := h.2 (40, 0, 41) (by decide +kernel)
theorem g_r_40_2 {μ : sh_Mem} (h : sh_G μ) : sh_r μ 40 2 = some 42 := h.2 (40, 2, 42) (by decide +kernel)
theorem g_r_43_1 {μ : sh_Mem} (h : sh_G μ) : sh_r μ 43 1 = some 44 := h.2 (43, 1, 44) (by decide +kernel)
theorem g_r_43_2 {μ : sh_Mem} (h : sh_G μ) : sh_r μ 43 2 = some 45 := h.2 (43, 2, 45) (by decide +kernel)
theorem g_r_43_3 {μ : sh_Mem} (h : sh_G μ) : sh_r μ 43 3 = some 46 := h.2 (43, 3, 46) (by decide +kernel)
theorem g_r_43_4 {μ : sh_Mem} (h : sh_G μ) : sh_r μ 43 4 = some 47 := h.2 (43, 4, 47) (by decide +kernel)
theorem g_r_43_5 {μ : sh_Mem} (h : sh_G μ) : sh_r μ 43 5 = some 48 := h.2 (43, 5, 48) (by decide +kernel)
theorem g_r_49_1 {μ : sh_Mem} (h : sh_G μ) : sh_r μ 49 1 = some 50 := h.2 (49, 1, 50) (by decide +kernel)
theorem g_r_49_2 {μ : sh_Mem} (h : sh_G μ) : sh_r μ 49 2 = some 51 := h.2 (49, 2, 51) (by decide +kernel)
theorem g_r_49_3 {μ : sh_Mem} (h : sh_G μ) : sh_r μ 49 3 = some 52 := h.2 (49, 3, 52) (by decide +kernel)
theorem g_r_49_4 {μ : sh_Mem} (h : sh_G μ) : sh_r μ 49 4 = some 53 := h.2 (49, 4, 53) (by decide +kernel)
theorem g_r_49_5 {μ : sh_Mem} (h : sh_G μ) : sh_r μ 49 5 = some 54 := h.2 (49, 5, 54) (by decide +kernel)
theorem g_r_55_2 {μ : sh_Mem} (h : sh_G μ) : sh_r μ 55 2 = some 56 := h.2 (55, 2, 56) (by decide +kernel)
theorem g_r_55_3 {μ : sh_Mem} (h : sh_G μ) : sh_r μ 55 3 = some 57 := h.2 (55, 3, 57) (by decide +kernel)
theorem g_r_57_1 {μ : sh_Mem} (h : sh_G μ) : sh_r μ 57 1 = some 58 := h.2 (57, 1, 58) (by decide +kernel)
theorem g_r_57_2 {μ : sh_Mem} (h : sh_G μ) : sh_r μ 57 2 = some 59 := h.2 (57, 2, 59) (by decide +kernel)
theorem g_r_57_3 {μ : sh_Mem} (h : sh_G μ) : sh_r μ 57 3 = some 60 := h.2 (57, 3, 60) (by decide +kernel)
theorem g_r_57_4 {μ : sh_Mem} (h : sh_G μ) : sh_r μ 57 4 = some 61 := h.2 (57, 4, 61) (by decide +kernel)
theorem g_r_57_5 {μ : sh_Mem} (h : sh_G μ) : sh_r μ 57 5 = some 62 := h.2 (57, 5, 62) (by decide +kernel)
theorem g_r_63_0 {μ : sh_Mem} (h : sh_G μ) : sh_r μ 63 0 = some 64 := h.2 (63, 0, 64) (by decide +kernel)
theorem g_r_63_4 {μ : sh_Mem} (h : sh_G μ) : sh_r μ 63 4 = some 65 := h.2 (63, 4, 65) (by decide +kernel)
theorem g_r_63_5 {μ : sh_Mem} (h : sh_G μ) : sh_r μ 63 5 = some 66 := h.2 (63, 5, 66) (by decide +kernel)
theorem g_r_63_6 {μ : sh_Mem} (h : sh_G μ) : sh_r μ 63 6 = some 87 := h.2 (63, 6, 87) (by decide +kernel)
theorem g_r_208_0 {μ : sh_Mem} (h : sh_G μ) : sh_r μ 208 0 = some 55 := h.2 (208, 0, 55) (by decide +kernel)
theorem g_r_208_1 {μ : sh_Mem} (h : sh_G μ) : sh_r μ 208 1 = some 209 := h.2 (208, 1, 209) (by decide +kernel)
theorem g_r_208_2 {μ : sh_Mem} (h : sh_G μ) : sh_r μ 208 2 = some 215 := h.2 (208, 2, 215) (by decide +kernel)
theorem g_r_208_3 {μ : sh_Mem} (h : sh_G μ) : sh_r μ 208 3 = some 216 := h.2 (208, 3, 216) (by decide +kernel)
theorem g_r_208_5 {μ : sh_Mem} (h : sh_G μ) : sh_r μ 208 5 = some 217 := h.2 (208, 5, 217) (by decide +kernel)
theorem g_r_260_0 {μ : sh_Mem} (h : sh_G μ) : sh_r μ 260 0 = some 55 := h.2 (260, 0, 55) (by decide +kernel)
theorem g_r_260_1 {μ : sh_Mem} (h : sh_G μ) : sh_r μ 260 1 = some 261 := h.2 (260, 1, 261) (by decide +kernel)
theorem g_r_260_2 {μ : sh_Mem} (h : sh_G μ) : sh_r μ 260 2 = some 262 := h.2 (260, 2, 262) (by decide +kernel)
theorem g_r_287_0 {μ : sh_Mem} (h : sh_G μ) : sh_r μ 287 0 = some 288 := h.2 (287, 0, 288) (by decide +kernel)
theorem g_r_291_0 {μ : sh_Mem} (h : sh_G μ) : sh_r μ 291 0 = some 292 := h.2 (291, 0, 292) (by decide +kernel)
theorem g_r_291_9 {μ : sh_Mem} (h : sh_G μ) : sh_r μ 291 9 = some 293 := h.2 (291, 9, 293) (by decide +kernel)
theorem g_r_291_11 {μ : sh_Mem} (h : sh_G μ) : sh_r μ 291 11 = some 294 := h.2 (291, 11, 294) (by decide +kernel)
theorem g_r_291_12 {μ : sh_Mem} (h : sh_G μ) : sh_r μ 291 12 = some 295 := h.2 (291, 12, 295) (by decide +kernel)
theorem g_r_291_13 {μ : sh_Mem} (h : sh_G μ) : sh_r μ 291 13 = some 296 := h.2 (291, 13, 296) (by decide +kernel)
theorem g_r_291_14 {μ : sh_Mem} (h : sh_G μ) : sh_r μ 291 14 = some 297 := h.2 (291, 14, 297) (by decide +kernel)
theorem g_r_291_15 {μ : sh_Mem} (h : sh_G μ) : sh_r μ 291 15 = some 298 := h.2 (291, 15, 298) (by decide +kernel)
theorem g_r_291_16 {μ : sh_Mem} (h : sh_G μ) : sh_r μ 291 16 = some 299 := h.2 (291, 16, 299) (by decide +kernel)
theorem g_r_291_17 {μ : sh_Mem} (h : sh_G μ) : sh_r μ 291 17 = some 300 := h.2 (291, 17, 300) (by decide +kernel)
theorem g_r_291_18 {μ : sh_Mem} (h : sh_G μ) : sh_r μ 291 18 = some 301 := h.2 (291, 18, 301) (by decide +kernel)
theorem g_r_291_19 {μ : sh_Mem} (h : sh_G μ) : sh_r μ 291 19 = some 302 := h.2 (291, 19, 302) (by decide +kernel)
theorem g_r_291_20 {μ : sh_Mem} (h : sh_G μ) : sh_r μ 291 20 = some 303 := h.2 (291, 20, 303) (by decide +kernel)
theorem g_r_291_21 {μ : sh_Mem} (h : sh_G μ) : sh_r μ 291 21 = some 304 := h.2 (291, 21, 304) (by decide +kernel)
theorem g_r_291_22 {μ : sh_Mem} (h : sh_G μ) : sh_r μ 291 22 = some 305 := h.2 (291, 22, 305) (by decide +kernel)
theorem g_r_291_23 {μ : sh_Mem} (h : sh_G μ) : sh_r μ 291 23 = some 306 := h.2 (291, 23, 306) (by decide +kernel)
theorem g_r_291_24 {μ : sh_Mem} (h : sh_G μ) : sh_r μ 291 24 = some 307 := h.2 (291, 24, 307) (by decide +kernel)
theorem g_r_291_25 {μ : sh_Mem} (h : sh_G μ) : sh_r μ 291 25 = some 308 := h.2 (291, 25, 308) (by decide +kernel)
theorem g_r_291_26 {μ : sh_Mem} (h : sh_G μ) : sh_r μ 291 26 = some 309 := h.2 (291, 26, 309) (by decide +kernel)
theorem g_r_291_27 {μ : sh_Mem} (h : sh_G μ) : sh_r μ 291 27 = some 310 := h.2 (291, 27, 310) (by decide +kernel)
theorem g_r_291_28 {μ : sh_Mem} (h : sh_G μ) : sh_r μ 291 28 = some 311 := h.2 (291, 28, 311) (by decide +kernel)
theorem g_r_291_29 {μ : sh_Mem} (h : sh_G μ) : sh_r μ 291 29 = some 312 := h.2 (291, 29, 312) (by decide +kernel)
theorem g_r_291_30 {μ : sh_Mem} (h : sh_G μ) : sh_r μ 291 30 = some 313 := h.2 (291, 30, 313) (by decide +kernel)
theorem g_r_291_31 {μ : sh_Mem} (h : sh_G μ) : sh_r μ 291 31 = some 314 := h.2 (291, 31, 314) (by decide +kernel)
theorem g_r_291_32 {μ : sh_Mem} (h : sh_G μ) : sh_r μ 291 32 = some 315 := h.2 (291, 32, 315) (by decide +kernel)
theorem g_r_291_33 {μ : sh_Mem} (h : sh_G μ) : sh_r μ 291 33 = some 316 := h.2 (291, 33, 316) (by decide +kernel)
theorem g_r_291_34 {μ : sh_Mem} (h : sh_G μ) : sh_r μ 291 34 = some 317 := h.2 (291, 34, 317) (by decide +kernel)
theorem g_r_291_35 {μ : sh_Mem} (h : sh_G μ) : sh_r μ 291 35 = some 318 := h.2 (291, 35, 318) (by decide +kernel)
theorem g_r_291_36 {μ : sh_Mem} (h : sh_G μ) : sh_r μ 291 36 = some 319 := h.2 (291, 36, 319) (by decide +kernel)
theorem g_r_291_37 {μ : sh_Mem} (h : sh_G μ) : sh_r μ 291 37 = some 320 := h.2 (291, 37, 320) (by decide +kernel)
theorem g_r_291_39 {μ : sh_Mem} (h : sh_G μ) : sh_r μ 291 39 = some 321 := h.2 (291, 39, 321) (by decide +kernel)
theorem g_r_291_40 {μ : sh_Mem} (h : sh_G μ) : sh_r μ 291 40 = some 322 := h.2 (291, 40, 322) (by decide +kernel)
theorem g_r_291_41 {μ : sh_Mem} (h : sh_G μ) : sh_r μ 291 41 = some 323 := h.2 (291, 41, 323) (by decide +kernel)
theorem g_r_291_42 {μ : sh_Mem} (h : sh_G μ) : sh_r μ 291 42 = some 324 := h.2 (291, 42, 324) (by decide +kernel)
theorem g_r_291_43 {μ : sh_Mem} (h : sh_G μ) : sh_r μ 291 43 = some 325 := h.2 (291, 43, 325) (by decide +kernel)
theorem g_r_291_44 {μ : sh_Mem} (h : sh_G μ) : sh_r μ 291 44 = some 326 := h.2 (291, 44, 326) (by decide +kernel)
theorem g_r_291_45 {μ : sh_Mem} (h : sh_G μ) : sh_r μ 291 45 = some 327 := h.2 (291, 45, 327) (by decide +kernel)
theorem g_r_291_46 {μ : sh_Mem} (h : sh_G μ) : sh_r μ 291 46 = some 328 := h.2 (291, 46, 328) (by decide +kernel)
theorem g_r_291_47 {μ : sh_Mem} (h : sh_G μ) : sh_r μ 291 47 = some 329 := h.2 (291, 47, 329) (by decide +kernel)
theorem g_r_291_52 {μ : sh_Mem} (h : sh_G μ) : sh_r μ 291 52 = some 330 := h.2 (291, 52, 330) (by decide +kernel)
theorem g_r_291_53 {μ : sh_Mem} (h : sh_G μ) : sh_r μ 291 53 = some 331 := h.2 (291, 53, 331) (by decide +kernel)
theorem g_r_291_61 {μ : sh_Mem} (h : sh_G μ) : sh_r μ 291 61 = some 332 := h.2 (291, 61, 332) (by decide +kernel)
theorem g_r_291_62 {μ : sh_Mem} (h : sh_G μ) : sh_r μ 291 62 = some 333 := h.2 (291, 62, 333) (by decide +kernel)
theorem g_r_291_63 {μ : sh_Mem} (h : sh_G μ) : sh_r μ 291 63 = some 334 := h.2 (291, 63, 334) (by decide +kernel)
theorem g_r_291_64 {μ : sh_Mem} (h : sh_G μ) : sh_r μ 291 64 = some 335 := h.2 (291, 64, 335) (by decide +kernel)
theorem g_r_291_69 {μ : sh_Mem} (h : sh_G μ) : sh_r μ 291 69 = some 336 := h.2 (291, 69, 336) (by decide +kernel)
theorem g_r_291_70 {μ : sh_Mem} (h : sh_G μ) : sh_r μ 291 70 = some 337 := h.2 (291, 70, 337) (by decide +kernel)
theorem g_r_291_72 {μ : sh_Mem} (h : sh_G μ) : sh_r μ 291 72 = some 338 := h.2 (291, 72, 338) (by decide +kernel)
theorem g_r_291_73 {μ : sh_Mem} (h : sh_G μ) : sh_r μ 291 73 = some 339 := h.2 (291, 73, 339) (by decide +kernel)
theorem g_r_291_75 {μ : sh_Mem} (h : sh_G μ) : sh_r μ 291 75 = some 340 := h.2 (291, 75, 340) (by decide +kernel)
theorem g_r_291_79 {μ : sh_Mem} (h : sh_G μ) : sh_r μ 291 79 = some 341 := h.2 (291, 79, 341) (by decide +kernel)
theorem g_r_291_80 {μ : sh_Mem} (h : sh_G μ) : sh_r μ 291 80 = some 342 := h.2 (291, 80, 342) (by decide +kernel)
theorem g_r_291_81 {μ : sh_Mem} (h : sh_G μ) : sh_r μ 291 81 = some 343 := h.2 (291, 81, 343) (by decide +kernel)
theorem g_r_291_82 {μ : sh_Mem} (h : sh_G μ) : sh_r μ 291 82 = some 344 := h.2 (291, 82, 344) (by decide +kernel)
theorem g_r_291_83 {μ : sh_Mem} (h : sh_G μ) : sh_r μ 291 83 = some 345 := h.2 (291, 83, 345) (by decide +kernel)
theorem g_r_291_84 {μ : sh_Mem} (h : sh_G μ) : sh_r μ 291 84 = some 346 := h.2 (291, 84, 346) (by decide +kernel)
theorem g_r_291_85 {μ : sh_Mem} (h : sh_G μ) : sh_r μ 291 85 = some 347 := h.2 (291, 85, 347) (by decide +kernel)
theorem g_r_291_86 {μ : sh_Mem} (h : sh_G μ) : sh_r μ 291 86 = some 348 := h.2 (291, 86, 348) (by decide +kernel)
theorem g_r_291_87 {μ : sh_Mem} (h : sh_G μ) : sh_r μ 291 87 = some 349 := h.2 (291, 87, 349) (by decide +kernel)
theorem g_r_291_88 {μ : sh_Mem} (h : sh_G μ) : sh_r μ 291 88 = some 350 := h.2 (291, 88, 350) (by decide +kernel)
theorem g_r_291_89 {μ : sh_Mem} (h : sh_G μ) : sh_r μ 291 89 = some 351 := h.2 (291, 89, 351) (by decide +kernel)
theorem g_r_291_90 {μ : sh_Mem} (h : sh_G μ) : sh_r μ 291 90 = some 352 := h.2 (291, 90, 352) (by decide +kernel)
theorem g_r_291_91 {μ : sh_Mem} (h : sh_G μ) : sh_r μ 291 91 = some 353 := h.2 (291, 91, 353) (by decide +kernel)
theorem g_r_291_92 {μ : sh_Mem} (h : sh_G μ) : sh_r μ 291 92 = some 354 := h.2 (291, 92, 354) (by decide +kernel)
theorem g_r_291_93 {μ : sh_Mem} (h : sh_G μ) : sh_r μ 291 93 = some 355 := h.2 (291, 93, 355) (by decide +kernel)
theorem g_r_291_94 {μ : sh_Mem} (h : sh_G μ) : sh_r μ 291 94 = some 356 := h.2 (291, 94, 356) (by decide +kernel)
theorem g_r_291_95 {μ : sh_Mem} (h : sh_G μ) : sh_r μ 291 95 = some 357 := h.2 (291, 95, 357) (by decide +kernel)
theorem g_r_291_96 {μ : sh_Mem} (h : sh_G μ) : sh_r μ 291 96 = some 358 := h.2 (291, 96, 358) (by decide +kernel)
theorem g_r_291_97 {μ : sh_Mem} (h : sh_G μ) : sh_r μ 291 97 = some 359 := h.2 (291, 97, 359) (by decide +kernel)
theorem g_r_291_98 {μ : sh_Mem} (h : sh_G μ) : sh_r μ 291 98 = some 360 := h.2 (291, 98, 360) (by decide +kernel)
theorem g_r_291_99 {μ : sh_Mem} (h : sh_G μ) : sh_r μ 291 99 = some 361 := h.2 (291, 99, 361) (by decide +kernel)
theorem g_r_291_100 {μ : sh_Mem} (h : sh_G μ) : sh_r μ 291 100 = some 362 := h.2 (291, 100, 362) (by decide +kernel)
theorem g_r_291_101 {μ : sh_Mem} (h : sh_G μ) : sh_r μ 291 101 = some 363 := h.2 (291, 101, 363) (by decide +kernel)
theorem g_r_291_102 {μ : sh_Mem} (h : sh_G μ) : sh_r μ 291 102 = some 364 := h.2 (291, 102, 364) (by decide +kernel)
theorem g_r_291_104 {μ : sh_Mem} (h : sh_G μ) : sh_r μ 291 104 = some 365 := h.2 (291, 104, 365) (by decide +kernel)
theorem g_r_291_108 {μ : sh_Mem} (h : sh_G μ) : sh_r μ 291 108 = some 366 := h.2 (291, 108, 366) (by decide +kernel)
theorem g_r_291_112 {μ : sh_Mem} (h : sh_G μ) : sh_r μ 291 112 = some 367 := h.2 (291, 112, 367) (by decide +kernel)
def sh_LANDS : List Nat := [22, 43, 49, 57, 88, 94, 100, 106, 112, 118, 124, 130, 136, 142, 148, 154, 160, 166, 172, 178, 184, 190, 196, 202, 209, 218, 224, 230, 236, 242, 248, 254, 263, 269, 275, 281]
def sh_isL (r : Nat) : Prop := r ∈ sh_LANDS
theorem sh_L1 : ∀ r ∈ sh_LANDS, sh_LAY[r]? = some (3, 0) ∧ sh_LAY[r + 1]? = some (13, 49) ∧ sh_LAY[r + 2]? = some (13, 7) ∧ sh_LAY[r + 3]? = some (13, 7) ∧ sh_LAY[r + 4]? = some (13, 7) ∧ sh_LAY[r + 5]? = some (13, 7) := by decide +kernel
theorem sh_L2 : ∀ r ∈ sh_LANDS, (r, 1, r + 1) ∈ sh_HRL ∧ (r, 2, r + 2) ∈ sh_HRL ∧ (r, 3, r + 3) ∈ sh_HRL ∧ (r, 4, r + 4) ∈ sh_HRL ∧ (r, 5, r + 5) ∈ sh_HRL := by decide +kernel
theorem gL_l {μ : sh_Mem} {r : Nat} (h : sh_G μ) (hr : sh_isL r) : (sh_lay μ)[r]? = some (3, 0) := by rw [h.1]; exact (sh_L1 r hr).1
theorem gL_a1 {μ : sh_Mem} {r : Nat} (h : sh_G μ) (hr : sh_isL r) : (sh_lay μ)[r + 1]? = some (13, 49) := by rw [h.1]; exact (sh_L1 r hr).2.1
theorem gL_r1 {μ : sh_Mem} {r : Nat} (h : sh_G μ) (hr : sh_isL r) : sh_r μ r 1 = some (r + 1) := h.2 (r, 1, r + 1) ((sh_L2 r hr).1)
theorem gL_a2 {μ : sh_Mem} {r : Nat} (h : sh_G μ) (hr : sh_isL r) : (sh_lay μ)[r + 2]? = some (13, 7) := by rw [h.1]; exact (sh_L1 r hr).2.2.1
theorem gL_r2 {μ : sh_Mem} {r : Nat} (h : sh_G μ) (hr : sh_isL r) : sh_r μ r 2 = some (r + 2) := h.2 (r, 2, r + 2) ((sh_L2 r hr).2.1)
theorem gL_a3 {μ : sh_Mem} {r : Nat} (h : sh_G μ) (hr : sh_isL r) : (sh_lay μ)[r + 3]? = some (13, 7) := by rw [h.1]; exact (sh_L1 r hr).2.2.2.1
theorem gL_r3 {μ : sh_Mem} {r : Nat} (h : sh_G μ) (hr : sh_isL r) : sh_r μ r 3 = some (r + 3) := h.2 (r, 3, r + 3) ((sh_L2 r hr).2.2.1)
theorem gL_a4 {μ : sh_Mem} {r : Nat} (h : sh_G μ) (hr : sh_isL r) : (sh_lay μ)[r + 4]? = some (13, 7) := by rw [h.1]; exact (sh_L1 r hr).2.2.2.2.1
theorem gL_r4 {μ : sh_Mem} {r : Nat} (h : sh_G μ) (hr : sh_isL r) : sh_r μ r 4 = some (r + 4) := h.2 (r, 4, r + 4) ((sh_L2 r hr).2.2.2.1)
theorem gL_a5 {μ : sh_Mem} {r : Nat} (h : sh_G μ) (hr : sh_isL r) : (sh_lay μ)[r + 5]? = some (13, 7) := by rw [h.1]; exact (sh_L1 r hr).2.2.2.2.2
theorem gL_r5 {μ : sh_Mem} {r : Nat} (h : sh_G μ) (hr : sh_isL r) : sh_r μ r 5 = some (r + 5) := h.2 (r, 5, r + 5) ((sh_L2 r hr).2.2.2.2)
theorem sh_isL_22 : sh_isL 22 := by show 22 ∈ sh_LANDS; decide +kernel
theorem sh_isL_43 : sh_isL 43 := by show 43 ∈ sh_LANDS; decide +kernel
theorem sh_isL_49 : sh_isL 49 := by show 49 ∈ sh_LANDS; decide +kernel
theorem sh_isL_57 : sh_isL 57 := by show 57 ∈ sh_LANDS; decide +kernel
theorem sh_isL_88 : sh_isL 88 := by show 88 ∈ sh_LANDS; decide +kernel
theorem sh_isL_94 : sh_isL 94 := by show 94 ∈ sh_LANDS; decide +kernel
theorem sh_isL_100 : sh_isL 100 := by show 100 ∈ sh_LANDS; decide +kernel
theorem sh_isL_106 : sh_isL 106 := by show 106 ∈ sh_LANDS; decide +kernel
theorem sh_isL_112 : sh_isL 112 := by show 112 ∈ sh_LANDS; decide +kernel
theorem sh_isL_118 : sh_isL 118 := by show 118 ∈ sh_LANDS; decide +kernel
theorem sh_isL_124 : sh_isL 124 := by show 124 ∈ sh_LANDS; decide +kernel
theorem sh_isL_130 : sh_isL 130 := by show 130 ∈ sh_LANDS; decide +kernel
theorem sh_isL_136 : sh_isL 136 := by show 136 ∈ sh_LANDS; decide +kernel
theorem sh_isL_142 : sh_isL 142 := by show 142 ∈ sh_LANDS; decide +kernel
theorem sh_isL_148 : sh_isL 148 := by show 148 ∈ sh_LANDS; decide +kernel
theorem sh_isL_154 : sh_isL 154 := by show 154 ∈ sh_LANDS; decide +kernel
theorem sh_isL_160 : sh_isL 160 := by show 160 ∈ sh_LANDS; decide +kernel
theorem sh_isL_166 : sh_isL 166 := by show 166 ∈ sh_LANDS; decide +kernel
theorem sh_isL_172 : sh_isL 172 := by show 172 ∈ sh_LANDS; decide +kernel
theorem sh_isL_178 : sh_isL 178 := by show 178 ∈ sh_LANDS; decide +kernel
theorem sh_isL_184 : sh_isL 184 := by show 184 ∈ sh_LANDS; decide +kernel
theorem sh_isL_190 : sh_isL 190 := by show 190 ∈ sh_LANDS; decide +kernel
theorem sh_isL_196 : sh_isL 196 := by show 196 ∈ sh_LANDS; decide +kernel
theorem sh_isL_202 : sh_isL 202 := by show 202 ∈ sh_LANDS; decide +kernel
theorem sh_isL_209 : sh_isL 209 := by show 209 ∈ sh_LANDS; decide +kernel
theorem sh_isL_218 : sh_isL 218 := by show 218 ∈ sh_LANDS; decide +kernel
theorem sh_isL_224 : sh_isL 224 := by show 224 ∈ sh_LANDS; decide +kernel
theorem sh_isL_230 : sh_isL 230 := by show 230 ∈ sh_LANDS; decide +kernel
theorem sh_isL_236 : sh_isL 236 := by show 236 ∈ sh_LANDS; decide +kernel
theorem sh_isL_242 : sh_isL 242 := by show 242 ∈ sh_LANDS; decide +kernel
theorem sh_isL_248 : sh_isL 248 := by show 248 ∈ sh_LANDS; decide +kernel
theorem sh_isL_254 : sh_isL 254 := by show 254 ∈ sh_LANDS; decide +kernel
theorem sh_isL_263 : sh_isL 263 := by show 263 ∈ sh_LANDS; decide +kernel
theorem sh_isL_269 : sh_isL 269 := by show 269 ∈ sh_LANDS; decide +kernel
theorem sh_isL_275 : sh_isL 275 := by show 275 ∈ sh_LANDS; decide +kernel
theorem sh_isL_281 : sh_isL 281 := by show 281 ∈ sh_LANDS; decide +kernel
def sh_FORMS : List Nat := [3, 13, 16, 19, 34, 37, 40]
def sh_isF (r : Nat) : Prop := r ∈ sh_FORMS
theorem sh_F1 : ∀ r ∈ sh_FORMS, sh_LAY[r]? = some (1, 0) ∧ sh_LAY[r + 1]? = some (13, 1600) ∧ sh_LAY[r + 2]? = some (14, 64) ∧ (r, 0, r + 1) ∈ sh_HRL ∧ (r, 2, r + 2) ∈ sh_HRL := by decide +kernel
theorem gF_l {μ : sh_Mem} {r : Nat} (h : sh_G μ) (hr : sh_isF r) : (sh_lay μ)[r]? = some (1, 0) := by rw [h.1]; exact (sh_F1 r hr).1
theorem gF_a0 {μ : sh_Mem} {r : Nat} (h : sh_G μ) (hr : sh_isF r) : (sh_lay μ)[r + 1]? = some (13, 1600) := by rw [h.1]; exact (sh_F1 r hr).2.1
theorem gF_a2 {μ : sh_Mem} {r : Nat} (h : sh_G μ) (hr : sh_isF r) : (sh_lay μ)[r + 2]? = some (14, 64) := by rw [h.1]; exact (sh_F1 r hr).2.2.1
theorem gF_r0 {μ : sh_Mem} {r : Nat} (h : sh_G μ) (hr : sh_isF r) : sh_r μ r 0 = some (r + 1) := h.2 (r, 0, r + 1) (sh_F1 r hr).2.2.2.1
theorem gF_r2 {μ : sh_Mem} {r : Nat} (h : sh_G μ) (hr : sh_isF r) : sh_r μ r 2 = some (r + 2) := h.2 (r, 2, r + 2) (sh_F1 r hr).2.2.2.2
theorem sh_isF_3 : sh_isF 3 := by show 3 ∈ sh_FORMS; decide +kernel
theorem sh_isF_13 : sh_isF 13 := by show 13 ∈ sh_FORMS; decide +kernel
theorem sh_isF_16 : sh_isF 16 := by show 16 ∈ sh_FORMS; decide +kernel
theorem sh_isF_19 : sh_isF 19 := by show 19 ∈ sh_FORMS; decide +kernel
theorem sh_isF_34 : sh_isF 34 := by show 34 ∈ sh_FORMS; decide +kernel
theorem sh_isF_37 : sh_isF 37 := by show 37 ∈ sh_FORMS; decide +kernel
theorem sh_isF_40 : sh_isF 40 := by show 40 ∈ sh_FORMS; decide +kernel
def sh_isP (r : Nat) : Prop := r = 8 ∨ r = 29
theorem gP_l {μ : sh_Mem} {r : Nat} (h : sh_G μ) (hr : sh_isP r) : (sh_lay μ)[r]? = some (5, 0) := by rcases hr with rfl | rfl; exact g_l_8 h; exact g_l_29 h
theorem gP_r6 {μ : sh_Mem} {r : Nat} (h : sh_G μ) (hr : sh_isP r) : sh_r μ r 6 = some (r + 1) := by rcases hr with rfl | rfl; exact g_r_8_6 h; exact g_r_29_6 h
theorem gP_a6 {μ : sh_Mem} {r : Nat} (h : sh_G μ) (hr : sh_isP r) : (sh_lay μ)[r + 1]? = some (13, 5) := by rcases hr with rfl | rfl; exact g_l_9 h; exact g_l_30 h
theorem gP_r7 {μ : sh_Mem} {r : Nat} (h : sh_G μ) (hr : sh_isP r) : sh_r μ r 7 = some (r + 2) := by rcases hr with rfl | rfl; exact g_r_8_7 h; exact g_r_29_7 h
theorem gP_a7 {μ : sh_Mem} {r : Nat} (h : sh_G μ) (hr : sh_isP r) : (sh_lay μ)[r + 2]? = some (13, 7) := by rcases hr with rfl | rfl; exact g_l_10 h; exact g_l_31 h
theorem gP_r8 {μ : sh_Mem} {r : Nat} (h : sh_G μ) (hr : sh_isP r) : sh_r μ r 8 = some (r + 3) := by rcases hr with rfl | rfl; exact g_r_8_8 h; exact g_r_29_8 h
theorem gP_a8 {μ : sh_Mem} {r : Nat} (h : sh_G μ) (hr : sh_isP r) : (sh_lay μ)[r + 3]? = some (13, 12) := by rcases hr with rfl | rfl; exact g_l_11 h; exact g_l_32 h
theorem gP_r9 {μ : sh_Mem} {r : Nat} (h : sh_G μ) (hr : sh_isP r) : sh_r μ r 9 = some (r + 4) := by rcases hr with rfl | rfl; exact g_r_8_9 h; exact g_r_29_9 h
theorem gP_a9 {μ : sh_Mem} {r : Nat} (h : sh_G μ) (hr : sh_isP r) : (sh_lay μ)[r + 4]? = some (13, 12) := by rcases hr with rfl | rfl; exact g_l_12 h; exact g_l_33 h
theorem gP_r10 {μ : sh_Mem} {r : Nat} (h : sh_G μ) (hr : sh_isP r) : sh_r μ r 10 = some (r + 5) := by rcases hr with rfl | rfl; exact g_r_8_10 h; exact g_r_29_10 h
theorem gP_f10 {r : Nat} (hr : sh_isP r) : sh_isF (r + 5) := by rcases hr with rfl | rfl; exact sh_isF_13; exact sh_isF_34
theorem gP_r11 {μ : sh_Mem} {r : Nat} (h : sh_G μ) (hr : sh_isP r) : sh_r μ r 11 = some (r + 8) := by rcases hr with rfl | rfl; exact g_r_8_11 h; exact g_r_29_11 h
theorem gP_f11 {r : Nat} (hr : sh_isP r) : sh_isF (r + 8) := by rcases hr with rfl | rfl; exact sh_isF_16; exact sh_isF_37
theorem gP_r12 {μ : sh_Mem} {r : Nat} (h : sh_G μ) (hr : sh_isP r) : sh_r μ r 12 = some (r + 11) := by rcases hr with rfl | rfl; exact g_r_8_12 h; exact g_r_29_12 h
theorem gP_f12 {r : Nat} (hr : sh_isP r) : sh_isF (r + 11) := by rcases hr with rfl | rfl; exact sh_isF_19; exact sh_isF_40
theorem gP_r16 {μ : sh_Mem} {r : Nat} (h : sh_G μ) (hr : sh_isP r) : sh_r μ r 16 = some (r + 14) := by rcases hr with rfl | rfl; exact g_r_8_16 h; exact g_r_29_16 h
theorem gP_land {r : Nat} (hr : sh_isP r) : sh_isL (r + 14) := by rcases hr with rfl | rfl; exact sh_isL_22; exact sh_isL_43
theorem sh_G.setR {μ : sh_Mem} (h : sh_G μ) {r k v : Nat} (hk : ∀ q ∈ sh_HRL, ¬ (q.1 = r ∧ q.2.1 = k)) : sh_G (sh_setR μ r k (some v)) := by
  refine ⟨h.1, fun q hq => ?_⟩
  rw [← h.2 q hq]
  show sh_row _ r _ q.1 q.2.1 = _
  by_cases e1 : q.1 = r
  · rw [e1, sh_row_s]
    exact if_neg (fun e2 => hk q hq ⟨e1, e2⟩)
  · rw [sh_row_n e1]
