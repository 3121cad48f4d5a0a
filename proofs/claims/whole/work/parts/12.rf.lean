/-! the second phase: references, and what the blocks need -/
def zRL : Bool → List (List (Option Nat))
  | false => [[some 1, some 3, some 11, some 19, some 23, some 24, some 66, some 67, some 72, some 75], [some 2], [], [none, none, some 4, some 5, some 6, none, some 7, some 8, none, some 9, some 10], [], [], [], [], [], [], [], [none, none, some 12, some 13, some 14, none, some 15, some 16, none, some 17, some 18], [], [], [], [], [], [], [], [some 20, some 21, some 22], [], [], [], [some 3, some 19], [some 25], [some 26, some 30, some 34, some 38, some 42, some 46, some 50, some 54, some 58, some 62], [some 27, some 28, some 29], [], [], [], [some 31, some 32, some 33], [], [], [], [some 35, some 36, some 37], [], [], [], [some 39, some 40, some 41], [], [], [], [some 43, some 44, some 45], [], [], [], [some 47, some 48, some 49], [], [], [], [some 51, some 52, some 53], [], [], [], [some 55, some 56, some 57], [], [], [], [some 59, some 60, some 61], [], [], [], [some 63, some 64, some 65], [], [], [], [some 79, some 126], [some 23, some 3, some 68, some 69, some 70, some 71], [], [], [], [], [some 23, some 3, some 73, some 74], [], [], [some 23, some 3, some 76, some 77, some 78], [], [], [], [some 80, some 84], [some 81, some 82, some 83], [], [], [], [some 85], [some 86, some 90, some 94, some 98, some 102, some 106, some 110, some 114, some 118, some 122], [some 87, some 88, some 89], [], [], [], [some 91, some 92, some 93], [], [], [], [some 95, some 96, some 97], [], [], [], [some 99, some 100, some 101], [], [], [], [some 103, some 104, some 105], [], [], [], [some 107, some 108, some 109], [], [], [], [some 111, some 112, some 113], [], [], [], [some 115, some 116, some 117], [], [], [], [some 119, some 120, some 121], [], [], [], [some 123, some 124, some 125], [], [], [], [some 127, some 131], [some 128, some 129, some 130], [], [], [], [some 132], [some 133, some 137, some 141, some 145, some 149, some 153, some 157, some 161, some 165, some 169], [some 134, some 135, some 136], [], [], [], [some 138, some 139, some 140], [], [], [], [some 142, some 143, some 144], [], [], [], [some 146, some 147, some 148], [], [], [], [some 150, some 151, some 152], [], [], [], [some 154, some 155, some 156], [], [], [], [some 158, some 159, some 160], [], [], [], [some 162, some 163, some 164], [], [], [], [some 166, some 167, some 168], [], [], [], [some 170, some 171, some 172], [], [], [], [some 174, none, some 175, some 176, some 177, some 178, some 179, some 180, some 181, some 182, some 183, some 184, some 185, some 186, none, none, none, none, none, none, some 187, some 188, some 189, some 190, some 191, some 192, none, some 193, some 194, some 195, some 196], [], [], [], [], [], [], [], [], [], [], [], [], [], [], [], [], [], [], [], [], [], [], []]
  | true => [[some 1, some 3, some 11, some 19, some 23, some 24, some 66, some 67, some 72, some 75], [some 2], [], [none, none, some 4, some 5, some 6, none, some 7, some 8, none, some 9, some 10], [], [], [], [], [], [], [], [none, none, some 12, some 13, some 14, none, some 15, some 16, none, some 17, some 18], [], [], [], [], [], [], [], [some 20, some 21, some 22], [], [], [], [some 3, some 19], [some 25], [some 26, some 30, some 34, some 38, some 42, some 46, some 50, some 54, some 58, some 62], [some 27, some 28, some 29], [], [], [], [some 31, some 32, some 33], [], [], [], [some 35, some 36, some 37], [], [], [], [some 39, some 40, some 41], [], [], [], [some 43, some 44, some 45], [], [], [], [some 47, some 48, some 49], [], [], [], [some 51, some 52, some 53], [], [], [], [some 55, some 56, some 57], [], [], [], [some 59, some 60, some 61], [], [], [], [some 63, some 64, some 65], [], [], [], [some 79, some 126], [some 23, some 3, some 68, some 69, some 71, some 70], [], [], [], [], [some 23, some 3, some 73, some 74], [], [], [some 23, some 3, some 76, some 77, some 78], [], [], [], [some 80, some 84], [some 81, some 82, some 83], [], [], [], [some 85], [some 86, some 90, some 94, some 98, some 102, some 106, some 110, some 114, some 118, some 122], [some 87, some 88, some 89], [], [], [], [some 91, some 92, some 93], [], [], [], [some 95, some 96, some 97], [], [], [], [some 99, some 100, some 101], [], [], [], [some 103, some 104, some 105], [], [], [], [some 107, some 108, some 109], [], [], [], [some 111, some 112, some 113], [], [], [], [some 115, some 116, some 117], [], [], [], [some 119, some 120, some 121], [], [], [], [some 123, some 124, some 125], [], [], [], [some 127, some 131], [some 128, some 129, some 130], [], [], [], [some 132], [some 133, some 137, some 141, some 145, some 149, some 153, some 157, some 161, some 165, some 169], [some 134, some 135, some 136], [], [], [], [some 138, some 139, some 140], [], [], [], [some 142, some 143, some 144], [], [], [], [some 146, some 147, some 148], [], [], [], [some 150, some 151, some 152], [], [], [], [some 154, some 155, some 156], [], [], [], [some 158, some 159, some 160], [], [], [], [some 162, some 163, some 164], [], [], [], [some 166, some 167, some 168], [], [], [], [some 170, some 171, some 172], [], [], [], [some 174, none, some 175, some 176, some 177, some 178, some 179, some 180, some 181, some 182, some 183, some 184, some 185, some 186, none, none, none, none, none, none, some 187, some 188, some 189, some 190, some 191, some 192, none, some 193, some 194, some 195, some 196], [], [], [], [], [], [], [], [], [], [], [], [], [], [], [], [], [], [], [], [], [], [], []]
def zRF (b : Bool) : Nat → Nat → Option Nat := fun a j => (((zRL b)[a]?).bind (fun r => r[j]?)).join
/-- the rows of Hearing, which change places -/
def zrw (b : Bool) (j : Nat) : Nat := if (j == 4) != b then 70 else 71
theorem zm1 : zM 1 = some (yX0_alike, cX0_alike, 3, (some .int), 0, 3, 65) := rfl
theorem za1 : zLA 1 = 99 := by decide +kernel
theorem r0_38 : zMr 0 38 = some (4, 0, 0) := by decide +kernel
theorem zm4 : zM 4 = some (yX0_partnerAlikes, cX0_partnerAlikes, 3, none, 0, 2, 43) := rfl
theorem k75_0 : zok 197 75 0 = true := by decide +kernel
theorem ci_0 : Int32.ofInt (0) = (0 : Int32) := by decide
theorem f0_37 : zF 0 37 = some (0, 1) := by decide +kernel
theorem t0_1 : zcl (zTy 0 1) = 2 := by decide +kernel
theorem rr75_1 (b : Bool) : zRF b 75 1 = some 3 := by cases b <;> rfl
theorem f0_41 : zF 0 41 = some (4, 1) := by decide +kernel
theorem k3_4 : zok 197 3 4 = true := by decide +kernel
theorem t4_1 : zcl (zTy 4 1) = 0 := by decide +kernel
theorem f0_15 : zF 0 15 = some (0, 2) := by decide +kernel
theorem t0_2 : zcl (zTy 0 2) = 2 := by decide +kernel
theorem rr75_2 (b : Bool) : zRF b 75 2 = some 76 := by cases b <;> rfl
theorem n76 : (zK 76).2 = 8 := by decide +kernel
theorem k76_100 : zok 197 76 100 = true := by decide +kernel
theorem r0_47 : zMr 0 47 = some (184, 1, 1) := by decide +kernel
theorem zm184 : zM 184 = some (yJ6_bitCount_0f7a4, cJ6_bitCount_0f7a4, 1, (some .int), 11, 0, 0) := rfl
theorem ci_1 : Int32.ofInt (1) = (1 : Int32) := by decide
theorem zm2 : zM 2 = some (yX0_fewestTuned, cX0_fewestTuned, 1, (some .int), 0, 3, 65) := rfl
theorem za2 : zLA 2 = 99 := by decide +kernel
theorem r0_53 : zMr 0 53 = some (6, 0, 1) := by decide +kernel
theorem zm6 : zM 6 = some (yX0_fewestOfEachTwo, cX0_fewestOfEachTwo, 4, (some .int), 0, 1, 23) := rfl
theorem zm3 : zM 3 = some (yX0_fewestEars, cX0_fewestEars, 2, (some .int), 0, 2, 46) := rfl
theorem za3 : zLA 3 = 99 := by decide +kernel
theorem f0_56 : zF 0 56 = some (4, 0) := by decide +kernel
theorem t4_0 : zcl (zTy 4 0) = 0 := by decide +kernel
theorem f0_27 : zF 0 27 = some (0, 0) := by decide +kernel
theorem t0_0 : zcl (zTy 0 0) = 2 := by decide +kernel
theorem rr75_0 (b : Bool) : zRF b 75 0 = some 23 := by cases b <;> rfl
theorem r0_59 : zMr 0 59 = some (14, 0, 1) := by decide +kernel
theorem zm14 : zM 14 = some (yX1_isString, cX1_isString, 2, (some .boolean), 1, 0, 0) := rfl
theorem k23_1 : zok 197 23 1 = true := by decide +kernel
theorem f0_63 : zF 0 63 = some (4, 2) := by decide +kernel
theorem t4_2 : zcl (zTy 4 2) = 2 := by decide +kernel
theorem rr3_2 (b : Bool) : zRF b 3 2 = some 4 := by cases b <;> rfl
theorem n4 : (zK 4).2 = 8 := by decide +kernel
theorem k4_100 : zok 197 4 100 = true := by decide +kernel
theorem f0_66 : zF 0 66 = some (4, 3) := by decide +kernel
theorem t4_3 : zcl (zTy 4 3) = 2 := by decide +kernel
theorem rr3_3 (b : Bool) : zRF b 3 3 = some 5 := by cases b <;> rfl
theorem n5 : (zK 5).2 = 8 := by decide +kernel
theorem k5_100 : zok 197 5 100 = true := by decide +kernel
theorem za4 : zLA 4 = 99 := by decide +kernel
theorem r0_69 : zMr 0 69 = some (5, 0, 2) := by decide +kernel
theorem zm5 : zM 5 = some (yX0_areAlike, cX0_areAlike, 3, (some .boolean), 0, 1, 21) := rfl
theorem za5 : zLA 5 = 99 := by decide +kernel
theorem f0_73 : zF 0 73 = some (1, 1) := by decide +kernel
theorem t1_1 : zcl (zTy 1 1) = 2 := by decide +kernel
theorem rr23_1 (b : Bool) : zRF b 23 1 = some 19 := by cases b <;> rfl
theorem f0_77 : zF 0 77 = some (7, 1) := by decide +kernel
theorem k19_7 : zok 197 19 7 = true := by decide +kernel
theorem t7_1 : zcl (zTy 7 1) = 2 := by decide +kernel
theorem rr19_1 (b : Bool) : zRF b 19 1 = some 21 := by cases b <;> rfl
theorem n21 : (zK 21).2 = 8 := by decide +kernel
theorem k21_100 : zok 197 21 100 = true := by decide +kernel
theorem r0_82 : zMr 0 82 = some (37, 0, 1) := by decide +kernel
theorem zm37 : zM 37 = some (yX4_endBits, cX4_endBits, 2, (some .int), 4, 0, 0) := rfl
theorem za6 : zLA 6 = 99 := by decide +kernel
theorem r0_85 : zMr 0 85 = some (7, 0, 2) := by decide +kernel
theorem zm7 : zM 7 = some (yX0_hasOneOfEachTwo, cX0_hasOneOfEachTwo, 4, (some .boolean), 0, 0, 0) := rfl
theorem za7 : zLA 7 = 99 := by decide +kernel
theorem ci_m1 : Int32.ofInt (-1) = (-1 : Int32) := by decide
theorem zm8 : zM 8 = some (yX0_mostMilk, cX0_mostMilk, 1, (some .int), 0, 4, 91) := rfl
theorem za8 : zLA 8 = 99 := by decide +kernel
theorem r0_88 : zMr 0 88 = some (11, 0, 0) := by decide +kernel
theorem zm11 : zM 11 = some (yX0_measureHerds, cX0_measureHerds, 4, none, 0, 3, 68) := rfl
theorem f0_24 : zF 0 24 = some (0, 4) := by decide +kernel
theorem t0_4 : zcl (zTy 0 4) = 2 := by decide +kernel
theorem rr75_4 (b : Bool) : zRF b 75 4 = some 78 := by cases b <;> rfl
theorem n78 : (zK 78).2 = 256 := by decide +kernel
theorem k78_100 : zok 197 78 100 = true := by decide +kernel
theorem tn_0 : (0 : Int32).toNatClampNeg = 0 := by decide
theorem vi_0_256 : vp_in (0 : Int32) 256 := by unfold vp_in; decide
theorem zm9 : zM 9 = some (yX0_fieldInHerd, cX0_fieldInHerd, 5, (some .int), 0, 4, 91) := rfl
theorem za9 : zLA 9 = 99 := by decide +kernel
theorem cb_m9 : (Int8.ofInt (-9)).toInt32 = (-9 : Int32) := by decide
theorem r0_91 : zMr 0 91 = some (10, 0, 2) := by decide +kernel
theorem zm10 : zM 10 = some (yX0_bestField, cX0_bestField, 4, (some .int), 0, 1, 23) := rfl
theorem za10 : zLA 10 = 99 := by decide +kernel
theorem r0_94 : zMr 0 94 = some (12, 0, 3) := by decide +kernel
theorem zm12 : zM 12 = some (yX0_milkWith, cX0_milkWith, 4, (some .int), 0, 0, 0) := rfl
theorem za11 : zLA 11 = 99 := by decide +kernel
theorem f0_21 : zF 0 21 = some (0, 3) := by decide +kernel
theorem t0_3 : zcl (zTy 0 3) = 2 := by decide +kernel
theorem rr75_3 (b : Bool) : zRF b 75 3 = some 77 := by cases b <;> rfl
theorem r0_98 : zMr 0 98 = some (16, 0, 1) := by decide +kernel
theorem zm16 : zM 16 = some (yX1_fifthsAt, cX1_fifthsAt, 5, (some .int), 1, 2, 44) := rfl
theorem n77 : (zK 77).2 = 8 := by decide +kernel
theorem k77_100 : zok 197 77 100 = true := by decide +kernel
theorem f0_101 : zF 0 101 = some (4, 8) := by decide +kernel
theorem t4_8 : zcl (zTy 4 8) = 0 := by decide +kernel
theorem r0_9 : zMr 0 9 = some (0, 5, 2) := by decide +kernel
theorem za12 : zLA 12 = 99 := by decide +kernel
theorem f0_104 : zF 0 104 = some (4, 7) := by decide +kernel
theorem t4_7 : zcl (zTy 4 7) = 2 := by decide +kernel
theorem rr3_7 (b : Bool) : zRF b 3 7 = some 8 := by cases b <;> rfl
theorem f0_107 : zF 0 107 = some (4, 9) := by decide +kernel
theorem t4_9 : zcl (zTy 4 9) = 2 := by decide +kernel
theorem rr3_9 (b : Bool) : zRF b 3 9 = some 9 := by cases b <;> rfl
theorem n9 : (zK 9).2 = 6 := by decide +kernel
theorem k9_100 : zok 197 9 100 = true := by decide +kernel
theorem n8 : (zK 8).2 = 4 := by decide +kernel
theorem k8_100 : zok 197 8 100 = true := by decide +kernel
theorem za14 : zLA 14 = 99 := by decide +kernel
theorem f1_15 : zF 1 15 = some (1, 1) := by decide +kernel
theorem f1_19 : zF 1 19 = some (7, 1) := by decide +kernel
theorem f1_25 : zF 1 25 = some (7, 4) := by decide +kernel
theorem t7_4 : zcl (zTy 7 4) = 0 := by decide +kernel
theorem zm15 : zM 15 = some (yX1_soundTo, cX1_soundTo, 3, (some .int), 1, 1, 21) := rfl
theorem za15 : zLA 15 = 99 := by decide +kernel
theorem r1_29 : zMr 1 29 = some (14, 0, 1) := by decide +kernel
theorem f1_33 : zF 1 33 = some (7, 5) := by decide +kernel
theorem t7_5 : zcl (zTy 7 5) = 0 := by decide +kernel
theorem f1_9 : zF 1 9 = some (1, 0) := by decide +kernel
theorem t1_0 : zcl (zTy 1 0) = 2 := by decide +kernel
theorem rr23_0 (b : Bool) : zRF b 23 0 = some 3 := by cases b <;> rfl
theorem f1_36 : zF 1 36 = some (4, 6) := by decide +kernel
theorem t4_6 : zcl (zTy 4 6) = 2 := by decide +kernel
theorem rr3_6 (b : Bool) : zRF b 3 6 = some 7 := by cases b <;> rfl
theorem n7 : (zK 7).2 = 4 := by decide +kernel
theorem k7_100 : zok 197 7 100 = true := by decide +kernel
theorem f1_41 : zF 1 41 = some (7, 6) := by decide +kernel
theorem t7_6 : zcl (zTy 7 6) = 0 := by decide +kernel
theorem r1_44 : zMr 1 44 = some (0, 5, 2) := by decide +kernel
theorem za16 : zLA 16 = 99 := by decide +kernel
theorem f1_50 : zF 1 50 = some (4, 1) := by decide +kernel
theorem r1_53 : zMr 1 53 = some (17, 0, 2) := by decide +kernel
theorem zm17 : zM 17 = some (yX1_isStringAt, cX1_isStringAt, 3, (some .boolean), 1, 1, 22) := rfl
theorem r1_57 : zMr 1 57 = some (0, 7, 1) := by decide +kernel
theorem cb_7 : (Int8.ofInt (7)).toInt32 = (7 : Int32) := by decide
theorem za17 : zLA 17 = 99 := by decide +kernel
theorem r1_61 : zMr 1 61 = some (35, 0, 2) := by decide +kernel
theorem zm35 : zM 35 = some (yX4_isAt, cX4_isAt, 3, (some .boolean), 4, 0, 0) := rfl
theorem zm18 : zM 18 = some (yX1_beastsThatSound, cX1_beastsThatSound, 5, (some .int), 1, 2, 43) := rfl
theorem za18 : zLA 18 = 99 := by decide +kernel
theorem f1_64 : zF 1 64 = some (4, 8) := by decide +kernel
theorem f1_67 : zF 1 67 = some (7, 0) := by decide +kernel
theorem t7_0 : zcl (zTy 7 0) = 2 := by decide +kernel
theorem rr19_0 (b : Bool) : zRF b 19 0 = some 20 := by cases b <;> rfl
theorem n20 : (zK 20).2 = 6 := by decide +kernel
theorem k20_100 : zok 197 20 100 = true := by decide +kernel
theorem f1_70 : zF 1 70 = some (4, 9) := by decide +kernel
theorem r1_73 : zMr 1 73 = some (15, 0, 2) := by decide +kernel
theorem zm20 : zM 20 = some (yX2_takes, cX2_takes, 2, (some .boolean), 2, 0, 0) := rfl
theorem za20 : zLA 20 = 99 := by decide +kernel
theorem f2_35 : zF 2 35 = some (2, 6) := by decide +kernel
theorem k67_2 : zok 197 67 2 = true := by decide +kernel
theorem t2_6 : zcl (zTy 2 6) = 0 := by decide +kernel
theorem cb_6 : (Int8.ofInt (6)).toInt32 = (6 : Int32) := by decide
theorem f2_9 : zF 2 9 = some (2, 2) := by decide +kernel
theorem t2_2 : zcl (zTy 2 2) = 2 := by decide +kernel
theorem rr67_2 (b : Bool) : zRF b 67 2 = some 68 := by cases b <;> rfl
theorem n68 : (zK 68).2 = 6 := by decide +kernel
theorem k68_100 : zok 197 68 100 = true := by decide +kernel
theorem fn2_6 : (zCl[2]?).map (fun r => (r.2.1 6).2.2.2) = some false := by decide +kernel
theorem zm21 : zM 21 = some (yX2_rowsFrom, cX2_rowsFrom, 5, (some .int), 2, 3, 68) := rfl
theorem za21 : zLA 21 = 99 := by decide +kernel
theorem f2_34 : zF 2 34 = some (2, 1) := by decide +kernel
theorem t2_1 : zcl (zTy 2 1) = 2 := by decide +kernel
theorem rr67_1 (b : Bool) : zRF b 67 1 = some 3 := by cases b <;> rfl
theorem f2_39 : zF 2 39 = some (4, 0) := by decide +kernel
theorem f2_18 : zF 2 18 = some (2, 4) := by decide +kernel
theorem t2_4 : zcl (zTy 2 4) = 2 := by decide +kernel
theorem rr67_4 (b : Bool) : zRF b 67 4 = some (zrw b 4) := by cases b <;> rfl
theorem zrw_k (b : Bool) (j : Nat) : zok 197 (zrw b j) 100 = true := by unfold zrw; split <;> decide +kernel
theorem zrw_n (b : Bool) (j : Nat) : (zK (zrw b j)).2 = 8 := by unfold zrw; split <;> decide +kernel
theorem r2_44 : zMr 2 44 = some (22, 0, 2) := by decide +kernel
theorem zm22 : zM 22 = some (yX2_crossAll, cX2_crossAll, 6, none, 2, 2, 43) := rfl
theorem zi_2_48 : zI 2 48 = some (1000003 : Int32) := by decide +kernel
theorem za22 : zLA 22 = 99 := by decide +kernel
theorem f2_21 : zF 2 21 = some (2, 5) := by decide +kernel
theorem t2_5 : zcl (zTy 2 5) = 2 := by decide +kernel
theorem rr67_5 (b : Bool) : zRF b 67 5 = some (zrw b 5) := by cases b <;> rfl
theorem f2_49 : zF 2 49 = some (4, 1) := by decide +kernel
theorem f2_24 : zF 2 24 = some (2, 0) := by decide +kernel
theorem t2_0 : zcl (zTy 2 0) = 2 := by decide +kernel
theorem rr67_0 (b : Bool) : zRF b 67 0 = some 23 := by cases b <;> rfl
theorem r2_52 : zMr 2 52 = some (15, 0, 2) := by decide +kernel
theorem f2_56 : zF 2 56 = some (4, 2) := by decide +kernel
theorem f2_59 : zF 2 59 = some (4, 3) := by decide +kernel
theorem fn2_4 : (zCl[2]?).map (fun r => (r.2.1 4).2.2.2) = some false := by decide +kernel
theorem fn2_5 : (zCl[2]?).map (fun r => (r.2.1 5).2.2.2) = some false := by decide +kernel
theorem zm23 : zM 23 = some (yX2_endsOf, cX2_endsOf, 4, (some .int), 2, 3, 68) := rfl
theorem za23 : zLA 23 = 99 := by decide +kernel
theorem r2_62 : zMr 2 62 = some (24, 0, 3) := by decide +kernel
theorem zm24 : zM 24 = some (yX2_endsBehind, cX2_endsBehind, 6, (some .int), 2, 2, 43) := rfl
theorem za24 : zLA 24 = 99 := by decide +kernel
theorem zm25 : zM 25 = some (yX2_kindsThatCan, cX2_kindsThatCan, 3, (some .int), 2, 4, 91) := rfl
theorem za25 : zLA 25 = 99 := by decide +kernel
theorem f2_66 : zF 2 66 = some (4, 5) := by decide +kernel
theorem t4_5 : zcl (zTy 4 5) = 0 := by decide +kernel
theorem r2_69 : zMr 2 69 = some (23, 0, 1) := by decide +kernel
theorem zm26 : zM 26 = some (yX2_fenceToWatch, cX2_fenceToWatch, 5, (some .int), 2, 4, 91) := rfl
theorem za26 : zLA 26 = 99 := by decide +kernel
theorem f2_15 : zF 2 15 = some (2, 3) := by decide +kernel
theorem t2_3 : zcl (zTy 2 3) = 2 := by decide +kernel
theorem rr67_3 (b : Bool) : zRF b 67 3 = some 69 := by cases b <;> rfl
theorem n69 : (zK 69).2 = 4 := by decide +kernel
theorem k69_100 : zok 197 69 100 = true := by decide +kernel
theorem ci_5 : Int32.ofInt (5) = (5 : Int32) := by decide
theorem r2_73 : zMr 2 73 = some (27, 0, 1) := by decide +kernel
theorem zm27 : zM 27 = some (yX2_greatestCrowd, cX2_greatestCrowd, 6, (some .int), 2, 2, 43) := rfl
theorem za27 : zLA 27 = 99 := by decide +kernel
theorem r2_76 : zMr 2 76 = some (28, 0, 2) := by decide +kernel
theorem zm28 : zM 28 = some (yX2_comesTo, cX2_comesTo, 3, (some .boolean), 2, 1, 21) := rfl
theorem r2_80 : zMr 2 80 = some (0, 5, 2) := by decide +kernel
theorem za28 : zLA 28 = 99 := by decide +kernel
theorem r2_85 : zMr 2 85 = some (37, 0, 1) := by decide +kernel
theorem zm30 : zM 30 = some (yX3_take, cX3_take, 3, none, 3, 3, 69) := rfl
theorem za30 : zLA 30 = 99 := by decide +kernel
theorem f3_10 : zF 3 10 = some (3, 0) := by decide +kernel
theorem t3_0 : zcl (zTy 3 0) = 2 := by decide +kernel
theorem r3_23 : zMr 3 23 = some (56, 0, 1) := by decide +kernel
theorem zm56 : zM 56 = some (yX7_copyFrom, cX7_copyFrom, 2, none, 7, 1, 26) := rfl
theorem f3_19 : zF 3 19 = some (3, 1) := by decide +kernel
theorem t3_1 : zcl (zTy 3 1) = 2 := by decide +kernel
theorem r3_27 : zMr 3 27 = some (41, 0, 1) := by decide +kernel
theorem zm41 : zM 41 = some (yX5_copyFrom, cX5_copyFrom, 3, none, 5, 2, 47) := rfl
theorem f3_30 : zF 3 30 = some (3, 2) := by decide +kernel
theorem t3_2 : zcl (zTy 3 2) = 3 := by decide +kernel
theorem fn3_2 : (zCl[3]?).map (fun r => (r.2.1 2).2.2.2) = some false := by decide +kernel
theorem zm31 : zM 31 = some (yX3_give, cX3_give, 3, none, 3, 3, 69) := rfl
theorem za31 : zLA 31 = 99 := by decide +kernel
theorem zm33 : zM 33 = some (yX4_begin, cX4_begin, 1, none, 4, 0, 0) := rfl
theorem za33 : zLA 33 = 99 := by decide +kernel
theorem ci_2 : Int32.ofInt (2) = (2 : Int32) := by decide
theorem f4_33 : zF 4 33 = some (4, 0) := by decide +kernel
theorem k11_4 : zok 197 11 4 = true := by decide +kernel
theorem fn4_0 : (zCl[4]?).map (fun r => (r.2.1 0).2.2.2) = some false := by decide +kernel
theorem f4_37 : zF 4 37 = some (4, 1) := by decide +kernel
theorem fn4_1 : (zCl[4]?).map (fun r => (r.2.1 1).2.2.2) = some false := by decide +kernel
theorem f4_40 : zF 4 40 = some (4, 5) := by decide +kernel
theorem fn4_5 : (zCl[4]?).map (fun r => (r.2.1 5).2.2.2) = some false := by decide +kernel
theorem f4_43 : zF 4 43 = some (4, 8) := by decide +kernel
theorem fn4_8 : (zCl[4]?).map (fun r => (r.2.1 8).2.2.2) = some false := by decide +kernel
theorem f4_46 : zF 4 46 = some (4, 11) := by decide +kernel
theorem t4_11 : zcl (zTy 4 11) = 0 := by decide +kernel
theorem fn4_11 : (zCl[4]?).map (fun r => (r.2.1 11).2.2.2) = some false := by decide +kernel
theorem zm34 : zM 34 = some (yX4_copyFrom, cX4_copyFrom, 2, none, 4, 1, 26) := rfl
theorem za34 : zLA 34 = 99 := by decide +kernel
theorem f4_9 : zF 4 9 = some (4, 2) := by decide +kernel
theorem rr11_2 (b : Bool) : zRF b 11 2 = some 12 := by cases b <;> rfl
theorem cb_8 : (Int8.ofInt (8)).toInt32 = (8 : Int32) := by decide
theorem r4_49 : zMr 4 49 = some (0, 8, 5) := by decide +kernel
theorem k12_100 : zok 197 12 100 = true := by decide +kernel
theorem tn_8 : (8 : Int32).toNatClampNeg = 8 := by decide
theorem f4_15 : zF 4 15 = some (4, 3) := by decide +kernel
theorem rr11_3 (b : Bool) : zRF b 11 3 = some 13 := by cases b <;> rfl
theorem k13_100 : zok 197 13 100 = true := by decide +kernel
theorem f4_18 : zF 4 18 = some (4, 4) := by decide +kernel
theorem t4_4 : zcl (zTy 4 4) = 2 := by decide +kernel
theorem rr11_4 (b : Bool) : zRF b 11 4 = some 14 := by cases b <;> rfl
theorem rr3_4 (b : Bool) : zRF b 3 4 = some 6 := by cases b <;> rfl
theorem k6_100 : zok 197 6 100 = true := by decide +kernel
theorem k14_100 : zok 197 14 100 = true := by decide +kernel
theorem f4_21 : zF 4 21 = some (4, 6) := by decide +kernel
theorem rr11_6 (b : Bool) : zRF b 11 6 = some 15 := by cases b <;> rfl
theorem ci_4 : Int32.ofInt (4) = (4 : Int32) := by decide
theorem k15_100 : zok 197 15 100 = true := by decide +kernel
theorem tn_4 : (4 : Int32).toNatClampNeg = 4 := by decide
theorem f4_24 : zF 4 24 = some (4, 7) := by decide +kernel
theorem rr11_7 (b : Bool) : zRF b 11 7 = some 16 := by cases b <;> rfl
theorem k16_100 : zok 197 16 100 = true := by decide +kernel
theorem f4_27 : zF 4 27 = some (4, 9) := by decide +kernel
theorem rr11_9 (b : Bool) : zRF b 11 9 = some 17 := by cases b <;> rfl
theorem k17_100 : zok 197 17 100 = true := by decide +kernel
theorem tn_6 : (6 : Int32).toNatClampNeg = 6 := by decide
theorem f4_30 : zF 4 30 = some (4, 10) := by decide +kernel
theorem t4_10 : zcl (zTy 4 10) = 2 := by decide +kernel
theorem rr11_10 (b : Bool) : zRF b 11 10 = some 18 := by cases b <;> rfl
theorem rr3_10 (b : Bool) : zRF b 3 10 = some 10 := by cases b <;> rfl
theorem k10_100 : zok 197 10 100 = true := by decide +kernel
theorem k18_100 : zok 197 18 100 = true := by decide +kernel
theorem za35 : zLA 35 = 99 := by decide +kernel
theorem zm36 : zM 36 = some (yX4_across, cX4_across, 3, (some .int), 4, 0, 0) := rfl
theorem za36 : zLA 36 = 99 := by decide +kernel
theorem za37 : zLA 37 = 99 := by decide +kernel
theorem zm39 : zM 39 = some (yX5_note, cX5_note, 2, none, 5, 2, 47) := rfl
theorem za39 : zLA 39 = 99 := by decide +kernel
theorem f5_18 : zF 5 18 = some (5, 1) := by decide +kernel
theorem k24_5 : zok 197 24 5 = true := by decide +kernel
theorem t5_1 : zcl (zTy 5 1) = 0 := by decide +kernel
theorem cb_10 : (Int8.ofInt (10)).toInt32 = (10 : Int32) := by decide
theorem fn5_1 : (zCl[5]?).map (fun r => (r.2.1 1).2.2.2) = some false := by decide +kernel
theorem f5_11 : zF 5 11 = some (5, 0) := by decide +kernel
theorem t5_0 : zcl (zTy 5 0) = 2 := by decide +kernel
theorem rr24_0 (b : Bool) : zRF b 24 0 = some 25 := by cases b <;> rfl
theorem n25 : (zK 25).2 = 10 := by decide +kernel
theorem k25_103 : zok 197 25 103 = true := by decide +kernel
theorem r5_22 : zMr 5 22 = some (56, 0, 1) := by decide +kernel
theorem f5_26 : zF 5 26 = some (5, 2) := by decide +kernel
theorem t5_2 : zcl (zTy 5 2) = 0 := by decide +kernel
theorem r5_29 : zMr 5 29 = some (0, 6, 2) := by decide +kernel
theorem fn5_2 : (zCl[5]?).map (fun r => (r.2.1 2).2.2.2) = some false := by decide +kernel
theorem zm40 : zM 40 = some (yX5_restore, cX5_restore, 2, none, 5, 2, 47) := rfl
theorem za40 : zLA 40 = 99 := by decide +kernel
theorem r5_35 : zMr 5 35 = some (0, 5, 2) := by decide +kernel
theorem cb_9 : (Int8.ofInt (9)).toInt32 = (9 : Int32) := by decide
theorem za41 : zLA 41 = 99 := by decide +kernel
theorem zm43 : zM 43 = some (yX6_fewestHeard, cX6_fewestHeard, 4, (some .int), 6, 4, 92) := rfl
theorem za43 : zLA 43 = 99 := by decide +kernel
theorem r6_29 : zMr 6 29 = some (47, 0, 2) := by decide +kernel
theorem zm47 : zM 47 = some (yX6_measure, cX6_measure, 8, none, 6, 3, 65) := rfl
theorem k72_6 : zok 197 72 6 = true := by decide +kernel
theorem f6_9 : zF 6 9 = some (6, 2) := by decide +kernel
theorem t6_2 : zcl (zTy 6 2) = 2 := by decide +kernel
theorem rr72_2 (b : Bool) : zRF b 72 2 = some 73 := by cases b <;> rfl
theorem n73 : (zK 73).2 = 8 := by decide +kernel
theorem k73_100 : zok 197 73 100 = true := by decide +kernel
theorem zi_6_33 : zI 6 33 = some (1000000 : Int32) := by decide +kernel
theorem cb_100 : (Int8.ofInt (100)).toInt32 = (100 : Int32) := by decide
theorem zm44 : zM 44 = some (yX6_fewestCrossings, cX6_fewestCrossings, 4, (some .int), 6, 4, 92) := rfl
theorem za44 : zLA 44 = 99 := by decide +kernel
theorem zm45 : zM 45 = some (yX6_firstFence, cX6_firstFence, 5, (some .int), 6, 4, 92) := rfl
theorem za45 : zLA 45 = 99 := by decide +kernel
theorem f6_28 : zF 6 28 = some (6, 1) := by decide +kernel
theorem t6_1 : zcl (zTy 6 1) = 2 := by decide +kernel
theorem rr72_1 (b : Bool) : zRF b 72 1 = some 3 := by cases b <;> rfl
theorem f6_34 : zF 6 34 = some (4, 1) := by decide +kernel
theorem r6_40 : zMr 6 40 = some (35, 0, 2) := by decide +kernel
theorem r6_44 : zMr 6 44 = some (36, 0, 2) := by decide +kernel
theorem r6_48 : zMr 6 48 = some (46, 0, 2) := by decide +kernel
theorem zm46 : zM 46 = some (yX6_costOf, cX6_costOf, 3, (some .int), 6, 2, 43) := rfl
theorem za46 : zLA 46 = 99 := by decide +kernel
theorem f6_18 : zF 6 18 = some (6, 0) := by decide +kernel
theorem t6_0 : zcl (zTy 6 0) = 2 := by decide +kernel
theorem rr72_0 (b : Bool) : zRF b 72 0 = some 23 := by cases b <;> rfl
theorem r6_51 : zMr 6 51 = some (15, 0, 2) := by decide +kernel
theorem cb_101 : (Int8.ofInt (101)).toInt32 = (101 : Int32) := by decide
theorem za47 : zLA 47 = 99 := by decide +kernel
theorem f6_54 : zF 6 54 = some (4, 0) := by decide +kernel
theorem f6_57 : zF 6 57 = some (4, 2) := by decide +kernel
theorem f6_60 : zF 6 60 = some (4, 3) := by decide +kernel
theorem r6_63 : zMr 6 63 = some (0, 6, 2) := by decide +kernel
theorem zm48 : zM 48 = some (yX6_frostParts, cX6_frostParts, 4, (some .int), 6, 2, 43) := rfl
theorem za48 : zLA 48 = 99 := by decide +kernel
theorem f6_68 : zF 6 68 = some (6, 5) := by decide +kernel
theorem t6_5 : zcl (zTy 6 5) = 0 := by decide +kernel
theorem fn6_5 : (zCl[6]?).map (fun r => (r.2.1 5).2.2.2) = some false := by decide +kernel
theorem f6_71 : zF 6 71 = some (6, 4) := by decide +kernel
theorem t6_4 : zcl (zTy 6 4) = 0 := by decide +kernel
theorem fn6_4 : (zCl[6]?).map (fun r => (r.2.1 4).2.2.2) = some false := by decide +kernel
theorem f6_74 : zF 6 74 = some (1, 1) := by decide +kernel
theorem f6_78 : zF 6 78 = some (7, 1) := by decide +kernel
theorem f6_15 : zF 6 15 = some (6, 3) := by decide +kernel
theorem t6_3 : zcl (zTy 6 3) = 2 := by decide +kernel
theorem rr72_3 (b : Bool) : zRF b 72 3 = some 74 := by cases b <;> rfl
theorem n74 : (zK 74).2 = 8 := by decide +kernel
theorem k74_100 : zok 197 74 100 = true := by decide +kernel
theorem r6_83 : zMr 6 83 = some (52, 1, 2) := by decide +kernel
theorem zm52 : zM 52 = some (yX6_power, cX6_power, 4, (some .int), 6, 0, 0) := rfl
theorem zm49 : zM 49 = some (yX6_frostUnheard, cX6_frostUnheard, 8, (some .int), 6, 2, 47) := rfl
theorem za49 : zLA 49 = 99 := by decide +kernel
theorem r6_86 : zMr 6 86 = some (184, 1, 1) := by decide +kernel
theorem r6_92 : zMr 6 92 = some (50, 0, 1) := by decide +kernel
theorem zm50 : zM 50 = some (yX6_snappedFences, cX6_snappedFences, 4, (some .int), 6, 0, 0) := rfl
theorem r6_95 : zMr 6 95 = some (51, 0, 3) := by decide +kernel
theorem zm51 : zM 51 = some (yX6_reaches, cX6_reaches, 7, (some .boolean), 6, 1, 21) := rfl
theorem za50 : zLA 50 = 99 := by decide +kernel
theorem za51 : zLA 51 = 99 := by decide +kernel
theorem r6_99 : zMr 6 99 = some (37, 0, 1) := by decide +kernel
theorem za52 : zLA 52 = 99 := by decide +kernel
theorem zm53 : zM 53 = some (yX6_commonDivisor, cX6_commonDivisor, 6, (some .int), 6, 0, 0) := rfl
theorem za53 : zLA 53 = 99 := by decide +kernel
theorem zm55 : zM 55 = some (yX7_begin, cX7_begin, 2, none, 7, 1, 26) := rfl
theorem za55 : zLA 55 = 99 := by decide +kernel
theorem f7_21 : zF 7 21 = some (4, 10) := by decide +kernel
theorem f7_9 : zF 7 9 = some (7, 0) := by decide +kernel
theorem r7_24 : zMr 7 24 = some (0, 8, 5) := by decide +kernel
theorem f7_30 : zF 7 30 = some (4, 4) := by decide +kernel
theorem f7_15 : zF 7 15 = some (7, 1) := by decide +kernel
theorem f7_31 : zF 7 31 = some (7, 3) := by decide +kernel
theorem t7_3 : zcl (zTy 7 3) = 0 := by decide +kernel
theorem fn7_3 : (zCl[7]?).map (fun r => (r.2.1 3).2.2.2) = some false := by decide +kernel
theorem f7_35 : zF 7 35 = some (7, 4) := by decide +kernel
theorem fn7_4 : (zCl[7]?).map (fun r => (r.2.1 4).2.2.2) = some false := by decide +kernel
theorem f7_38 : zF 7 38 = some (7, 5) := by decide +kernel
theorem fn7_5 : (zCl[7]?).map (fun r => (r.2.1 5).2.2.2) = some false := by decide +kernel
theorem f7_41 : zF 7 41 = some (4, 11) := by decide +kernel
theorem f7_44 : zF 7 44 = some (7, 6) := by decide +kernel
theorem fn7_6 : (zCl[7]?).map (fun r => (r.2.1 6).2.2.2) = some false := by decide +kernel
theorem za56 : zLA 56 = 99 := by decide +kernel
theorem f7_18 : zF 7 18 = some (7, 2) := by decide +kernel
theorem t7_2 : zcl (zTy 7 2) = 2 := by decide +kernel
theorem cb_12 : (Int8.ofInt (12)).toInt32 = (12 : Int32) := by decide
theorem tn_12 : (12 : Int32).toNatClampNeg = 12 := by decide
theorem zm57 : zM 57 = some (yX7_sing, cX7_sing, 2, none, 7, 1, 26) := rfl
theorem za57 : zLA 57 = 99 := by decide +kernel
theorem rr19_2 (b : Bool) : zRF b 19 2 = some 22 := by cases b <;> rfl
theorem cb_11 : (Int8.ofInt (11)).toInt32 = (11 : Int32) := by decide
theorem k22_100 : zok 197 22 100 = true := by decide +kernel
theorem tn_1 : (1 : Int32).toNatClampNeg = 1 := by decide
theorem tn_11 : (11 : Int32).toNatClampNeg = 11 := by decide
theorem n22 : (zK 22).2 = 12 := by decide +kernel
theorem vi_0_12 : vp_in (0 : Int32) 12 := by unfold vp_in; decide
theorem r7_45 : zMr 7 45 = some (0, 6, 2) := by decide +kernel
theorem zm59 : zM 59 = some (yX8_takes, cX8_takes, 2, (some .boolean), 8, 0, 0) := rfl
theorem za59 : zLA 59 = 99 := by decide +kernel
theorem f8_15 : zF 8 15 = some (8, 1) := by decide +kernel
theorem k1_8 : zok 197 1 8 = true := by decide +kernel
theorem t8_1 : zcl (zTy 8 1) = 0 := by decide +kernel
theorem cs_150 : (Int16.ofInt (150)).toInt32 = (150 : Int32) := by decide
theorem f8_9 : zF 8 9 = some (8, 0) := by decide +kernel
theorem t8_0 : zcl (zTy 8 0) = 2 := by decide +kernel
theorem rr1_0 (b : Bool) : zRF b 1 0 = some 2 := by cases b <;> rfl
theorem n2 : (zK 2).2 = 150 := by decide +kernel
theorem k2_100 : zok 197 2 100 = true := by decide +kernel
theorem fn8_1 : (zCl[8]?).map (fun r => (r.2.1 1).2.2.2) = some false := by decide +kernel
theorem zm60 : zM 60 = some (yX8_tell, cX8_tell, 4, (some .int), 8, 5, 106) := rfl
theorem za60 : zLA 60 = 99 := by decide +kernel
theorem r8_19 : zMr 8 19 = some (33, 0, 0) := by decide +kernel
theorem f8_24 : zF 8 24 = some (8, 2) := by decide +kernel
theorem t8_2 : zcl (zTy 8 2) = 0 := by decide +kernel
theorem fn8_2 : (zCl[8]?).map (fun r => (r.2.1 2).2.2.2) = some false := by decide +kernel
theorem f8_27 : zF 8 27 = some (8, 6) := by decide +kernel
theorem t8_6 : zcl (zTy 8 6) = 3 := by decide +kernel
theorem fn8_6 : (zCl[8]?).map (fun r => (r.2.1 6).2.2.2) = some false := by decide +kernel
theorem r8_31 : zMr 8 31 = some (68, 0, 0) := by decide +kernel
theorem zm68 : zM 68 = some (yX8_step, cX8_step, 1, none, 8, 2, 42) := rfl
theorem f8_34 : zF 8 34 = some (8, 3) := by decide +kernel
theorem t8_3 : zcl (zTy 8 3) = 0 := by decide +kernel
theorem f8_37 : zF 8 37 = some (8, 5) := by decide +kernel
theorem t8_5 : zcl (zTy 8 5) = 0 := by decide +kernel
theorem sw_60_52 (x : Int32) : zTg 52 (Op.lookupswitch.offset (#[(98, 124), (102, 73), (107, 99), (110, 52), (119, 150)] : Array (Int × Int)).toList 174 x.toInt) = some (zcs x 226 [((98 : Int32), 176), ((102 : Int32), 125), ((107 : Int32), 151), ((110 : Int32), 104), ((119 : Int32), 202)]) := by
  by_cases e0 : x = 98
  · subst e0; decide +kernel
  by_cases e1 : x = 102
  · subst e1; decide +kernel
  by_cases e2 : x = 107
  · subst e2; decide +kernel
  by_cases e3 : x = 110
  · subst e3; decide +kernel
  by_cases e4 : x = 119
  · subst e4; decide +kernel
  have hz : zcs x 226 [((98 : Int32), 176), ((102 : Int32), 125), ((107 : Int32), 151), ((110 : Int32), 104), ((119 : Int32), 202)] = 226 := by simp [zcs, e0, e1, e2, e3, e4]
  rw [hz]
  have g0 : x.toInt ≠ 98 := fun e => e0 (Int32.toInt_inj.mp (e.trans (by decide)))
  have g1 : x.toInt ≠ 102 := fun e => e1 (Int32.toInt_inj.mp (e.trans (by decide)))
  have g2 : x.toInt ≠ 107 := fun e => e2 (Int32.toInt_inj.mp (e.trans (by decide)))
  have g3 : x.toInt ≠ 110 := fun e => e3 (Int32.toInt_inj.mp (e.trans (by decide)))
  have g4 : x.toInt ≠ 119 := fun e => e4 (Int32.toInt_inj.mp (e.trans (by decide)))
  have hn : Op.lookupswitch.offset (#[(98, 124), (102, 73), (107, 99), (110, 52), (119, 150)] : Array (Int × Int)).toList 174 x.toInt = 174 := by
    simp [Op.lookupswitch.offset, Ne.symm g0, Ne.symm g1, Ne.symm g2, Ne.symm g3, Ne.symm g4]
  rw [hn]
  decide
theorem r8_65 : zMr 8 65 = some (67, 0, 0) := by decide +kernel
theorem zm67 : zM 67 = some (yX8_stops, cX8_stops, 1, (some .boolean), 8, 3, 62) := rfl
theorem r8_62 : zMr 8 62 = some (65, 0, 1) := by decide +kernel
theorem zm65 : zM 65 = some (yX8_tellsWet, cX8_tellsWet, 2, (some .boolean), 8, 4, 84) := rfl
theorem r8_40 : zMr 8 40 = some (61, 0, 1) := by decide +kernel
theorem zm61 : zM 61 = some (yX8_tellsFields, cX8_tellsFields, 2, (some .boolean), 8, 4, 84) := rfl
theorem f8_50 : zF 8 50 = some (4, 5) := by decide +kernel
theorem r8_53 : zMr 8 53 = some (63, 0, 1) := by decide +kernel
theorem zm63 : zM 63 = some (yX8_tellsKind, cX8_tellsKind, 3, (some .boolean), 8, 4, 84) := rfl
theorem f8_44 : zF 8 44 = some (4, 1) := by decide +kernel
theorem r8_47 : zMr 8 47 = some (62, 0, 1) := by decide +kernel
theorem zm62 : zM 62 = some (yX8_tellsFence, cX8_tellsFence, 3, (some .boolean), 8, 4, 84) := rfl
theorem f8_56 : zF 8 56 = some (4, 8) := by decide +kernel
theorem r8_59 : zMr 8 59 = some (64, 0, 1) := by decide +kernel
theorem zm64 : zM 64 = some (yX8_tellsBeast, cX8_tellsBeast, 3, (some .boolean), 8, 4, 84) := rfl
theorem cb_m10 : (Int8.ofInt (-10)).toInt32 = (-10 : Int32) := by decide
theorem f8_69 : zF 8 69 = some (8, 4) := by decide +kernel
theorem t8_4 : zcl (zTy 8 4) = 0 := by decide +kernel
theorem za61 : zLA 61 = 99 := by decide +kernel
theorem r8_72 : zMr 8 72 = some (66, 0, 2) := by decide +kernel
theorem zm66 : zM 66 = some (yX8_number, cX8_number, 3, (some .boolean), 8, 3, 62) := rfl
theorem f8_76 : zF 8 76 = some (4, 0) := by decide +kernel
theorem za62 : zLA 62 = 99 := by decide +kernel
theorem f8_79 : zF 8 79 = some (4, 2) := by decide +kernel
theorem n12 : (zK 12).2 = 8 := by decide +kernel
theorem f8_82 : zF 8 82 = some (4, 3) := by decide +kernel
theorem n13 : (zK 13).2 = 8 := by decide +kernel
theorem cb_40 : (Int8.ofInt (40)).toInt32 = (40 : Int32) := by decide
theorem f8_85 : zF 8 85 = some (4, 4) := by decide +kernel
theorem n14 : (zK 14).2 = 8 := by decide +kernel
theorem za63 : zLA 63 = 99 := by decide +kernel
theorem f8_88 : zF 8 88 = some (4, 6) := by decide +kernel
theorem ci_3 : Int32.ofInt (3) = (3 : Int32) := by decide
theorem n15 : (zK 15).2 = 4 := by decide +kernel
theorem f8_91 : zF 8 91 = some (4, 7) := by decide +kernel
theorem n16 : (zK 16).2 = 4 := by decide +kernel
theorem za64 : zLA 64 = 99 := by decide +kernel
theorem f8_94 : zF 8 94 = some (4, 9) := by decide +kernel
theorem n17 : (zK 17).2 = 6 := by decide +kernel
theorem f8_97 : zF 8 97 = some (4, 10) := by decide +kernel
theorem n18 : (zK 18).2 = 6 := by decide +kernel
theorem za65 : zLA 65 = 99 := by decide +kernel
theorem f8_100 : zF 8 100 = some (4, 11) := by decide +kernel
theorem za66 : zLA 66 = 99 := by decide +kernel
theorem za67 : zLA 67 = 99 := by decide +kernel
theorem za68 : zLA 68 = 99 := by decide +kernel
theorem cb_32 : (Int8.ofInt (32)).toInt32 = (32 : Int32) := by decide
theorem fn8_4 : (zCl[8]?).map (fun r => (r.2.1 4).2.2.2) = some false := by decide +kernel
theorem fn8_3 : (zCl[8]?).map (fun r => (r.2.1 3).2.2.2) = some false := by decide +kernel
theorem r8_103 : zMr 8 103 = some (71, 1, 1) := by decide +kernel
theorem zm71 : zM 71 = some (yX8_isLetter, cX8_isLetter, 1, (some .boolean), 8, 0, 0) := rfl
theorem r8_107 : zMr 8 107 = some (69, 0, 0) := by decide +kernel
theorem zm69 : zM 69 = some (yX8_stepLetters, cX8_stepLetters, 1, none, 8, 1, 20) := rfl
theorem r8_110 : zMr 8 110 = some (72, 1, 1) := by decide +kernel
theorem zm72 : zM 72 = some (yX8_isDigit, cX8_isDigit, 1, (some .boolean), 8, 0, 0) := rfl
theorem r8_113 : zMr 8 113 = some (70, 0, 0) := by decide +kernel
theorem zm70 : zM 70 = some (yX8_stepNumber, cX8_stepNumber, 2, none, 8, 1, 21) := rfl
theorem cb_59 : (Int8.ofInt (59)).toInt32 = (59 : Int32) := by decide
theorem za69 : zLA 69 = 99 := by decide +kernel
theorem fn8_5 : (zCl[8]?).map (fun r => (r.2.1 5).2.2.2) = some false := by decide +kernel
theorem za70 : zLA 70 = 99 := by decide +kernel
theorem cb_48 : (Int8.ofInt (48)).toInt32 = (48 : Int32) := by decide
theorem r8_116 : zMr 8 116 = some (0, 6, 2) := by decide +kernel
theorem cb_99 : (Int8.ofInt (99)).toInt32 = (99 : Int32) := by decide
theorem za71 : zLA 71 = 99 := by decide +kernel
theorem cb_97 : (Int8.ofInt (97)).toInt32 = (97 : Int32) := by decide
theorem cb_122 : (Int8.ofInt (122)).toInt32 = (122 : Int32) := by decide
theorem za72 : zLA 72 = 99 := by decide +kernel
theorem cb_57 : (Int8.ofInt (57)).toInt32 = (57 : Int32) := by decide
theorem zm74 : zM 74 = some (yX9_type, cX9_type, 2, (some .int), 9, 1, 21) := rfl
theorem za74 : zLA 74 = 99 := by decide +kernel
theorem cs_255 : (Int16.ofInt (255)).toInt32 = (255 : Int32) := by decide
theorem f9_10 : zF 9 10 = some (9, 0) := by decide +kernel
theorem k0_9 : zok 197 0 9 = true := by decide +kernel
theorem t9_0 : zcl (zTy 9 0) = 2 := by decide +kernel
theorem rr0_0 (b : Bool) : zRF b 0 0 = some 1 := by cases b <;> rfl
theorem r9_85 : zMr 9 85 = some (59, 0, 1) := by decide +kernel
theorem f9_89 : zF 9 89 = some (8, 1) := by decide +kernel
theorem cb_m3 : (Int8.ofInt (-3)).toInt32 = (-3 : Int32) := by decide
theorem zm75 : zM 75 = some (yX9_clear, cX9_clear, 2, (some .int), 9, 0, 0) := rfl
theorem za75 : zLA 75 = 99 := by decide +kernel
theorem zm76 : zM 76 = some (yX9_downs, cX9_downs, 2, (some .int), 9, 6, 129) := rfl
theorem za76 : zLA 76 = 99 := by decide +kernel
theorem f9_23 : zF 9 23 = some (9, 2) := by decide +kernel
theorem t9_2 : zcl (zTy 9 2) = 2 := by decide +kernel
theorem rr0_2 (b : Bool) : zRF b 0 2 = some 11 := by cases b <;> rfl
theorem r9_93 : zMr 9 93 = some (60, 0, 1) := by decide +kernel
theorem f9_19 : zF 9 19 = some (9, 1) := by decide +kernel
theorem t9_1 : zcl (zTy 9 1) = 2 := by decide +kernel
theorem rr0_1 (b : Bool) : zRF b 0 1 = some 3 := by cases b <;> rfl
theorem r9_97 : zMr 9 97 = some (34, 0, 1) := by decide +kernel
theorem r9_82 : zMr 9 82 = some (105, 0, 0) := by decide +kernel
theorem zm105 : zM 105 = some (yX9_beginAnew, cX9_beginAnew, 2, none, 9, 2, 47) := rfl
theorem zm77 : zM 77 = some (yX9_fence, cX9_fence, 3, (some .int), 9, 1, 21) := rfl
theorem za77 : zLA 77 = 99 := by decide +kernel
theorem r9_101 : zMr 9 101 = some (107, 0, 1) := by decide +kernel
theorem zm107 : zM 107 = some (yX9_isFence, cX9_isFence, 2, (some .boolean), 9, 0, 0) := rfl
theorem sw_77_11 (x : Int32) : zsw 11 87 0 4 #[33, 43, 53, 63, 75] x = some (zcs x 98 [((0 : Int32), 44), ((1 : Int32), 54), ((2 : Int32), 64), ((3 : Int32), 74), ((4 : Int32), 86)]) := by
  by_cases e0 : x = 0
  · subst e0; decide +kernel
  by_cases e1 : x = 1
  · subst e1; decide +kernel
  by_cases e2 : x = 2
  · subst e2; decide +kernel
  by_cases e3 : x = 3
  · subst e3; decide +kernel
  by_cases e4 : x = 4
  · subst e4; decide +kernel
  have hz : zcs x 98 [((0 : Int32), 44), ((1 : Int32), 54), ((2 : Int32), 64), ((3 : Int32), 74), ((4 : Int32), 86)] = 98 := by simp [zcs, e0, e1, e2, e3, e4]
  rw [hz]
  have g0 : x.toInt ≠ 0 := fun e => e0 (Int32.toInt_inj.mp (e.trans (by decide)))
  have g1 : x.toInt ≠ 1 := fun e => e1 (Int32.toInt_inj.mp (e.trans (by decide)))
  have g2 : x.toInt ≠ 2 := fun e => e2 (Int32.toInt_inj.mp (e.trans (by decide)))
  have g3 : x.toInt ≠ 3 := fun e => e3 (Int32.toInt_inj.mp (e.trans (by decide)))
  have g4 : x.toInt ≠ 4 := fun e => e4 (Int32.toInt_inj.mp (e.trans (by decide)))
  unfold zsw
  rw [if_pos (by omega)]
  decide
theorem f9_29 : zF 9 29 = some (9, 3) := by decide +kernel
theorem t9_3 : zcl (zTy 9 3) = 2 := by decide +kernel
theorem rr0_3 (b : Bool) : zRF b 0 3 = some 19 := by cases b <;> rfl
theorem f9_117 : zF 9 117 = some (7, 5) := by decide +kernel
theorem f9_114 : zF 9 114 = some (7, 4) := by decide +kernel
theorem f9_111 : zF 9 111 = some (7, 1) := by decide +kernel
theorem f9_108 : zF 9 108 = some (4, 3) := by decide +kernel
theorem f9_104 : zF 9 104 = some (4, 2) := by decide +kernel
theorem zm78 : zM 78 = some (yX9_kind, cX9_kind, 3, (some .int), 9, 1, 21) := rfl
theorem za78 : zLA 78 = 99 := by decide +kernel
theorem r9_120 : zMr 9 120 = some (108, 0, 1) := by decide +kernel
theorem zm108 : zM 108 = some (yX9_isKind, cX9_isKind, 2, (some .boolean), 9, 0, 0) := rfl
theorem zi_9_123 : zI 9 123 = some (-1000000 : Int32) := by decide +kernel
theorem sw_78_12 (x : Int32) : zTg 12 (Op.lookupswitch.offset (#[(0, 28), (1, 38)] : Array (Int × Int)).toList 48 x.toInt) = some (zcs x 60 [((0 : Int32), 40), ((1 : Int32), 50)]) := by
  by_cases e0 : x = 0
  · subst e0; decide +kernel
  by_cases e1 : x = 1
  · subst e1; decide +kernel
  have hz : zcs x 60 [((0 : Int32), 40), ((1 : Int32), 50)] = 60 := by simp [zcs, e0, e1]
  rw [hz]
  have g0 : x.toInt ≠ 0 := fun e => e0 (Int32.toInt_inj.mp (e.trans (by decide)))
  have g1 : x.toInt ≠ 1 := fun e => e1 (Int32.toInt_inj.mp (e.trans (by decide)))
  have hn : Op.lookupswitch.offset (#[(0, 28), (1, 38)] : Array (Int × Int)).toList 48 x.toInt = 48 := by
    simp [Op.lookupswitch.offset, Ne.symm g0, Ne.symm g1]
  rw [hn]
  decide
theorem f9_127 : zF 9 127 = some (4, 7) := by decide +kernel
theorem f9_124 : zF 9 124 = some (4, 6) := by decide +kernel
theorem zm79 : zM 79 = some (yX9_beast, cX9_beast, 3, (some .int), 9, 1, 21) := rfl
theorem za79 : zLA 79 = 99 := by decide +kernel
theorem r9_130 : zMr 9 130 = some (109, 0, 1) := by decide +kernel
theorem zm109 : zM 109 = some (yX9_isBeast, cX9_isBeast, 2, (some .boolean), 9, 0, 0) := rfl
theorem sw_79_11 (x : Int32) : zTg 11 (Op.lookupswitch.offset (#[(0, 25), (1, 35)] : Array (Int × Int)).toList 45 x.toInt) = some (zcs x 56 [((0 : Int32), 36), ((1 : Int32), 46)]) := by
  by_cases e0 : x = 0
  · subst e0; decide +kernel
  by_cases e1 : x = 1
  · subst e1; decide +kernel
  have hz : zcs x 56 [((0 : Int32), 36), ((1 : Int32), 46)] = 56 := by simp [zcs, e0, e1]
  rw [hz]
  have g0 : x.toInt ≠ 0 := fun e => e0 (Int32.toInt_inj.mp (e.trans (by decide)))
  have g1 : x.toInt ≠ 1 := fun e => e1 (Int32.toInt_inj.mp (e.trans (by decide)))
  have hn : Op.lookupswitch.offset (#[(0, 25), (1, 35)] : Array (Int × Int)).toList 45 x.toInt = 45 := by
    simp [Op.lookupswitch.offset, Ne.symm g0, Ne.symm g1]
  rw [hn]
  decide
theorem f9_136 : zF 9 136 = some (7, 0) := by decide +kernel
theorem f9_133 : zF 9 133 = some (4, 9) := by decide +kernel
theorem zm80 : zM 80 = some (yX9_sound, cX9_sound, 3, (some .int), 9, 2, 43) := rfl
theorem za80 : zLA 80 = 99 := by decide +kernel
theorem f9_38 : zF 9 38 = some (9, 4) := by decide +kernel
theorem t9_4 : zcl (zTy 9 4) = 2 := by decide +kernel
theorem rr0_4 (b : Bool) : zRF b 0 4 = some 23 := by cases b <;> rfl
theorem r9_139 : zMr 9 139 = some (15, 0, 2) := by decide +kernel
theorem zm81 : zM 81 = some (yX9_goes, cX9_goes, 5, (some .int), 9, 3, 68) := rfl
theorem za81 : zLA 81 = 99 := by decide +kernel
theorem r9_143 : zMr 9 143 = some (35, 0, 2) := by decide +kernel
theorem cb_m2 : (Int8.ofInt (-2)).toInt32 = (-2 : Int32) := by decide
theorem f9_45 : zF 9 45 = some (9, 5) := by decide +kernel
theorem t9_5 : zcl (zTy 9 5) = 2 := by decide +kernel
theorem rr0_5 (b : Bool) : zRF b 0 5 = some 24 := by cases b <;> rfl
theorem r9_147 : zMr 9 147 = some (39, 0, 1) := by decide +kernel
theorem r9_151 : zMr 9 151 = some (36, 0, 2) := by decide +kernel
theorem r9_154 : zMr 9 154 = some (57, 0, 1) := by decide +kernel
theorem zm82 : zM 82 = some (yX9_cuts, cX9_cuts, 3, (some .int), 9, 3, 68) := rfl
theorem za82 : zLA 82 = 99 := by decide +kernel
theorem r9_158 : zMr 9 158 = some (111, 1, 1) := by decide +kernel
theorem zm111 : zM 111 = some (yX9_isFlag, cX9_isFlag, 1, (some .boolean), 9, 0, 0) := rfl
theorem r9_161 : zMr 9 161 = some (184, 1, 1) := by decide +kernel
theorem zm83 : zM 83 = some (yX9_tunes, cX9_tunes, 4, (some .int), 9, 3, 68) := rfl
theorem za83 : zLA 83 = 99 := by decide +kernel
theorem zm84 : zM 84 = some (yX9_lays, cX9_lays, 3, (some .int), 9, 3, 68) := rfl
theorem za84 : zLA 84 = 99 := by decide +kernel
theorem f9_167 : zF 9 167 = some (4, 1) := by decide +kernel
theorem zm85 : zM 85 = some (yX9_rains, cX9_rains, 3, (some .int), 9, 3, 68) := rfl
theorem za85 : zLA 85 = 99 := by decide +kernel
theorem f9_170 : zF 9 170 = some (7, 6) := by decide +kernel
theorem zm86 : zM 86 = some (yX9_undo, cX9_undo, 1, (some .int), 9, 3, 68) := rfl
theorem za86 : zLA 86 = 99 := by decide +kernel
theorem f9_173 : zF 9 173 = some (5, 2) := by decide +kernel
theorem r9_176 : zMr 9 176 = some (40, 0, 1) := by decide +kernel
theorem zm87 : zM 87 = some (yX9_now, cX9_now, 2, (some .int), 9, 4, 87) := rfl
theorem za87 : zLA 87 = 99 := by decide +kernel
theorem sw_87_1 (x : Int32) : zsw 1 99 0 6 #[43, 51, 59, 67, 75, 83, 91] x = some (zcs x 100 [((0 : Int32), 44), ((1 : Int32), 52), ((2 : Int32), 60), ((3 : Int32), 68), ((4 : Int32), 76), ((5 : Int32), 84), ((6 : Int32), 92)]) := by
  by_cases e0 : x = 0
  · subst e0; decide +kernel
  by_cases e1 : x = 1
  · subst e1; decide +kernel
  by_cases e2 : x = 2
  · subst e2; decide +kernel
  by_cases e3 : x = 3
  · subst e3; decide +kernel
  by_cases e4 : x = 4
  · subst e4; decide +kernel
  by_cases e5 : x = 5
  · subst e5; decide +kernel
  by_cases e6 : x = 6
  · subst e6; decide +kernel
  have hz : zcs x 100 [((0 : Int32), 44), ((1 : Int32), 52), ((2 : Int32), 60), ((3 : Int32), 68), ((4 : Int32), 76), ((5 : Int32), 84), ((6 : Int32), 92)] = 100 := by simp [zcs, e0, e1, e2, e3, e4, e5, e6]
  rw [hz]
  have g0 : x.toInt ≠ 0 := fun e => e0 (Int32.toInt_inj.mp (e.trans (by decide)))
  have g1 : x.toInt ≠ 1 := fun e => e1 (Int32.toInt_inj.mp (e.trans (by decide)))
  have g2 : x.toInt ≠ 2 := fun e => e2 (Int32.toInt_inj.mp (e.trans (by decide)))
  have g3 : x.toInt ≠ 3 := fun e => e3 (Int32.toInt_inj.mp (e.trans (by decide)))
  have g4 : x.toInt ≠ 4 := fun e => e4 (Int32.toInt_inj.mp (e.trans (by decide)))
  have g5 : x.toInt ≠ 5 := fun e => e5 (Int32.toInt_inj.mp (e.trans (by decide)))
  have g6 : x.toInt ≠ 6 := fun e => e6 (Int32.toInt_inj.mp (e.trans (by decide)))
  unfold zsw
  rw [if_pos (by omega)]
  decide
theorem f9_74 : zF 9 74 = some (9, 9) := by decide +kernel
theorem t9_9 : zcl (zTy 9 9) = 2 := by decide +kernel
theorem rr0_9 (b : Bool) : zRF b 0 9 = some 75 := by cases b <;> rfl
theorem r9_189 : zMr 9 189 = some (3, 0, 0) := by decide +kernel
theorem r9_186 : zMr 9 186 = some (2, 0, 0) := by decide +kernel
theorem r9_182 : zMr 9 182 = some (1, 0, 0) := by decide +kernel
theorem f9_179 : zF 9 179 = some (7, 3) := by decide +kernel
theorem zm88 : zM 88 = some (yX9_song, cX9_song, 2, (some .int), 9, 0, 0) := rfl
theorem za88 : zLA 88 = 99 := by decide +kernel
theorem f9_192 : zF 9 192 = some (7, 2) := by decide +kernel
theorem zm89 : zM 89 = some (yX9_who, cX9_who, 2, (some .int), 9, 3, 67) := rfl
theorem za89 : zLA 89 = 99 := by decide +kernel
theorem cb_43 : (Int8.ofInt (43)).toInt32 = (43 : Int32) := by decide
theorem r9_195 : zMr 9 195 = some (18, 0, 1) := by decide +kernel
theorem zm90 : zM 90 = some (yX9_hears, cX9_hears, 2, (some .int), 9, 1, 21) := rfl
theorem za90 : zLA 90 = 99 := by decide +kernel
theorem f9_60 : zF 9 60 = some (9, 7) := by decide +kernel
theorem t9_7 : zcl (zTy 9 7) = 2 := by decide +kernel
theorem rr0_7 (b : Bool) : zRF b 0 7 = some 67 := by cases b <;> rfl
theorem r9_198 : zMr 9 198 = some (20, 0, 1) := by decide +kernel
theorem f9_199 : zF 9 199 = some (2, 6) := by decide +kernel
theorem zm91 : zM 91 = some (yX9_forget, cX9_forget, 2, (some .int), 9, 0, 0) := rfl
theorem za91 : zLA 91 = 99 := by decide +kernel
theorem zm92 : zM 92 = some (yX9_ways, cX9_ways, 3, (some .int), 9, 4, 92) := rfl
theorem za92 : zLA 92 = 99 := by decide +kernel
theorem r9_202 : zMr 9 202 = some (106, 0, 1) := by decide +kernel
theorem zm106 : zM 106 = some (yX9_isField, cX9_isField, 2, (some .boolean), 9, 0, 0) := rfl
theorem r9_205 : zMr 9 205 = some (21, 0, 2) := by decide +kernel
theorem zm93 : zM 93 = some (yX9_ends, cX9_ends, 2, (some .int), 9, 4, 91) := rfl
theorem za93 : zLA 93 = 99 := by decide +kernel
theorem r9_208 : zMr 9 208 = some (23, 0, 1) := by decide +kernel
theorem zm94 : zM 94 = some (yX9_can, cX9_can, 1, (some .int), 9, 5, 113) := rfl
theorem za94 : zLA 94 = 99 := by decide +kernel
theorem r9_211 : zMr 9 211 = some (25, 0, 0) := by decide +kernel
theorem zm95 : zM 95 = some (yX9_ask, cX9_ask, 1, (some .int), 9, 5, 115) := rfl
theorem za95 : zLA 95 = 99 := by decide +kernel
theorem r9_214 : zMr 9 214 = some (26, 0, 0) := by decide +kernel
theorem zm96 : zM 96 = some (yX9_quiet, cX9_quiet, 5, (some .int), 9, 5, 116) := rfl
theorem za96 : zLA 96 = 99 := by decide +kernel
theorem sw_96_28 (x : Int32) : zsw 28 61 0 2 #[28, 39, 50] x = some (zcs x 89 [((0 : Int32), 56), ((1 : Int32), 67), ((2 : Int32), 78)]) := by
  by_cases e0 : x = 0
  · subst e0; decide +kernel
  by_cases e1 : x = 1
  · subst e1; decide +kernel
  by_cases e2 : x = 2
  · subst e2; decide +kernel
  have hz : zcs x 89 [((0 : Int32), 56), ((1 : Int32), 67), ((2 : Int32), 78)] = 89 := by simp [zcs, e0, e1, e2]
  rw [hz]
  have g0 : x.toInt ≠ 0 := fun e => e0 (Int32.toInt_inj.mp (e.trans (by decide)))
  have g1 : x.toInt ≠ 1 := fun e => e1 (Int32.toInt_inj.mp (e.trans (by decide)))
  have g2 : x.toInt ≠ 2 := fun e => e2 (Int32.toInt_inj.mp (e.trans (by decide)))
  unfold zsw
  rw [if_pos (by omega)]
  decide
theorem f9_67 : zF 9 67 = some (9, 8) := by decide +kernel
theorem t9_8 : zcl (zTy 9 8) = 2 := by decide +kernel
theorem rr0_8 (b : Bool) : zRF b 0 8 = some 72 := by cases b <;> rfl
theorem r9_224 : zMr 9 224 = some (45, 0, 3) := by decide +kernel
theorem r9_221 : zMr 9 221 = some (44, 0, 3) := by decide +kernel
theorem r9_217 : zMr 9 217 = some (43, 0, 3) := by decide +kernel
theorem zm97 : zM 97 = some (yX9_fifths, cX9_fifths, 2, (some .int), 9, 3, 68) := rfl
theorem za97 : zLA 97 = 99 := by decide +kernel
theorem r9_227 : zMr 9 227 = some (16, 0, 1) := by decide +kernel
theorem zm98 : zM 98 = some (yX9_herd, cX9_herd, 2, (some .int), 9, 5, 115) := rfl
theorem za98 : zLA 98 = 99 := by decide +kernel
theorem f9_230 : zF 9 230 = some (4, 8) := by decide +kernel
theorem f9_233 : zF 9 233 = some (4, 0) := by decide +kernel
theorem r9_236 : zMr 9 236 = some (8, 0, 0) := by decide +kernel
theorem r9_239 : zMr 9 239 = some (9, 0, 1) := by decide +kernel
theorem zm99 : zM 99 = some (yX9_frost, cX9_frost, 10, (some .int), 9, 3, 74) := rfl
theorem za99 : zLA 99 = 99 := by decide +kernel
theorem r9_242 : zMr 9 242 = some (48, 0, 2) := by decide +kernel
theorem r9_245 : zMr 9 245 = some (49, 0, 3) := by decide +kernel
theorem r9_248 : zMr 9 248 = some (53, 1, 2) := by decide +kernel
theorem r9_251 : zMr 9 251 = some (0, 5, 2) := by decide +kernel
theorem zm100 : zM 100 = some (yX9_mark, cX9_mark, 3, (some .int), 9, 5, 110) := rfl
theorem za100 : zLA 100 = 99 := by decide +kernel
theorem sw_100_12 (x : Int32) : zsw 12 76 0 5 #[40, 46, 52, 58, 64, 70] x = some (zcs x 88 [((0 : Int32), 52), ((1 : Int32), 58), ((2 : Int32), 64), ((3 : Int32), 70), ((4 : Int32), 76), ((5 : Int32), 82)]) := by
  by_cases e0 : x = 0
  · subst e0; decide +kernel
  by_cases e1 : x = 1
  · subst e1; decide +kernel
  by_cases e2 : x = 2
  · subst e2; decide +kernel
  by_cases e3 : x = 3
  · subst e3; decide +kernel
  by_cases e4 : x = 4
  · subst e4; decide +kernel
  by_cases e5 : x = 5
  · subst e5; decide +kernel
  have hz : zcs x 88 [((0 : Int32), 52), ((1 : Int32), 58), ((2 : Int32), 64), ((3 : Int32), 70), ((4 : Int32), 76), ((5 : Int32), 82)] = 88 := by simp [zcs, e0, e1, e2, e3, e4, e5]
  rw [hz]
  have g0 : x.toInt ≠ 0 := fun e => e0 (Int32.toInt_inj.mp (e.trans (by decide)))
  have g1 : x.toInt ≠ 1 := fun e => e1 (Int32.toInt_inj.mp (e.trans (by decide)))
  have g2 : x.toInt ≠ 2 := fun e => e2 (Int32.toInt_inj.mp (e.trans (by decide)))
  have g3 : x.toInt ≠ 3 := fun e => e3 (Int32.toInt_inj.mp (e.trans (by decide)))
  have g4 : x.toInt ≠ 4 := fun e => e4 (Int32.toInt_inj.mp (e.trans (by decide)))
  have g5 : x.toInt ≠ 5 := fun e => e5 (Int32.toInt_inj.mp (e.trans (by decide)))
  unfold zsw
  rw [if_pos (by omega)]
  decide
theorem r9_271 : zMr 9 271 = some (117, 0, 1) := by decide +kernel
theorem zm117 : zM 117 = some (yX9_markPedal, cX9_markPedal, 2, (some .int), 9, 1, 21) := rfl
theorem r9_268 : zMr 9 268 = some (116, 0, 1) := by decide +kernel
theorem zm116 : zM 116 = some (yX9_markLark, cX9_markLark, 2, (some .int), 9, 4, 89) := rfl
theorem r9_265 : zMr 9 265 = some (115, 0, 1) := by decide +kernel
theorem zm115 : zM 115 = some (yX9_markBull, cX9_markBull, 2, (some .int), 9, 2, 42) := rfl
theorem r9_262 : zMr 9 262 = some (114, 0, 1) := by decide +kernel
theorem zm114 : zM 114 = some (yX9_markTreble, cX9_markTreble, 2, (some .int), 9, 3, 68) := rfl
theorem r9_259 : zMr 9 259 = some (113, 0, 1) := by decide +kernel
theorem zm113 : zM 113 = some (yX9_markBass, cX9_markBass, 2, (some .int), 9, 1, 21) := rfl
theorem r9_256 : zMr 9 256 = some (112, 0, 1) := by decide +kernel
theorem zm112 : zM 112 = some (yX9_markString, cX9_markString, 2, (some .int), 9, 0, 0) := rfl
theorem zm101 : zM 101 = some (yX9_keep, cX9_keep, 2, (some .int), 9, 4, 91) := rfl
theorem za101 : zLA 101 = 99 := by decide +kernel
theorem r9_274 : zMr 9 274 = some (110, 1, 1) := by decide +kernel
theorem zm110 : zM 110 = some (yX9_isImage, cX9_isImage, 1, (some .boolean), 9, 0, 0) := rfl
theorem f9_51 : zF 9 51 = some (9, 6) := by decide +kernel
theorem t9_6 : zcl (zTy 9 6) = 2 := by decide +kernel
theorem rr0_6 (b : Bool) : zRF b 0 6 = some 66 := by cases b <;> rfl
theorem n66 : (zK 66).2 = 2 := by decide +kernel
theorem k66_104 : zok 197 66 104 = true := by decide +kernel
theorem r9_277 : zMr 9 277 = some (30, 0, 2) := by decide +kernel
theorem zm102 : zM 102 = some (yX9_back, cX9_back, 2, (some .int), 9, 4, 91) := rfl
theorem za102 : zLA 102 = 99 := by decide +kernel
theorem f9_281 : zF 9 281 = some (3, 2) := by decide +kernel
theorem r9_285 : zMr 9 285 = some (31, 0, 2) := by decide +kernel
theorem zm103 : zM 103 = some (yX9_count, cX9_count, 2, (some .int), 9, 0, 0) := rfl
theorem za103 : zLA 103 = 99 := by decide +kernel
theorem sw_103_1 (x : Int32) : zsw 1 99 0 6 #[43, 51, 59, 67, 75, 83, 91] x = some (zcs x 100 [((0 : Int32), 44), ((1 : Int32), 52), ((2 : Int32), 60), ((3 : Int32), 68), ((4 : Int32), 76), ((5 : Int32), 84), ((6 : Int32), 92)]) := by
  by_cases e0 : x = 0
  · subst e0; decide +kernel
  by_cases e1 : x = 1
  · subst e1; decide +kernel
  by_cases e2 : x = 2
  · subst e2; decide +kernel
  by_cases e3 : x = 3
  · subst e3; decide +kernel
  by_cases e4 : x = 4
  · subst e4; decide +kernel
  by_cases e5 : x = 5
  · subst e5; decide +kernel
  by_cases e6 : x = 6
  · subst e6; decide +kernel
  have hz : zcs x 100 [((0 : Int32), 44), ((1 : Int32), 52), ((2 : Int32), 60), ((3 : Int32), 68), ((4 : Int32), 76), ((5 : Int32), 84), ((6 : Int32), 92)] = 100 := by simp [zcs, e0, e1, e2, e3, e4, e5, e6]
  rw [hz]
  have g0 : x.toInt ≠ 0 := fun e => e0 (Int32.toInt_inj.mp (e.trans (by decide)))
  have g1 : x.toInt ≠ 1 := fun e => e1 (Int32.toInt_inj.mp (e.trans (by decide)))
  have g2 : x.toInt ≠ 2 := fun e => e2 (Int32.toInt_inj.mp (e.trans (by decide)))
  have g3 : x.toInt ≠ 3 := fun e => e3 (Int32.toInt_inj.mp (e.trans (by decide)))
  have g4 : x.toInt ≠ 4 := fun e => e4 (Int32.toInt_inj.mp (e.trans (by decide)))
  have g5 : x.toInt ≠ 5 := fun e => e5 (Int32.toInt_inj.mp (e.trans (by decide)))
  have g6 : x.toInt ≠ 6 := fun e => e6 (Int32.toInt_inj.mp (e.trans (by decide)))
  unfold zsw
  rw [if_pos (by omega)]
  decide
theorem f9_288 : zF 9 288 = some (4, 5) := by decide +kernel
theorem zm104 : zM 104 = some (yX9_trace, cX9_trace, 1, (some .long), 9, 0, 0) := rfl
theorem za104 : zLA 104 = 99 := by decide +kernel
theorem f9_291 : zF 9 291 = some (9, 10) := by decide +kernel
theorem t9_10 : zcl (zTy 9 10) = 1 := by decide +kernel
theorem za105 : zLA 105 = 99 := by decide +kernel
theorem r9_295 : zMr 9 295 = some (55, 0, 1) := by decide +kernel
theorem za106 : zLA 106 = 99 := by decide +kernel
theorem za107 : zLA 107 = 99 := by decide +kernel
theorem za108 : zLA 108 = 99 := by decide +kernel
theorem za109 : zLA 109 = 99 := by decide +kernel
theorem za110 : zLA 110 = 99 := by decide +kernel
theorem za111 : zLA 111 = 99 := by decide +kernel
theorem za112 : zLA 112 = 99 := by decide +kernel
theorem cl_1 : Int64.ofNat 1 = (1 : Int64) := by decide
theorem fn9_10 : (zCl[9]?).map (fun r => (r.2.1 10).2.2.2) = some false := by decide +kernel
theorem za113 : zLA 113 = 99 := by decide +kernel
theorem zl_9_297 : zL 9 297 = some (10 : Int64) := by decide +kernel
theorem za114 : zLA 114 = 99 := by decide +kernel
theorem zl_9_299 : zL 9 299 = some (100 : Int64) := by decide +kernel
theorem za115 : zLA 115 = 99 := by decide +kernel
theorem zl_9_301 : zL 9 301 = some (1000 : Int64) := by decide +kernel
theorem za116 : zLA 116 = 99 := by decide +kernel
theorem zl_9_303 : zL 9 303 = some (10000 : Int64) := by decide +kernel
theorem za117 : zLA 117 = 99 := by decide +kernel
theorem zl_9_305 : zL 9 305 = some (100000 : Int64) := by decide +kernel
theorem zm119 : zM 119 = some (yX10_in, cX10_in, 3, (some .boolean), 10, 0, 0) := rfl
theorem za119 : zLA 119 = 99 := by decide +kernel
theorem zm120 : zM 120 = some (yX10_has, cX10_has, 2, (some .boolean), 10, 0, 0) := rfl
theorem za120 : zLA 120 = 99 := by decide +kernel
theorem zm121 : zM 121 = some (yX10_type, cX10_type, 2, (some .int), 10, 1, 22) := rfl
theorem za121 : zLA 121 = 99 := by decide +kernel
theorem r10_81 : zMr 10 81 = some (119, 1, 3) := by decide +kernel
theorem f10_85 : zF 10 85 = some (10, 1) := by decide +kernel
theorem k173_10 : zok 197 173 10 = true := by decide +kernel
theorem t10_1 : zcl (zTy 10 1) = 0 := by decide +kernel
theorem f10_7 : zF 10 7 = some (10, 0) := by decide +kernel
theorem t10_0 : zcl (zTy 10 0) = 2 := by decide +kernel
theorem rr173_0 (b : Bool) : zRF b 173 0 = some 174 := by cases b <;> rfl
theorem n174 : (zK 174).2 = 150 := by decide +kernel
theorem k174_101 : zok 197 174 101 = true := by decide +kernel
theorem fn10_1 : (zCl[10]?).map (fun r => (r.2.1 1).2.2.2) = some false := by decide +kernel
theorem zm122 : zM 122 = some (yX10_clear, cX10_clear, 2, (some .int), 10, 0, 0) := rfl
theorem za122 : zLA 122 = 99 := by decide +kernel
theorem zm123 : zM 123 = some (yX10_here, cX10_here, 1, (some .int), 10, 0, 0) := rfl
theorem za123 : zLA 123 = 99 := by decide +kernel
theorem f10_89 : zF 10 89 = some (10, 14) := by decide +kernel
theorem t10_14 : zcl (zTy 10 14) = 0 := by decide +kernel
theorem zm124 : zM 124 = some (yX10_step, cX10_step, 2, none, 10, 1, 22) := rfl
theorem za124 : zLA 124 = 99 := by decide +kernel
theorem r10_92 : zMr 10 92 = some (123, 0, 0) := by decide +kernel
theorem fn10_14 : (zCl[10]?).map (fun r => (r.2.1 14).2.2.2) = some false := by decide +kernel
theorem f10_96 : zF 10 96 = some (10, 15) := by decide +kernel
theorem t10_15 : zcl (zTy 10 15) = 0 := by decide +kernel
theorem fn10_15 : (zCl[10]?).map (fun r => (r.2.1 15).2.2.2) = some false := by decide +kernel
theorem f10_99 : zF 10 99 = some (10, 17) := by decide +kernel
theorem t10_17 : zcl (zTy 10 17) = 0 := by decide +kernel
theorem fn10_17 : (zCl[10]?).map (fun r => (r.2.1 17).2.2.2) = some false := by decide +kernel
theorem f10_102 : zF 10 102 = some (10, 16) := by decide +kernel
theorem t10_16 : zcl (zTy 10 16) = 0 := by decide +kernel
theorem fn10_16 : (zCl[10]?).map (fun r => (r.2.1 16).2.2.2) = some false := by decide +kernel
theorem zm125 : zM 125 = some (yX10_due, cX10_due, 2, none, 10, 2, 43) := rfl
theorem za125 : zLA 125 = 99 := by decide +kernel
theorem f10_105 : zF 10 105 = some (10, 18) := by decide +kernel
theorem t10_18 : zcl (zTy 10 18) = 3 := by decide +kernel
theorem r10_109 : zMr 10 109 = some (124, 0, 0) := by decide +kernel
theorem fn10_18 : (zCl[10]?).map (fun r => (r.2.1 18).2.2.2) = some false := by decide +kernel
theorem zm126 : zM 126 = some (yX10_number, cX10_number, 4, (some .int), 10, 3, 64) := rfl
theorem za126 : zLA 126 = 99 := by decide +kernel
theorem r10_112 : zMr 10 112 = some (125, 0, 1) := by decide +kernel
theorem zm127 : zM 127 = some (yX10_item, cX10_item, 4, none, 10, 4, 87) := rfl
theorem za127 : zLA 127 = 99 := by decide +kernel
theorem sw_127_1 (x : Int32) : zTg 1 (Op.lookupswitch.offset (#[(98, 218), (102, 59), (107, 163), (110, 43)] : Array (Int × Int)).toList 285 x.toInt) = some (zcs x 286 [((98 : Int32), 219), ((102 : Int32), 60), ((107 : Int32), 164), ((110 : Int32), 44)]) := by
  by_cases e0 : x = 98
  · subst e0; decide +kernel
  by_cases e1 : x = 102
  · subst e1; decide +kernel
  by_cases e2 : x = 107
  · subst e2; decide +kernel
  by_cases e3 : x = 110
  · subst e3; decide +kernel
  have hz : zcs x 286 [((98 : Int32), 219), ((102 : Int32), 60), ((107 : Int32), 164), ((110 : Int32), 44)] = 286 := by simp [zcs, e0, e1, e2, e3]
  rw [hz]
  have g0 : x.toInt ≠ 98 := fun e => e0 (Int32.toInt_inj.mp (e.trans (by decide)))
  have g1 : x.toInt ≠ 102 := fun e => e1 (Int32.toInt_inj.mp (e.trans (by decide)))
  have g2 : x.toInt ≠ 107 := fun e => e2 (Int32.toInt_inj.mp (e.trans (by decide)))
  have g3 : x.toInt ≠ 110 := fun e => e3 (Int32.toInt_inj.mp (e.trans (by decide)))
  have hn : Op.lookupswitch.offset (#[(98, 218), (102, 59), (107, 163), (110, 43)] : Array (Int × Int)).toList 285 x.toInt = 285 := by
    simp [Op.lookupswitch.offset, Ne.symm g0, Ne.symm g1, Ne.symm g2, Ne.symm g3]
  rw [hn]
  decide
theorem f10_47 : zF 10 47 = some (10, 13) := by decide +kernel
theorem t10_13 : zcl (zTy 10 13) = 2 := by decide +kernel
theorem rr173_13 (b : Bool) : zRF b 173 13 = some 186 := by cases b <;> rfl
theorem r10_116 : zMr 10 116 = some (126, 0, 2) := by decide +kernel
theorem n186 : (zK 186).2 = 2 := by decide +kernel
theorem k186_100 : zok 197 186 100 = true := by decide +kernel
theorem f10_13 : zF 10 13 = some (10, 2) := by decide +kernel
theorem t10_2 : zcl (zTy 10 2) = 2 := by decide +kernel
theorem rr173_2 (b : Bool) : zRF b 173 2 = some 175 := by cases b <;> rfl
theorem n175 : (zK 175).2 = 2 := by decide +kernel
theorem k175_100 : zok 197 175 100 = true := by decide +kernel
theorem f10_32 : zF 10 32 = some (10, 8) := by decide +kernel
theorem t10_8 : zcl (zTy 10 8) = 2 := by decide +kernel
theorem rr173_8 (b : Bool) : zRF b 173 8 = some 181 := by cases b <;> rfl
theorem f10_29 : zF 10 29 = some (10, 7) := by decide +kernel
theorem t10_7 : zcl (zTy 10 7) = 2 := by decide +kernel
theorem rr173_7 (b : Bool) : zRF b 173 7 = some 180 := by cases b <;> rfl
theorem n180 : (zK 180).2 = 2 := by decide +kernel
theorem k180_100 : zok 197 180 100 = true := by decide +kernel
theorem vi_1_2 : vp_in (1 : Int32) 2 := by unfold vp_in; decide
theorem n181 : (zK 181).2 = 8 := by decide +kernel
theorem k181_100 : zok 197 181 100 = true := by decide +kernel
theorem f10_35 : zF 10 35 = some (10, 9) := by decide +kernel
theorem t10_9 : zcl (zTy 10 9) = 2 := by decide +kernel
theorem rr173_9 (b : Bool) : zRF b 173 9 = some 182 := by cases b <;> rfl
theorem n182 : (zK 182).2 = 8 := by decide +kernel
theorem k182_100 : zok 197 182 100 = true := by decide +kernel
theorem f10_17 : zF 10 17 = some (10, 3) := by decide +kernel
theorem t10_3 : zcl (zTy 10 3) = 2 := by decide +kernel
theorem rr173_3 (b : Bool) : zRF b 173 3 = some 176 := by cases b <;> rfl
theorem n176 : (zK 176).2 = 2 := by decide +kernel
theorem k176_100 : zok 197 176 100 = true := by decide +kernel
theorem f10_20 : zF 10 20 = some (10, 4) := by decide +kernel
theorem t10_4 : zcl (zTy 10 4) = 2 := by decide +kernel
theorem rr173_4 (b : Bool) : zRF b 173 4 = some 177 := by cases b <;> rfl
theorem n177 : (zK 177).2 = 16 := by decide +kernel
theorem k177_100 : zok 197 177 100 = true := by decide +kernel
theorem f10_23 : zF 10 23 = some (10, 5) := by decide +kernel
theorem t10_5 : zcl (zTy 10 5) = 2 := by decide +kernel
theorem rr173_5 (b : Bool) : zRF b 173 5 = some 178 := by cases b <;> rfl
theorem n178 : (zK 178).2 = 16 := by decide +kernel
theorem k178_100 : zok 197 178 100 = true := by decide +kernel
theorem f10_26 : zF 10 26 = some (10, 6) := by decide +kernel
theorem t10_6 : zcl (zTy 10 6) = 2 := by decide +kernel
theorem rr173_6 (b : Bool) : zRF b 173 6 = some 179 := by cases b <;> rfl
theorem n179 : (zK 179).2 = 16 := by decide +kernel
theorem k179_100 : zok 197 179 100 = true := by decide +kernel
theorem f10_41 : zF 10 41 = some (10, 11) := by decide +kernel
theorem t10_11 : zcl (zTy 10 11) = 2 := by decide +kernel
theorem rr173_11 (b : Bool) : zRF b 173 11 = some 184 := by cases b <;> rfl
theorem f10_38 : zF 10 38 = some (10, 10) := by decide +kernel
theorem t10_10 : zcl (zTy 10 10) = 2 := by decide +kernel
theorem rr173_10 (b : Bool) : zRF b 173 10 = some 183 := by cases b <;> rfl
theorem n183 : (zK 183).2 = 2 := by decide +kernel
theorem k183_100 : zok 197 183 100 = true := by decide +kernel
theorem n184 : (zK 184).2 = 12 := by decide +kernel
theorem k184_100 : zok 197 184 100 = true := by decide +kernel
theorem f10_44 : zF 10 44 = some (10, 12) := by decide +kernel
theorem t10_12 : zcl (zTy 10 12) = 2 := by decide +kernel
theorem rr173_12 (b : Bool) : zRF b 173 12 = some 185 := by cases b <;> rfl
theorem n185 : (zK 185).2 = 12 := by decide +kernel
theorem k185_100 : zok 197 185 100 = true := by decide +kernel
theorem zm128 : zM 128 = some (yX10_may, cX10_may, 3, (some .boolean), 10, 0, 0) := rfl
theorem za128 : zLA 128 = 99 := by decide +kernel
theorem sw_128_1 (x : Int32) : zTg 1 (Op.lookupswitch.offset (#[(98, 89), (102, 56), (107, 73), (110, 43)] : Array (Int × Int)).toList 106 x.toInt) = some (zcs x 107 [((98 : Int32), 90), ((102 : Int32), 57), ((107 : Int32), 74), ((110 : Int32), 44)]) := by
  by_cases e0 : x = 98
  · subst e0; decide +kernel
  by_cases e1 : x = 102
  · subst e1; decide +kernel
  by_cases e2 : x = 107
  · subst e2; decide +kernel
  by_cases e3 : x = 110
  · subst e3; decide +kernel
  have hz : zcs x 107 [((98 : Int32), 90), ((102 : Int32), 57), ((107 : Int32), 74), ((110 : Int32), 44)] = 107 := by simp [zcs, e0, e1, e2, e3]
  rw [hz]
  have g0 : x.toInt ≠ 98 := fun e => e0 (Int32.toInt_inj.mp (e.trans (by decide)))
  have g1 : x.toInt ≠ 102 := fun e => e1 (Int32.toInt_inj.mp (e.trans (by decide)))
  have g2 : x.toInt ≠ 107 := fun e => e2 (Int32.toInt_inj.mp (e.trans (by decide)))
  have g3 : x.toInt ≠ 110 := fun e => e3 (Int32.toInt_inj.mp (e.trans (by decide)))
  have hn : Op.lookupswitch.offset (#[(98, 89), (102, 56), (107, 73), (110, 43)] : Array (Int × Int)).toList 106 x.toInt = 106 := by
    simp [Op.lookupswitch.offset, Ne.symm g0, Ne.symm g1, Ne.symm g2, Ne.symm g3]
  rw [hn]
  decide
theorem cb_119 : (Int8.ofInt (119)).toInt32 = (119 : Int32) := by decide
theorem f10_120 : zF 10 120 = some (10, 19) := by decide +kernel
theorem t10_19 : zcl (zTy 10 19) = 0 := by decide +kernel
theorem zm129 : zM 129 = some (yX10_read, cX10_read, 3, none, 10, 5, 110) := rfl
theorem za129 : zLA 129 = 99 := by decide +kernel
theorem fn10_19 : (zCl[10]?).map (fun r => (r.2.1 19).2.2.2) = some false := by decide +kernel
theorem r10_123 : zMr 10 123 = some (128, 0, 2) := by decide +kernel
theorem r10_127 : zMr 10 127 = some (127, 0, 1) := by decide +kernel
theorem zm130 : zM 130 = some (yX10_downs, cX10_downs, 2, (some .int), 10, 6, 132) := rfl
theorem za130 : zLA 130 = 99 := by decide +kernel
theorem r10_131 : zMr 10 131 = some (129, 0, 0) := by decide +kernel
theorem vi_0_2 : vp_in (0 : Int32) 2 := by unfold vp_in; decide
theorem cb_30 : (Int8.ofInt (30)).toInt32 = (30 : Int32) := by decide
theorem f10_50 : zF 10 50 = some (10, 20) := by decide +kernel
theorem t10_20 : zcl (zTy 10 20) = 2 := by decide +kernel
theorem rr173_20 (b : Bool) : zRF b 173 20 = some 187 := by cases b <;> rfl
theorem n187 : (zK 187).2 = 30 := by decide +kernel
theorem k187_100 : zok 197 187 100 = true := by decide +kernel
theorem cb_16 : (Int8.ofInt (16)).toInt32 = (16 : Int32) := by decide
theorem tn_16 : (16 : Int32).toNatClampNeg = 16 := by decide
theorem vi_16_30 : vp_in (16 : Int32) 30 := by unfold vp_in; decide
theorem f10_53 : zF 10 53 = some (10, 21) := by decide +kernel
theorem t10_21 : zcl (zTy 10 21) = 2 := by decide +kernel
theorem rr173_21 (b : Bool) : zRF b 173 21 = some 188 := by cases b <;> rfl
theorem n188 : (zK 188).2 = 3 := by decide +kernel
theorem k188_100 : zok 197 188 100 = true := by decide +kernel
theorem vi_0_3 : vp_in (0 : Int32) 3 := by unfold vp_in; decide
theorem f10_62 : zF 10 62 = some (10, 24) := by decide +kernel
theorem t10_24 : zcl (zTy 10 24) = 2 := by decide +kernel
theorem rr173_24 (b : Bool) : zRF b 173 24 = some 191 := by cases b <;> rfl
theorem n191 : (zK 191).2 = 2 := by decide +kernel
theorem k191_102 : zok 197 191 102 = true := by decide +kernel
theorem kn191 : zok 197 191 101 = false := by decide +kernel
theorem f10_134 : zF 10 134 = some (10, 26) := by decide +kernel
theorem t10_26 : zcl (zTy 10 26) = 0 := by decide +kernel
theorem fn10_26 : (zCl[10]?).map (fun r => (r.2.1 26).2.2.2) = some false := by decide +kernel
theorem zm131 : zM 131 = some (yX10_isField, cX10_isField, 2, (some .boolean), 10, 1, 22) := rfl
theorem za131 : zLA 131 = 99 := by decide +kernel
theorem zm132 : zM 132 = some (yX10_isFence, cX10_isFence, 2, (some .boolean), 10, 1, 22) := rfl
theorem za132 : zLA 132 = 99 := by decide +kernel
theorem zm133 : zM 133 = some (yX10_isKind, cX10_isKind, 2, (some .boolean), 10, 1, 22) := rfl
theorem za133 : zLA 133 = 99 := by decide +kernel
theorem zm134 : zM 134 = some (yX10_isBeast, cX10_isBeast, 2, (some .boolean), 10, 1, 22) := rfl
theorem za134 : zLA 134 = 99 := by decide +kernel
theorem zm135 : zM 135 = some (yX10_soundOf, cX10_soundOf, 4, (some .int), 10, 1, 21) := rfl
theorem za135 : zLA 135 = 99 := by decide +kernel
theorem cb_14 : (Int8.ofInt (14)).toInt32 = (14 : Int32) := by decide
theorem tn_14 : (14 : Int32).toNatClampNeg = 14 := by decide
theorem vi_14_30 : vp_in (14 : Int32) 30 := by unfold vp_in; decide
theorem r10_137 : zMr 10 137 = some (120, 1, 2) := by decide +kernel
theorem cb_15 : (Int8.ofInt (15)).toInt32 = (15 : Int32) := by decide
theorem tn_15 : (15 : Int32).toNatClampNeg = 15 := by decide
theorem vi_15_30 : vp_in (15 : Int32) 30 := by unfold vp_in; decide
theorem zm136 : zM 136 = some (yX10_isAt, cX10_isAt, 3, (some .boolean), 10, 0, 0) := rfl
theorem za136 : zLA 136 = 99 := by decide +kernel
theorem zm137 : zM 137 = some (yX10_across, cX10_across, 3, (some .int), 10, 0, 0) := rfl
theorem za137 : zLA 137 = 99 := by decide +kernel
theorem zm138 : zM 138 = some (yX10_isString, cX10_isString, 2, (some .boolean), 10, 1, 21) := rfl
theorem za138 : zLA 138 = 99 := by decide +kernel
theorem zm139 : zM 139 = some (yX10_bitsOf, cX10_bitsOf, 3, (some .int), 10, 0, 0) := rfl
theorem za139 : zLA 139 = 99 := by decide +kernel
theorem zm140 : zM 140 = some (yX10_allOf, cX10_allOf, 1, (some .int), 10, 0, 0) := rfl
theorem za140 : zLA 140 = 99 := by decide +kernel
theorem zm141 : zM 141 = some (yX10_fence, cX10_fence, 3, (some .int), 10, 2, 43) := rfl
theorem za141 : zLA 141 = 99 := by decide +kernel
theorem r10_141 : zMr 10 141 = some (132, 0, 1) := by decide +kernel
theorem sw_141_11 (x : Int32) : zsw 11 97 0 4 #[33, 40, 47, 57, 77] x = some (zcs x 108 [((0 : Int32), 44), ((1 : Int32), 51), ((2 : Int32), 58), ((3 : Int32), 68), ((4 : Int32), 88)]) := by
  by_cases e0 : x = 0
  · subst e0; decide +kernel
  by_cases e1 : x = 1
  · subst e1; decide +kernel
  by_cases e2 : x = 2
  · subst e2; decide +kernel
  by_cases e3 : x = 3
  · subst e3; decide +kernel
  by_cases e4 : x = 4
  · subst e4; decide +kernel
  have hz : zcs x 108 [((0 : Int32), 44), ((1 : Int32), 51), ((2 : Int32), 58), ((3 : Int32), 68), ((4 : Int32), 88)] = 108 := by simp [zcs, e0, e1, e2, e3, e4]
  rw [hz]
  have g0 : x.toInt ≠ 0 := fun e => e0 (Int32.toInt_inj.mp (e.trans (by decide)))
  have g1 : x.toInt ≠ 1 := fun e => e1 (Int32.toInt_inj.mp (e.trans (by decide)))
  have g2 : x.toInt ≠ 2 := fun e => e2 (Int32.toInt_inj.mp (e.trans (by decide)))
  have g3 : x.toInt ≠ 3 := fun e => e3 (Int32.toInt_inj.mp (e.trans (by decide)))
  have g4 : x.toInt ≠ 4 := fun e => e4 (Int32.toInt_inj.mp (e.trans (by decide)))
  unfold zsw
  rw [if_pos (by omega)]
  decide
theorem zm142 : zM 142 = some (yX10_kind, cX10_kind, 3, (some .int), 10, 2, 43) := rfl
theorem za142 : zLA 142 = 99 := by decide +kernel
theorem r10_145 : zMr 10 145 = some (133, 0, 1) := by decide +kernel
theorem zi_10_148 : zI 10 148 = some (-1000000 : Int32) := by decide +kernel
theorem zm143 : zM 143 = some (yX10_beast, cX10_beast, 3, (some .int), 10, 2, 43) := rfl
theorem za143 : zLA 143 = 99 := by decide +kernel
theorem r10_149 : zMr 10 149 = some (134, 0, 1) := by decide +kernel
theorem zm144 : zM 144 = some (yX10_sound, cX10_sound, 3, (some .int), 10, 2, 44) := rfl
theorem za144 : zLA 144 = 99 := by decide +kernel
theorem r10_152 : zMr 10 152 = some (135, 0, 2) := by decide +kernel
theorem zm145 : zM 145 = some (yX10_know, cX10_know, 2, none, 10, 0, 0) := rfl
theorem za145 : zLA 145 = 99 := by decide +kernel
theorem cs_270 : (Int16.ofInt (270)).toInt32 = (270 : Int32) := by decide
theorem f10_56 : zF 10 56 = some (10, 22) := by decide +kernel
theorem t10_22 : zcl (zTy 10 22) = 2 := by decide +kernel
theorem rr173_22 (b : Bool) : zRF b 173 22 = some 189 := by cases b <;> rfl
theorem n189 : (zK 189).2 = 900 := by decide +kernel
theorem k189_100 : zok 197 189 100 = true := by decide +kernel
theorem zm146 : zM 146 = some (yX10_sing, cX10_sing, 3, none, 10, 0, 0) := rfl
theorem za146 : zLA 146 = 99 := by decide +kernel
theorem cb_17 : (Int8.ofInt (17)).toInt32 = (17 : Int32) := by decide
theorem tn_17 : (17 : Int32).toNatClampNeg = 17 := by decide
theorem vi_17_30 : vp_in (17 : Int32) 30 := by unfold vp_in; decide
theorem cb_18 : (Int8.ofInt (18)).toInt32 = (18 : Int32) := by decide
theorem zm147 : zM 147 = some (yX10_goes, cX10_goes, 4, (some .int), 10, 2, 44) := rfl
theorem za147 : zLA 147 = 99 := by decide +kernel
theorem r10_155 : zMr 10 155 = some (136, 0, 2) := by decide +kernel
theorem r10_158 : zMr 10 158 = some (145, 0, 0) := by decide +kernel
theorem r10_161 : zMr 10 161 = some (137, 0, 2) := by decide +kernel
theorem r10_164 : zMr 10 164 = some (146, 0, 1) := by decide +kernel
theorem zm148 : zM 148 = some (yX10_cuts, cX10_cuts, 3, (some .int), 10, 2, 43) := rfl
theorem za148 : zLA 148 = 99 := by decide +kernel
theorem r10_167 : zMr 10 167 = some (139, 1, 1) := by decide +kernel
theorem zm149 : zM 149 = some (yX10_tunes, cX10_tunes, 4, (some .int), 10, 2, 43) := rfl
theorem za149 : zLA 149 = 99 := by decide +kernel
theorem zm150 : zM 150 = some (yX10_lays, cX10_lays, 3, (some .int), 10, 1, 22) := rfl
theorem za150 : zLA 150 = 99 := by decide +kernel
theorem r10_171 : zMr 10 171 = some (140, 1, 1) := by decide +kernel
theorem zm151 : zM 151 = some (yX10_rains, cX10_rains, 2, (some .int), 10, 1, 22) := rfl
theorem za151 : zLA 151 = 99 := by decide +kernel
theorem zm152 : zM 152 = some (yX10_undo, cX10_undo, 2, (some .int), 10, 0, 0) := rfl
theorem za152 : zLA 152 = 99 := by decide +kernel
theorem zm153 : zM 153 = some (yX10_areAlike, cX10_areAlike, 4, (some .boolean), 10, 2, 42) := rfl
theorem za153 : zLA 153 = 99 := by decide +kernel
theorem r10_174 : zMr 10 174 = some (138, 0, 1) := by decide +kernel
theorem zm154 : zM 154 = some (yX10_alike, cX10_alike, 4, (some .int), 10, 3, 65) := rfl
theorem za154 : zLA 154 = 99 := by decide +kernel
theorem r10_177 : zMr 10 177 = some (153, 0, 2) := by decide +kernel
theorem zm155 : zM 155 = some (yX10_areApart, cX10_areApart, 5, (some .boolean), 10, 3, 65) := rfl
theorem za155 : zLA 155 = 99 := by decide +kernel
theorem zm156 : zM 156 = some (yX10_areHeard, cX10_areHeard, 4, (some .boolean), 10, 2, 42) := rfl
theorem za156 : zLA 156 = 99 := by decide +kernel
theorem zm157 : zM 157 = some (yX10_fewest, cX10_fewest, 6, (some .int), 10, 4, 89) := rfl
theorem za157 : zLA 157 = 99 := by decide +kernel
theorem r10_180 : zMr 10 180 = some (155, 0, 1) := by decide +kernel
theorem r10_183 : zMr 10 183 = some (156, 0, 1) := by decide +kernel
theorem zm158 : zM 158 = some (yX10_now, cX10_now, 2, (some .int), 10, 5, 114) := rfl
theorem za158 : zLA 158 = 99 := by decide +kernel
theorem sw_158_1 (x : Int32) : zsw 1 92 0 6 #[43, 51, 59, 67, 75, 80, 86] x = some (zcs x 93 [((0 : Int32), 44), ((1 : Int32), 52), ((2 : Int32), 60), ((3 : Int32), 68), ((4 : Int32), 76), ((5 : Int32), 81), ((6 : Int32), 87)]) := by
  by_cases e0 : x = 0
  · subst e0; decide +kernel
  by_cases e1 : x = 1
  · subst e1; decide +kernel
  by_cases e2 : x = 2
  · subst e2; decide +kernel
  by_cases e3 : x = 3
  · subst e3; decide +kernel
  by_cases e4 : x = 4
  · subst e4; decide +kernel
  by_cases e5 : x = 5
  · subst e5; decide +kernel
  by_cases e6 : x = 6
  · subst e6; decide +kernel
  have hz : zcs x 93 [((0 : Int32), 44), ((1 : Int32), 52), ((2 : Int32), 60), ((3 : Int32), 68), ((4 : Int32), 76), ((5 : Int32), 81), ((6 : Int32), 87)] = 93 := by simp [zcs, e0, e1, e2, e3, e4, e5, e6]
  rw [hz]
  have g0 : x.toInt ≠ 0 := fun e => e0 (Int32.toInt_inj.mp (e.trans (by decide)))
  have g1 : x.toInt ≠ 1 := fun e => e1 (Int32.toInt_inj.mp (e.trans (by decide)))
  have g2 : x.toInt ≠ 2 := fun e => e2 (Int32.toInt_inj.mp (e.trans (by decide)))
  have g3 : x.toInt ≠ 3 := fun e => e3 (Int32.toInt_inj.mp (e.trans (by decide)))
  have g4 : x.toInt ≠ 4 := fun e => e4 (Int32.toInt_inj.mp (e.trans (by decide)))
  have g5 : x.toInt ≠ 5 := fun e => e5 (Int32.toInt_inj.mp (e.trans (by decide)))
  have g6 : x.toInt ≠ 6 := fun e => e6 (Int32.toInt_inj.mp (e.trans (by decide)))
  unfold zsw
  rw [if_pos (by omega)]
  decide
theorem r10_189 : zMr 10 189 = some (157, 0, 1) := by decide +kernel
theorem r10_186 : zMr 10 186 = some (154, 0, 0) := by decide +kernel
theorem zm159 : zM 159 = some (yX10_song, cX10_song, 2, (some .int), 10, 1, 22) := rfl
theorem za159 : zLA 159 = 99 := by decide +kernel
theorem zm160 : zM 160 = some (yX10_who, cX10_who, 6, (some .int), 10, 2, 44) := rfl
theorem za160 : zLA 160 = 99 := by decide +kernel
theorem zm161 : zM 161 = some (yX10_hears, cX10_hears, 2, (some .int), 10, 1, 22) := rfl
theorem za161 : zLA 161 = 99 := by decide +kernel
theorem f10_66 : zF 10 66 = some (10, 25) := by decide +kernel
theorem t10_25 : zcl (zTy 10 25) = 2 := by decide +kernel
theorem rr173_25 (b : Bool) : zRF b 173 25 = some 192 := by cases b <;> rfl
theorem n192 : (zK 192).2 = 6 := by decide +kernel
theorem k192_100 : zok 197 192 100 = true := by decide +kernel
theorem zm162 : zM 162 = some (yX10_forget, cX10_forget, 2, (some .int), 10, 0, 0) := rfl
theorem za162 : zLA 162 = 99 := by decide +kernel
theorem zm163 : zM 163 = some (yX10_ways, cX10_ways, 5, (some .int), 10, 2, 44) := rfl
theorem za163 : zLA 163 = 99 := by decide +kernel
theorem r10_192 : zMr 10 192 = some (131, 0, 1) := by decide +kernel
theorem f10_69 : zF 10 69 = some (10, 27) := by decide +kernel
theorem t10_27 : zcl (zTy 10 27) = 2 := by decide +kernel
theorem rr173_27 (b : Bool) : zRF b 173 27 = some 193 := by cases b <;> rfl
theorem n193 : (zK 193).2 = 8 := by decide +kernel
theorem k193_100 : zok 197 193 100 = true := by decide +kernel
theorem f10_72 : zF 10 72 = some (10, 28) := by decide +kernel
theorem t10_28 : zcl (zTy 10 28) = 2 := by decide +kernel
theorem rr173_28 (b : Bool) : zRF b 173 28 = some 194 := by cases b <;> rfl
theorem n194 : (zK 194).2 = 8 := by decide +kernel
theorem k194_100 : zok 197 194 100 = true := by decide +kernel
theorem zi_10_195 : zI 10 195 = some (1000003 : Int32) := by decide +kernel
theorem zm164 : zM 164 = some (yX10_endsOf, cX10_endsOf, 6, (some .int), 10, 2, 44) := rfl
theorem za164 : zLA 164 = 99 := by decide +kernel
theorem zm165 : zM 165 = some (yX10_ends, cX10_ends, 2, (some .int), 10, 3, 69) := rfl
theorem za165 : zLA 165 = 99 := by decide +kernel
theorem r10_196 : zMr 10 196 = some (164, 0, 1) := by decide +kernel
theorem zm166 : zM 166 = some (yX10_can, cX10_can, 3, (some .int), 10, 3, 69) := rfl
theorem za166 : zLA 166 = 99 := by decide +kernel
theorem zm167 : zM 167 = some (yX10_comesTo, cX10_comesTo, 4, (some .boolean), 10, 3, 69) := rfl
theorem za167 : zLA 167 = 99 := by decide +kernel
theorem zm168 : zM 168 = some (yX10_ask, cX10_ask, 8, (some .int), 10, 4, 92) := rfl
theorem za168 : zLA 168 = 99 := by decide +kernel
theorem r10_199 : zMr 10 199 = some (167, 0, 2) := by decide +kernel
theorem zm169 : zM 169 = some (yX10_costOf, cX10_costOf, 3, (some .int), 10, 2, 44) := rfl
theorem za169 : zLA 169 = 99 := by decide +kernel
theorem zm170 : zM 170 = some (yX10_measure, cX10_measure, 7, none, 10, 3, 66) := rfl
theorem za170 : zLA 170 = 99 := by decide +kernel
theorem f10_75 : zF 10 75 = some (10, 29) := by decide +kernel
theorem t10_29 : zcl (zTy 10 29) = 2 := by decide +kernel
theorem rr173_29 (b : Bool) : zRF b 173 29 = some 195 := by cases b <;> rfl
theorem n195 : (zK 195).2 = 8 := by decide +kernel
theorem k195_100 : zok 197 195 100 = true := by decide +kernel
theorem zi_10_202 : zI 10 202 = some (1000000 : Int32) := by decide +kernel
theorem r10_203 : zMr 10 203 = some (169, 0, 2) := by decide +kernel
theorem zm171 : zM 171 = some (yX10_quiet, cX10_quiet, 8, (some .int), 10, 4, 92) := rfl
theorem za171 : zLA 171 = 99 := by decide +kernel
theorem r10_206 : zMr 10 206 = some (170, 0, 2) := by decide +kernel
theorem zm172 : zM 172 = some (yX10_fifthsOf, cX10_fifthsOf, 7, (some .int), 10, 2, 42) := rfl
theorem za172 : zLA 172 = 99 := by decide +kernel
theorem cb_m7 : (Int8.ofInt (-7)).toInt32 = (-7 : Int32) := by decide
theorem zm173 : zM 173 = some (yX10_fifths, cX10_fifths, 2, (some .int), 10, 3, 68) := rfl
theorem za173 : zLA 173 = 99 := by decide +kernel
theorem r10_210 : zMr 10 210 = some (172, 0, 1) := by decide +kernel
theorem zm174 : zM 174 = some (yX10_milkBy, cX10_milkBy, 5, (some .int), 10, 3, 68) := rfl
theorem za174 : zLA 174 = 99 := by decide +kernel
theorem f10_78 : zF 10 78 = some (10, 30) := by decide +kernel
theorem t10_30 : zcl (zTy 10 30) = 2 := by decide +kernel
theorem rr173_30 (b : Bool) : zRF b 173 30 = some 196 := by cases b <;> rfl
theorem cs_256 : (Int16.ofInt (256)).toInt32 = (256 : Int32) := by decide
theorem n196 : (zK 196).2 = 1792 := by decide +kernel
theorem k196_100 : zok 197 196 100 = true := by decide +kernel
theorem zm175 : zM 175 = some (yX10_herd, cX10_herd, 7, (some .int), 10, 4, 92) := rfl
theorem za175 : zLA 175 = 99 := by decide +kernel
theorem r10_213 : zMr 10 213 = some (174, 0, 3) := by decide +kernel
theorem vi_0_1792 : vp_in (0 : Int32) 1792 := by unfold vp_in; decide
theorem zm176 : zM 176 = some (yX10_isUnheard, cX10_isUnheard, 10, (some .boolean), 10, 2, 44) := rfl
theorem za176 : zLA 176 = 99 := by decide +kernel
theorem zm177 : zM 177 = some (yX10_frost, cX10_frost, 13, (some .int), 10, 3, 73) := rfl
theorem za177 : zLA 177 = 99 := by decide +kernel
theorem r10_217 : zMr 10 217 = some (176, 0, 4) := by decide +kernel
theorem zm178 : zM 178 = some (yX10_bodiesOf, cX10_bodiesOf, 1, (some .int), 10, 0, 0) := rfl
theorem za178 : zLA 178 = 99 := by decide +kernel
theorem sw_178_1 (x : Int32) : zsw 1 47 0 4 #[35, 37, 39, 41, 44] x = some (zcs x 48 [((0 : Int32), 36), ((1 : Int32), 38), ((2 : Int32), 40), ((3 : Int32), 42), ((4 : Int32), 45)]) := by
  by_cases e0 : x = 0
  · subst e0; decide +kernel
  by_cases e1 : x = 1
  · subst e1; decide +kernel
  by_cases e2 : x = 2
  · subst e2; decide +kernel
  by_cases e3 : x = 3
  · subst e3; decide +kernel
  by_cases e4 : x = 4
  · subst e4; decide +kernel
  have hz : zcs x 48 [((0 : Int32), 36), ((1 : Int32), 38), ((2 : Int32), 40), ((3 : Int32), 42), ((4 : Int32), 45)] = 48 := by simp [zcs, e0, e1, e2, e3, e4]
  rw [hz]
  have g0 : x.toInt ≠ 0 := fun e => e0 (Int32.toInt_inj.mp (e.trans (by decide)))
  have g1 : x.toInt ≠ 1 := fun e => e1 (Int32.toInt_inj.mp (e.trans (by decide)))
  have g2 : x.toInt ≠ 2 := fun e => e2 (Int32.toInt_inj.mp (e.trans (by decide)))
  have g3 : x.toInt ≠ 3 := fun e => e3 (Int32.toInt_inj.mp (e.trans (by decide)))
  have g4 : x.toInt ≠ 4 := fun e => e4 (Int32.toInt_inj.mp (e.trans (by decide)))
  unfold zsw
  rw [if_pos (by omega)]
  decide
theorem cb_33 : (Int8.ofInt (33)).toInt32 = (33 : Int32) := by decide
theorem cb_21 : (Int8.ofInt (21)).toInt32 = (21 : Int32) := by decide
theorem zm179 : zM 179 = some (yX10_mark, cX10_mark, 7, (some .int), 10, 3, 68) := rfl
theorem za179 : zLA 179 = 4 := by decide +kernel
theorem r10_221 : zMr 10 221 = some (178, 1, 1) := by decide +kernel
theorem f10_224 : zF 10 224 = some (10, 31) := by decide +kernel
theorem t10_31 : zcl (zTy 10 31) = 1 := by decide +kernel
theorem fn10_31 : (zCl[10]?).map (fun r => (r.2.1 31).2.2.2) = some false := by decide +kernel
theorem zl_10_228 : zL 10 228 = some (10 : Int64) := by decide +kernel
theorem cl_0 : Int64.ofNat 0 = (0 : Int64) := by decide
theorem zm180 : zM 180 = some (yX10_trace, cX10_trace, 1, (some .long), 10, 0, 0) := rfl
theorem za180 : zLA 180 = 99 := by decide +kernel
theorem zm181 : zM 181 = some (yX10_keep, cX10_keep, 3, (some .int), 10, 1, 22) := rfl
theorem za181 : zLA 181 = 99 := by decide +kernel
theorem f10_59 : zF 10 59 = some (10, 23) := by decide +kernel
theorem t10_23 : zcl (zTy 10 23) = 2 := by decide +kernel
theorem rr173_23 (b : Bool) : zRF b 173 23 = some 190 := by cases b <;> rfl
theorem n190 : (zK 190).2 = 60 := by decide +kernel
theorem k190_100 : zok 197 190 100 = true := by decide +kernel
theorem cs_300 : (Int16.ofInt (300)).toInt32 = (300 : Int32) := by decide
theorem zm182 : zM 182 = some (yX10_back, cX10_back, 3, (some .int), 10, 1, 22) := rfl
theorem za182 : zLA 182 = 99 := by decide +kernel
theorem zm183 : zM 183 = some (yX10_count, cX10_count, 2, (some .int), 10, 0, 0) := rfl
theorem za183 : zLA 183 = 99 := by decide +kernel
theorem sw_183_1 (x : Int32) : zsw 1 88 0 6 #[43, 50, 57, 64, 71, 76, 83] x = some (zcs x 89 [((0 : Int32), 44), ((1 : Int32), 51), ((2 : Int32), 58), ((3 : Int32), 65), ((4 : Int32), 72), ((5 : Int32), 77), ((6 : Int32), 84)]) := by
  by_cases e0 : x = 0
  · subst e0; decide +kernel
  by_cases e1 : x = 1
  · subst e1; decide +kernel
  by_cases e2 : x = 2
  · subst e2; decide +kernel
  by_cases e3 : x = 3
  · subst e3; decide +kernel
  by_cases e4 : x = 4
  · subst e4; decide +kernel
  by_cases e5 : x = 5
  · subst e5; decide +kernel
  by_cases e6 : x = 6
  · subst e6; decide +kernel
  have hz : zcs x 89 [((0 : Int32), 44), ((1 : Int32), 51), ((2 : Int32), 58), ((3 : Int32), 65), ((4 : Int32), 72), ((5 : Int32), 77), ((6 : Int32), 84)] = 89 := by simp [zcs, e0, e1, e2, e3, e4, e5, e6]
  rw [hz]
  have g0 : x.toInt ≠ 0 := fun e => e0 (Int32.toInt_inj.mp (e.trans (by decide)))
  have g1 : x.toInt ≠ 1 := fun e => e1 (Int32.toInt_inj.mp (e.trans (by decide)))
  have g2 : x.toInt ≠ 2 := fun e => e2 (Int32.toInt_inj.mp (e.trans (by decide)))
  have g3 : x.toInt ≠ 3 := fun e => e3 (Int32.toInt_inj.mp (e.trans (by decide)))
  have g4 : x.toInt ≠ 4 := fun e => e4 (Int32.toInt_inj.mp (e.trans (by decide)))
  have g5 : x.toInt ≠ 5 := fun e => e5 (Int32.toInt_inj.mp (e.trans (by decide)))
  have g6 : x.toInt ≠ 6 := fun e => e6 (Int32.toInt_inj.mp (e.trans (by decide)))
  unfold zsw
  rw [if_pos (by omega)]
  decide
theorem za184 : zLA 184 = 99 := by decide +kernel
theorem zi_11_265 : zI 11 265 = some (1431655765 : Int32) := by decide +kernel
theorem zi_11_266 : zI 11 266 = some (858993459 : Int32) := by decide +kernel
theorem zi_11_267 : zI 11 267 = some (252645135 : Int32) := by decide +kernel
theorem cb_63 : (Int8.ofInt (63)).toInt32 = (63 : Int32) := by decide
theorem zm185 : zM 185 = some (yL_law, cL_law, 4, (some .boolean), 12, 9, 310) := rfl
theorem za185 : zLA 185 = 99 := by decide +kernel
theorem cb_31 : (Int8.ofInt (31)).toInt32 = (31 : Int32) := by decide
theorem sw_185_33 (x : Int32) : zsw 33 955 0 30 #[139, 162, 175, 188, 221, 254, 287, 320, 353, 386, 419, 442, 465, 478, 501, 524, 547, 570, 583, 616, 639, 652, 665, 718, 741, 764, 839, 872, 895, 918, 941] x = some (zcs x 988 [((0 : Int32), 172), ((1 : Int32), 195), ((2 : Int32), 208), ((3 : Int32), 221), ((4 : Int32), 254), ((5 : Int32), 287), ((6 : Int32), 320), ((7 : Int32), 353), ((8 : Int32), 386), ((9 : Int32), 419), ((10 : Int32), 452), ((11 : Int32), 475), ((12 : Int32), 498), ((13 : Int32), 511), ((14 : Int32), 534), ((15 : Int32), 557), ((16 : Int32), 580), ((17 : Int32), 603), ((18 : Int32), 616), ((19 : Int32), 649), ((20 : Int32), 672), ((21 : Int32), 685), ((22 : Int32), 698), ((23 : Int32), 751), ((24 : Int32), 774), ((25 : Int32), 797), ((26 : Int32), 872), ((27 : Int32), 905), ((28 : Int32), 928), ((29 : Int32), 951), ((30 : Int32), 974)]) := by
  by_cases e0 : x = 0
  · subst e0; decide +kernel
  by_cases e1 : x = 1
  · subst e1; decide +kernel
  by_cases e2 : x = 2
  · subst e2; decide +kernel
  by_cases e3 : x = 3
  · subst e3; decide +kernel
  by_cases e4 : x = 4
  · subst e4; decide +kernel
  by_cases e5 : x = 5
  · subst e5; decide +kernel
  by_cases e6 : x = 6
  · subst e6; decide +kernel
  by_cases e7 : x = 7
  · subst e7; decide +kernel
  by_cases e8 : x = 8
  · subst e8; decide +kernel
  by_cases e9 : x = 9
  · subst e9; decide +kernel
  by_cases e10 : x = 10
  · subst e10; decide +kernel
  by_cases e11 : x = 11
  · subst e11; decide +kernel
  by_cases e12 : x = 12
  · subst e12; decide +kernel
  by_cases e13 : x = 13
  · subst e13; decide +kernel
  by_cases e14 : x = 14
  · subst e14; decide +kernel
  by_cases e15 : x = 15
  · subst e15; decide +kernel
  by_cases e16 : x = 16
  · subst e16; decide +kernel
  by_cases e17 : x = 17
  · subst e17; decide +kernel
  by_cases e18 : x = 18
  · subst e18; decide +kernel
  by_cases e19 : x = 19
  · subst e19; decide +kernel
  by_cases e20 : x = 20
  · subst e20; decide +kernel
  by_cases e21 : x = 21
  · subst e21; decide +kernel
  by_cases e22 : x = 22
  · subst e22; decide +kernel
  by_cases e23 : x = 23
  · subst e23; decide +kernel
  by_cases e24 : x = 24
  · subst e24; decide +kernel
  by_cases e25 : x = 25
  · subst e25; decide +kernel
  by_cases e26 : x = 26
  · subst e26; decide +kernel
  by_cases e27 : x = 27
  · subst e27; decide +kernel
  by_cases e28 : x = 28
  · subst e28; decide +kernel
  by_cases e29 : x = 29
  · subst e29; decide +kernel
  by_cases e30 : x = 30
  · subst e30; decide +kernel
  have hz : zcs x 988 [((0 : Int32), 172), ((1 : Int32), 195), ((2 : Int32), 208), ((3 : Int32), 221), ((4 : Int32), 254), ((5 : Int32), 287), ((6 : Int32), 320), ((7 : Int32), 353), ((8 : Int32), 386), ((9 : Int32), 419), ((10 : Int32), 452), ((11 : Int32), 475), ((12 : Int32), 498), ((13 : Int32), 511), ((14 : Int32), 534), ((15 : Int32), 557), ((16 : Int32), 580), ((17 : Int32), 603), ((18 : Int32), 616), ((19 : Int32), 649), ((20 : Int32), 672), ((21 : Int32), 685), ((22 : Int32), 698), ((23 : Int32), 751), ((24 : Int32), 774), ((25 : Int32), 797), ((26 : Int32), 872), ((27 : Int32), 905), ((28 : Int32), 928), ((29 : Int32), 951), ((30 : Int32), 974)] = 988 := by simp [zcs, e0, e1, e2, e3, e4, e5, e6, e7, e8, e9, e10, e11, e12, e13, e14, e15, e16, e17, e18, e19, e20, e21, e22, e23, e24, e25, e26, e27, e28, e29, e30]
  rw [hz]
  have g0 : x.toInt ≠ 0 := fun e => e0 (Int32.toInt_inj.mp (e.trans (by decide)))
  have g1 : x.toInt ≠ 1 := fun e => e1 (Int32.toInt_inj.mp (e.trans (by decide)))
  have g2 : x.toInt ≠ 2 := fun e => e2 (Int32.toInt_inj.mp (e.trans (by decide)))
  have g3 : x.toInt ≠ 3 := fun e => e3 (Int32.toInt_inj.mp (e.trans (by decide)))
  have g4 : x.toInt ≠ 4 := fun e => e4 (Int32.toInt_inj.mp (e.trans (by decide)))
  have g5 : x.toInt ≠ 5 := fun e => e5 (Int32.toInt_inj.mp (e.trans (by decide)))
  have g6 : x.toInt ≠ 6 := fun e => e6 (Int32.toInt_inj.mp (e.trans (by decide)))
  have g7 : x.toInt ≠ 7 := fun e => e7 (Int32.toInt_inj.mp (e.trans (by decide)))
  have g8 : x.toInt ≠ 8 := fun e => e8 (Int32.toInt_inj.mp (e.trans (by decide)))
  have g9 : x.toInt ≠ 9 := fun e => e9 (Int32.toInt_inj.mp (e.trans (by decide)))
  have g10 : x.toInt ≠ 10 := fun e => e10 (Int32.toInt_inj.mp (e.trans (by decide)))
  have g11 : x.toInt ≠ 11 := fun e => e11 (Int32.toInt_inj.mp (e.trans (by decide)))
  have g12 : x.toInt ≠ 12 := fun e => e12 (Int32.toInt_inj.mp (e.trans (by decide)))
  have g13 : x.toInt ≠ 13 := fun e => e13 (Int32.toInt_inj.mp (e.trans (by decide)))
  have g14 : x.toInt ≠ 14 := fun e => e14 (Int32.toInt_inj.mp (e.trans (by decide)))
  have g15 : x.toInt ≠ 15 := fun e => e15 (Int32.toInt_inj.mp (e.trans (by decide)))
  have g16 : x.toInt ≠ 16 := fun e => e16 (Int32.toInt_inj.mp (e.trans (by decide)))
  have g17 : x.toInt ≠ 17 := fun e => e17 (Int32.toInt_inj.mp (e.trans (by decide)))
  have g18 : x.toInt ≠ 18 := fun e => e18 (Int32.toInt_inj.mp (e.trans (by decide)))
  have g19 : x.toInt ≠ 19 := fun e => e19 (Int32.toInt_inj.mp (e.trans (by decide)))
  have g20 : x.toInt ≠ 20 := fun e => e20 (Int32.toInt_inj.mp (e.trans (by decide)))
  have g21 : x.toInt ≠ 21 := fun e => e21 (Int32.toInt_inj.mp (e.trans (by decide)))
  have g22 : x.toInt ≠ 22 := fun e => e22 (Int32.toInt_inj.mp (e.trans (by decide)))
  have g23 : x.toInt ≠ 23 := fun e => e23 (Int32.toInt_inj.mp (e.trans (by decide)))
  have g24 : x.toInt ≠ 24 := fun e => e24 (Int32.toInt_inj.mp (e.trans (by decide)))
  have g25 : x.toInt ≠ 25 := fun e => e25 (Int32.toInt_inj.mp (e.trans (by decide)))
  have g26 : x.toInt ≠ 26 := fun e => e26 (Int32.toInt_inj.mp (e.trans (by decide)))
  have g27 : x.toInt ≠ 27 := fun e => e27 (Int32.toInt_inj.mp (e.trans (by decide)))
  have g28 : x.toInt ≠ 28 := fun e => e28 (Int32.toInt_inj.mp (e.trans (by decide)))
  have g29 : x.toInt ≠ 29 := fun e => e29 (Int32.toInt_inj.mp (e.trans (by decide)))
  have g30 : x.toInt ≠ 30 := fun e => e30 (Int32.toInt_inj.mp (e.trans (by decide)))
  unfold zsw
  rw [if_pos (by omega)]
  decide
theorem ci_7 : Int32.ofInt (7) = (7 : Int32) := by decide
theorem r12_138 : zMr 12 138 = some (104, 0, 0) := by decide +kernel
theorem r12_142 : zMr 12 142 = some (180, 0, 0) := by decide +kernel
theorem r12_134 : zMr 12 134 = some (103, 0, 1) := by decide +kernel
theorem r12_137 : zMr 12 137 = some (183, 0, 1) := by decide +kernel
theorem r12_130 : zMr 12 130 = some (102, 0, 1) := by decide +kernel
theorem r12_133 : zMr 12 133 = some (182, 0, 1) := by decide +kernel
theorem r12_126 : zMr 12 126 = some (101, 0, 1) := by decide +kernel
theorem r12_129 : zMr 12 129 = some (181, 0, 1) := by decide +kernel
theorem r12_122 : zMr 12 122 = some (100, 0, 2) := by decide +kernel
theorem r12_125 : zMr 12 125 = some (179, 0, 2) := by decide +kernel
theorem r12_117 : zMr 12 117 = some (99, 0, 6) := by decide +kernel
theorem r12_121 : zMr 12 121 = some (177, 0, 6) := by decide +kernel
theorem r12_113 : zMr 12 113 = some (98, 0, 1) := by decide +kernel
theorem r12_116 : zMr 12 116 = some (175, 0, 1) := by decide +kernel
theorem r12_109 : zMr 12 109 = some (97, 0, 1) := by decide +kernel
theorem r12_112 : zMr 12 112 = some (173, 0, 1) := by decide +kernel
theorem r12_104 : zMr 12 104 = some (96, 0, 4) := by decide +kernel
theorem r12_108 : zMr 12 108 = some (171, 0, 4) := by decide +kernel
theorem r12_100 : zMr 12 100 = some (95, 0, 0) := by decide +kernel
theorem r12_103 : zMr 12 103 = some (168, 0, 0) := by decide +kernel
theorem r12_96 : zMr 12 96 = some (94, 0, 0) := by decide +kernel
theorem r12_99 : zMr 12 99 = some (166, 0, 0) := by decide +kernel
theorem r12_92 : zMr 12 92 = some (93, 0, 1) := by decide +kernel
theorem r12_95 : zMr 12 95 = some (165, 0, 1) := by decide +kernel
theorem r12_88 : zMr 12 88 = some (92, 0, 2) := by decide +kernel
theorem r12_91 : zMr 12 91 = some (163, 0, 2) := by decide +kernel
theorem r12_84 : zMr 12 84 = some (91, 0, 0) := by decide +kernel
theorem r12_87 : zMr 12 87 = some (162, 0, 0) := by decide +kernel
theorem r12_80 : zMr 12 80 = some (90, 0, 1) := by decide +kernel
theorem r12_83 : zMr 12 83 = some (161, 0, 1) := by decide +kernel
theorem r12_76 : zMr 12 76 = some (89, 0, 1) := by decide +kernel
theorem r12_79 : zMr 12 79 = some (160, 0, 1) := by decide +kernel
theorem r12_72 : zMr 12 72 = some (88, 0, 1) := by decide +kernel
theorem r12_75 : zMr 12 75 = some (159, 0, 1) := by decide +kernel
theorem r12_68 : zMr 12 68 = some (87, 0, 1) := by decide +kernel
theorem r12_71 : zMr 12 71 = some (158, 0, 1) := by decide +kernel
theorem r12_64 : zMr 12 64 = some (86, 0, 0) := by decide +kernel
theorem r12_67 : zMr 12 67 = some (152, 0, 0) := by decide +kernel
theorem r12_60 : zMr 12 60 = some (85, 0, 1) := by decide +kernel
theorem r12_63 : zMr 12 63 = some (151, 0, 1) := by decide +kernel
theorem r12_56 : zMr 12 56 = some (84, 0, 1) := by decide +kernel
theorem r12_59 : zMr 12 59 = some (150, 0, 1) := by decide +kernel
theorem r12_52 : zMr 12 52 = some (83, 0, 2) := by decide +kernel
theorem r12_55 : zMr 12 55 = some (149, 0, 2) := by decide +kernel
theorem r12_48 : zMr 12 48 = some (82, 0, 2) := by decide +kernel
theorem r12_51 : zMr 12 51 = some (148, 0, 2) := by decide +kernel
theorem r12_44 : zMr 12 44 = some (81, 0, 2) := by decide +kernel
theorem r12_47 : zMr 12 47 = some (147, 0, 2) := by decide +kernel
theorem r12_40 : zMr 12 40 = some (80, 0, 2) := by decide +kernel
theorem r12_43 : zMr 12 43 = some (144, 0, 2) := by decide +kernel
theorem r12_36 : zMr 12 36 = some (79, 0, 2) := by decide +kernel
theorem r12_39 : zMr 12 39 = some (143, 0, 2) := by decide +kernel
theorem r12_32 : zMr 12 32 = some (78, 0, 2) := by decide +kernel
theorem r12_35 : zMr 12 35 = some (142, 0, 2) := by decide +kernel
theorem r12_27 : zMr 12 27 = some (77, 0, 2) := by decide +kernel
theorem r12_31 : zMr 12 31 = some (141, 0, 2) := by decide +kernel
theorem r12_23 : zMr 12 23 = some (76, 0, 0) := by decide +kernel
theorem r12_26 : zMr 12 26 = some (130, 0, 0) := by decide +kernel
theorem r12_18 : zMr 12 18 = some (75, 0, 0) := by decide +kernel
theorem r12_22 : zMr 12 22 = some (122, 0, 0) := by decide +kernel
theorem r12_13 : zMr 12 13 = some (74, 0, 1) := by decide +kernel
theorem r12_17 : zMr 12 17 = some (121, 0, 1) := by decide +kernel
