/-! HarpFences$Choices.alike ()I: method 1 -/
theorem b1_0 (sc : zScr) (i : Nat → Nat → Int32) (b : Bool) (l : Nat → Nat → Int64) : zev sc (1, 0, [some (.ref 75), none, none], [], (197, i, (zRF b), l)) = (zev sc (4, 0, [some (.ref 75), none, none], [], (197, i, (zRF b), l))).bind (fun x => zev sc (1, 4, [some (.ref 75), none, none], [], x.2)) := by
  refine (ze_aload_n 1 zm1 dX0_alike_0 rfl rfl).trans ?_
  exact ze_virtV (as := []) (rest := []) 4 zm1 dX0_alike_1 r0_38 zm4 rfl rfl k75_0 rfl rfl rfl rfl
theorem b1_4 (sc : zScr) (i : Nat → Nat → Int32) (b : Bool) (l : Nat → Nat → Int64) : zev sc (1, 4, [some (.ref 75), none, none], [], (197, i, (zRF b), l)) = zev sc (1, 8, [some (.ref 75), some (.int (0 : Int32)), some (.int (0 : Int32))], [], (197, i, (zRF b), l)) := by
  refine (ze_iconst 5 zm1 dX0_alike_4 ci_0 rfl).trans ?_
  refine (ze_istore_n (A := 99) (ls' := [some (.ref 75), some (.int (0 : Int32)), none]) 6 zm1 dX0_alike_5 za1 rfl rfl rfl rfl rfl).trans ?_
  refine (ze_iconst 7 zm1 dX0_alike_6 ci_0 rfl).trans ?_
  refine (ze_istore_n (A := 99) (ls' := [some (.ref 75), some (.int (0 : Int32)), some (.int (0 : Int32))]) 8 zm1 dX0_alike_7 za1 rfl rfl rfl rfl rfl).trans ?_
  rfl
theorem b1_8 (sc : zScr) (v1 : Int32) (v2 : Int32) (i : Nat → Nat → Int32) (b : Bool) (l : Nat → Nat → Int64) : zev sc (1, 8, [some (.ref 75), some (.int v1), some (.int v2)], [], (197, i, (zRF b), l)) = if (i 3 1) ≤ v2 then zev sc (1, 37, [some (.ref 75), some (.int v1), some (.int v2)], [], (197, i, (zRF b), l)) else zev sc (1, 19, [some (.ref 75), some (.int v1), some (.int v2)], [], (197, i, (zRF b), l)) := by
  refine (ze_iload_n 9 zm1 dX0_alike_8 rfl rfl).trans ?_
  refine (ze_aload_n 10 zm1 dX0_alike_9 rfl rfl).trans ?_
  refine (ze_getR 13 zm1 dX0_alike_10 f0_37 k75_0 t0_1 (rr75_1 b) rfl).trans ?_
  refine (ze_getI 16 zm1 dX0_alike_13 f0_41 k3_4 (Or.inl t4_1) rfl).trans ?_
  exact ze_icmp_ge 37 19 zm1 dX0_alike_16 (by decide) rfl
theorem b1_19 (sc : zScr) (v1 : Int32) (v2 : Int32) (i : Nat → Nat → Int32) (b : Bool) (l : Nat → Nat → Int64) (h1 : vp_in v2 8) : zev sc (1, 19, [some (.ref 75), some (.int v1), some (.int v2)], [], (197, i, (zRF b), l)) = (zev sc (184, 0, [some (.int (i 76 v2.toNatClampNeg))], [], (197, i, (zRF b), l))).bind (fun x => zev sc (1, 29, [some (.ref 75), some (.int v1), some (.int v2)], [x.1, .int v1], x.2)) := by
  refine (ze_iload_n 20 zm1 dX0_alike_19 rfl rfl).trans ?_
  refine (ze_aload_n 21 zm1 dX0_alike_20 rfl rfl).trans ?_
  refine (ze_getR 24 zm1 dX0_alike_21 f0_15 k75_0 t0_2 (rr75_2 b) rfl).trans ?_
  refine (ze_iload_n 25 zm1 dX0_alike_24 rfl rfl).trans ?_
  refine (ze_iaload (t := v2.toNatClampNeg) 26 zm1 dX0_alike_25 k76_100 n76 h1 rfl rfl).trans ?_
  exact ze_statI (as := [.int (i 76 v2.toNatClampNeg)]) (rest := [.int v1]) 29 zm1 dX0_alike_26 r0_47 zm184 rfl rfl rfl rfl rfl rfl
theorem b1_29 (sc : zScr) (v1 : Int32) (v2 : Int32) (s0 : Int32) (s1 : Int32) (i : Nat → Nat → Int32) (b : Bool) (l : Nat → Nat → Int64) : zev sc (1, 29, [some (.ref 75), some (.int v1), some (.int v2)], [.int s0, .int s1], (197, i, (zRF b), l)) = zev sc (1, 8, [some (.ref 75), some (.int (s1 + s0)), some (.int (v2 + 1))], [], (197, i, (zRF b), l)) := by
  refine (ze_iadd 30 zm1 dX0_alike_29 rfl).trans ?_
  refine (ze_istore_n (A := 99) (ls' := [some (.ref 75), some (.int (s1 + s0)), some (.int v2)]) 31 zm1 dX0_alike_30 za1 rfl rfl rfl rfl rfl).trans ?_
  refine (ze_iinc (v := (1 : Int32)) (A := 99) (ls' := [some (.ref 75), some (.int (s1 + s0)), some (.int (v2 + 1))]) 34 zm1 dX0_alike_31 rfl ci_1 za1 rfl rfl rfl rfl rfl).trans ?_
  exact ze_goto 8 zm1 dX0_alike_34 (by decide)
theorem b1_37 (sc : zScr) (v1 : Int32) (v2 : Int32) (i : Nat → Nat → Int32) (b : Bool) (l : Nat → Nat → Int64) : zev sc (1, 37, [some (.ref 75), some (.int v1), some (.int v2)], [], (197, i, (zRF b), l)) = some (.int v1, (197, i, (zRF b), l)) := by
  refine (ze_iload_n 38 zm1 dX0_alike_37 rfl rfl).trans ?_
  exact ze_ireturn zm1 dX0_alike_38 rfl
/-! HarpFences$Choices.fewestTuned ()I: method 2 -/
theorem b2_0 (sc : zScr) (i : Nat → Nat → Int32) (b : Bool) (l : Nat → Nat → Int64) : zev sc (2, 0, [some (.ref 75)], [], (197, i, (zRF b), l)) = (zev sc (4, 0, [some (.ref 75), none, none], [], (197, i, (zRF b), l))).bind (fun x => zev sc (2, 4, [some (.ref 75)], [], x.2)) := by
  refine (ze_aload_n 1 zm2 dX0_fewestTuned_0 rfl rfl).trans ?_
  exact ze_virtV (as := []) (rest := []) 4 zm2 dX0_fewestTuned_1 r0_38 zm4 rfl rfl k75_0 rfl rfl rfl rfl
theorem b2_4 (sc : zScr) (i : Nat → Nat → Int32) (b : Bool) (l : Nat → Nat → Int64) : zev sc (2, 4, [some (.ref 75)], [], (197, i, (zRF b), l)) = (zev sc (6, 0, [some (.ref 75), some (.int (i 3 1)), none, none], [], (197, i, (zRF b), l))).bind (fun x => zev sc (2, 15, [some (.ref 75)], [x.1], x.2)) := by
  refine (ze_aload_n 5 zm2 dX0_fewestTuned_4 rfl rfl).trans ?_
  refine (ze_aload_n 6 zm2 dX0_fewestTuned_5 rfl rfl).trans ?_
  refine (ze_getR 9 zm2 dX0_fewestTuned_6 f0_37 k75_0 t0_1 (rr75_1 b) rfl).trans ?_
  refine (ze_getI 12 zm2 dX0_fewestTuned_9 f0_41 k3_4 (Or.inl t4_1) rfl).trans ?_
  exact ze_virtI (as := [.int (i 3 1)]) (rest := []) 15 zm2 dX0_fewestTuned_12 r0_53 zm6 rfl rfl k75_0 rfl rfl rfl rfl
theorem b2_15 (sc : zScr) (s0 : Int32) (i : Nat → Nat → Int32) (b : Bool) (l : Nat → Nat → Int64) : zev sc (2, 15, [some (.ref 75)], [.int s0], (197, i, (zRF b), l)) = some (.int s0, (197, i, (zRF b), l)) := by
  exact ze_ireturn zm2 dX0_fewestTuned_15 rfl
/-! HarpFences$Choices.fewestEars ()I: method 3 -/
theorem b3_0 (sc : zScr) (i : Nat → Nat → Int32) (b : Bool) (l : Nat → Nat → Int64) : zev sc (3, 0, [some (.ref 75), none], [], (197, i, (zRF b), l)) = zev sc (3, 2, [some (.ref 75), some (.int (0 : Int32))], [], (197, i, (zRF b), l)) := by
  refine (ze_iconst 1 zm3 dX0_fewestEars_0 ci_0 rfl).trans ?_
  refine (ze_istore_n (A := 99) (ls' := [some (.ref 75), some (.int (0 : Int32))]) 2 zm3 dX0_fewestEars_1 za3 rfl rfl rfl rfl rfl).trans ?_
  rfl
theorem b3_2 (sc : zScr) (v1 : Int32) (i : Nat → Nat → Int32) (b : Bool) (l : Nat → Nat → Int64) : zev sc (3, 2, [some (.ref 75), some (.int v1)], [], (197, i, (zRF b), l)) = if (i 3 0) ≤ v1 then zev sc (3, 26, [some (.ref 75), some (.int v1)], [], (197, i, (zRF b), l)) else zev sc (3, 13, [some (.ref 75), some (.int v1)], [], (197, i, (zRF b), l)) := by
  refine (ze_iload_n 3 zm3 dX0_fewestEars_2 rfl rfl).trans ?_
  refine (ze_aload_n 4 zm3 dX0_fewestEars_3 rfl rfl).trans ?_
  refine (ze_getR 7 zm3 dX0_fewestEars_4 f0_37 k75_0 t0_1 (rr75_1 b) rfl).trans ?_
  refine (ze_getI 10 zm3 dX0_fewestEars_7 f0_56 k3_4 (Or.inl t4_0) rfl).trans ?_
  exact ze_icmp_ge 26 13 zm3 dX0_fewestEars_10 (by decide) rfl
theorem b3_13 (sc : zScr) (v1 : Int32) (i : Nat → Nat → Int32) (b : Bool) (l : Nat → Nat → Int64) (h1 : vp_in v1 8) : zev sc (3, 13, [some (.ref 75), some (.int v1)], [], (197, i, (zRF b), l)) = zev sc (3, 2, [some (.ref 75), some (.int (v1 + 1))], [], (197, (zU i 76 v1.toNatClampNeg (0 : Int32)), (zRF b), l)) := by
  refine (ze_aload_n 14 zm3 dX0_fewestEars_13 rfl rfl).trans ?_
  refine (ze_getR 17 zm3 dX0_fewestEars_14 f0_15 k75_0 t0_2 (rr75_2 b) rfl).trans ?_
  refine (ze_iload_n 18 zm3 dX0_fewestEars_17 rfl rfl).trans ?_
  refine (ze_iconst 19 zm3 dX0_fewestEars_18 ci_0 rfl).trans ?_
  refine (ze_iastore (t := v1.toNatClampNeg) 20 zm3 dX0_fewestEars_19 k76_100 n76 h1 rfl rfl).trans ?_
  refine (ze_iinc (v := (1 : Int32)) (A := 99) (ls' := [some (.ref 75), some (.int (v1 + 1))]) 23 zm3 dX0_fewestEars_20 rfl ci_1 za3 rfl rfl rfl rfl rfl).trans ?_
  exact ze_goto 2 zm3 dX0_fewestEars_23 (by decide)
theorem b3_26 (sc : zScr) (v1 : Int32) (i : Nat → Nat → Int32) (b : Bool) (l : Nat → Nat → Int64) : zev sc (3, 26, [some (.ref 75), some (.int v1)], [], (197, i, (zRF b), l)) = zev sc (3, 28, [some (.ref 75), some (.int (0 : Int32))], [], (197, i, (zRF b), l)) := by
  refine (ze_iconst 27 zm3 dX0_fewestEars_26 ci_0 rfl).trans ?_
  refine (ze_istore_n (A := 99) (ls' := [some (.ref 75), some (.int (0 : Int32))]) 28 zm3 dX0_fewestEars_27 za3 rfl rfl rfl rfl rfl).trans ?_
  rfl
theorem b3_28 (sc : zScr) (v1 : Int32) (i : Nat → Nat → Int32) (b : Bool) (l : Nat → Nat → Int64) : zev sc (3, 28, [some (.ref 75), some (.int v1)], [], (197, i, (zRF b), l)) = if (i 3 1) ≤ v1 then zev sc (3, 84, [some (.ref 75), some (.int v1)], [], (197, i, (zRF b), l)) else zev sc (3, 39, [some (.ref 75), some (.int v1)], [], (197, i, (zRF b), l)) := by
  refine (ze_iload_n 29 zm3 dX0_fewestEars_28 rfl rfl).trans ?_
  refine (ze_aload_n 30 zm3 dX0_fewestEars_29 rfl rfl).trans ?_
  refine (ze_getR 33 zm3 dX0_fewestEars_30 f0_37 k75_0 t0_1 (rr75_1 b) rfl).trans ?_
  refine (ze_getI 36 zm3 dX0_fewestEars_33 f0_41 k3_4 (Or.inl t4_1) rfl).trans ?_
  exact ze_icmp_ge 84 39 zm3 dX0_fewestEars_36 (by decide) rfl
theorem b3_39 (sc : zScr) (v1 : Int32) (i : Nat → Nat → Int32) (b : Bool) (l : Nat → Nat → Int64) : zev sc (3, 39, [some (.ref 75), some (.int v1)], [], (197, i, (zRF b), l)) = (zev sc (14, 0, [some (.ref 23), some (.int v1)], [], (197, i, (zRF b), l))).bind (fun x => zev sc (3, 47, [some (.ref 75), some (.int v1)], [x.1], x.2)) := by
  refine (ze_aload_n 40 zm3 dX0_fewestEars_39 rfl rfl).trans ?_
  refine (ze_getR 43 zm3 dX0_fewestEars_40 f0_27 k75_0 t0_0 (rr75_0 b) rfl).trans ?_
  refine (ze_iload_n 44 zm3 dX0_fewestEars_43 rfl rfl).trans ?_
  exact ze_virtI (as := [.int v1]) (rest := []) 47 zm3 dX0_fewestEars_44 r0_59 zm14 rfl rfl k23_1 rfl rfl rfl rfl
theorem b3_47 (sc : zScr) (v1 : Int32) (s0 : Int32) (i : Nat → Nat → Int32) (b : Bool) (l : Nat → Nat → Int64) : zev sc (3, 47, [some (.ref 75), some (.int v1)], [.int s0], (197, i, (zRF b), l)) = if s0 = 0 then zev sc (3, 78, [some (.ref 75), some (.int v1)], [], (197, i, (zRF b), l)) else zev sc (3, 50, [some (.ref 75), some (.int v1)], [], (197, i, (zRF b), l)) := by
  exact ze_if_eq 78 50 zm3 dX0_fewestEars_47 (by decide) rfl
theorem b3_50 (sc : zScr) (v1 : Int32) (i : Nat → Nat → Int32) (b : Bool) (l : Nat → Nat → Int64) (h1 : vp_in v1 8) (h2 : vp_in (i 4 v1.toNatClampNeg) 8) : zev sc (3, 50, [some (.ref 75), some (.int v1)], [], (197, i, (zRF b), l)) = zev sc (3, 78, [some (.ref 75), some (.int v1)], [], (197, (zU i 76 ((i 4 v1.toNatClampNeg)).toNatClampNeg ((i 76 ((i 4 v1.toNatClampNeg)).toNatClampNeg) ||| ((1 : Int32) <<< ((i 5 v1.toNatClampNeg) &&& 31)))), (zRF b), l)) := by
  refine (ze_aload_n 51 zm3 dX0_fewestEars_50 rfl rfl).trans ?_
  refine (ze_getR 54 zm3 dX0_fewestEars_51 f0_15 k75_0 t0_2 (rr75_2 b) rfl).trans ?_
  refine (ze_aload_n 55 zm3 dX0_fewestEars_54 rfl rfl).trans ?_
  refine (ze_getR 58 zm3 dX0_fewestEars_55 f0_37 k75_0 t0_1 (rr75_1 b) rfl).trans ?_
  refine (ze_getR 61 zm3 dX0_fewestEars_58 f0_63 k3_4 t4_2 (rr3_2 b) rfl).trans ?_
  refine (ze_iload_n 62 zm3 dX0_fewestEars_61 rfl rfl).trans ?_
  refine (ze_iaload (t := v1.toNatClampNeg) 63 zm3 dX0_fewestEars_62 k4_100 n4 h1 rfl rfl).trans ?_
  refine (ze_dup2 64 zm3 dX0_fewestEars_63 rfl rfl rfl).trans ?_
  refine (ze_iaload (t := ((i 4 v1.toNatClampNeg)).toNatClampNeg) 65 zm3 dX0_fewestEars_64 k76_100 n76 h2 rfl rfl).trans ?_
  refine (ze_iconst 66 zm3 dX0_fewestEars_65 ci_1 rfl).trans ?_
  refine (ze_aload_n 67 zm3 dX0_fewestEars_66 rfl rfl).trans ?_
  refine (ze_getR 70 zm3 dX0_fewestEars_67 f0_37 k75_0 t0_1 (rr75_1 b) rfl).trans ?_
  refine (ze_getR 73 zm3 dX0_fewestEars_70 f0_66 k3_4 t4_3 (rr3_3 b) rfl).trans ?_
  refine (ze_iload_n 74 zm3 dX0_fewestEars_73 rfl rfl).trans ?_
  refine (ze_iaload (t := v1.toNatClampNeg) 75 zm3 dX0_fewestEars_74 k5_100 n5 h1 rfl rfl).trans ?_
  refine (ze_ishl 76 zm3 dX0_fewestEars_75 rfl).trans ?_
  refine (ze_ior 77 zm3 dX0_fewestEars_76 rfl).trans ?_
  refine (ze_iastore (t := ((i 4 v1.toNatClampNeg)).toNatClampNeg) 78 zm3 dX0_fewestEars_77 k76_100 n76 h2 rfl rfl).trans ?_
  rfl
theorem b3_78 (sc : zScr) (v1 : Int32) (i : Nat → Nat → Int32) (b : Bool) (l : Nat → Nat → Int64) : zev sc (3, 78, [some (.ref 75), some (.int v1)], [], (197, i, (zRF b), l)) = zev sc (3, 28, [some (.ref 75), some (.int (v1 + 1))], [], (197, i, (zRF b), l)) := by
  refine (ze_iinc (v := (1 : Int32)) (A := 99) (ls' := [some (.ref 75), some (.int (v1 + 1))]) 81 zm3 dX0_fewestEars_78 rfl ci_1 za3 rfl rfl rfl rfl rfl).trans ?_
  exact ze_goto 28 zm3 dX0_fewestEars_81 (by decide)
theorem b3_84 (sc : zScr) (v1 : Int32) (i : Nat → Nat → Int32) (b : Bool) (l : Nat → Nat → Int64) : zev sc (3, 84, [some (.ref 75), some (.int v1)], [], (197, i, (zRF b), l)) = (zev sc (6, 0, [some (.ref 75), some (.int (i 3 0)), none, none], [], (197, i, (zRF b), l))).bind (fun x => zev sc (3, 95, [some (.ref 75), some (.int v1)], [x.1], x.2)) := by
  refine (ze_aload_n 85 zm3 dX0_fewestEars_84 rfl rfl).trans ?_
  refine (ze_aload_n 86 zm3 dX0_fewestEars_85 rfl rfl).trans ?_
  refine (ze_getR 89 zm3 dX0_fewestEars_86 f0_37 k75_0 t0_1 (rr75_1 b) rfl).trans ?_
  refine (ze_getI 92 zm3 dX0_fewestEars_89 f0_56 k3_4 (Or.inl t4_0) rfl).trans ?_
  exact ze_virtI (as := [.int (i 3 0)]) (rest := []) 95 zm3 dX0_fewestEars_92 r0_53 zm6 rfl rfl k75_0 rfl rfl rfl rfl
theorem b3_95 (sc : zScr) (v1 : Int32) (s0 : Int32) (i : Nat → Nat → Int32) (b : Bool) (l : Nat → Nat → Int64) : zev sc (3, 95, [some (.ref 75), some (.int v1)], [.int s0], (197, i, (zRF b), l)) = some (.int s0, (197, i, (zRF b), l)) := by
  exact ze_ireturn zm3 dX0_fewestEars_95 rfl
/-! HarpFences$Choices.partnerAlikes ()V: method 4 -/
theorem b4_0 (sc : zScr) (i : Nat → Nat → Int32) (b : Bool) (l : Nat → Nat → Int64) : zev sc (4, 0, [some (.ref 75), none, none], [], (197, i, (zRF b), l)) = zev sc (4, 2, [some (.ref 75), some (.int (0 : Int32)), none], [], (197, i, (zRF b), l)) := by
  refine (ze_iconst 1 zm4 dX0_partnerAlikes_0 ci_0 rfl).trans ?_
  refine (ze_istore_n (A := 99) (ls' := [some (.ref 75), some (.int (0 : Int32)), none]) 2 zm4 dX0_partnerAlikes_1 za4 rfl rfl rfl rfl rfl).trans ?_
  rfl
theorem b4_2 (sc : zScr) (v1 : Int32) (w2 : Option Value) (i : Nat → Nat → Int32) (b : Bool) (l : Nat → Nat → Int64) : zev sc (4, 2, [some (.ref 75), some (.int v1), w2], [], (197, i, (zRF b), l)) = if (i 3 1) ≤ v1 then zev sc (4, 68, [some (.ref 75), some (.int v1), w2], [], (197, i, (zRF b), l)) else zev sc (4, 13, [some (.ref 75), some (.int v1), w2], [], (197, i, (zRF b), l)) := by
  refine (ze_iload_n 3 zm4 dX0_partnerAlikes_2 rfl rfl).trans ?_
  refine (ze_aload_n 4 zm4 dX0_partnerAlikes_3 rfl rfl).trans ?_
  refine (ze_getR 7 zm4 dX0_partnerAlikes_4 f0_37 k75_0 t0_1 (rr75_1 b) rfl).trans ?_
  refine (ze_getI 10 zm4 dX0_partnerAlikes_7 f0_41 k3_4 (Or.inl t4_1) rfl).trans ?_
  exact ze_icmp_ge 68 13 zm4 dX0_partnerAlikes_10 (by decide) rfl
theorem b4_13 (sc : zScr) (v1 : Int32) (w2 : Option Value) (i : Nat → Nat → Int32) (b : Bool) (l : Nat → Nat → Int64) (h1 : vp_in v1 8) : zev sc (4, 13, [some (.ref 75), some (.int v1), w2], [], (197, i, (zRF b), l)) = zev sc (4, 24, [some (.ref 75), some (.int v1), some (.int (v1 + (1 : Int32)))], [], (197, (zU i 76 v1.toNatClampNeg (0 : Int32)), (zRF b), l)) := by
  refine (ze_aload_n 14 zm4 dX0_partnerAlikes_13 rfl rfl).trans ?_
  refine (ze_getR 17 zm4 dX0_partnerAlikes_14 f0_15 k75_0 t0_2 (rr75_2 b) rfl).trans ?_
  refine (ze_iload_n 18 zm4 dX0_partnerAlikes_17 rfl rfl).trans ?_
  refine (ze_iconst 19 zm4 dX0_partnerAlikes_18 ci_0 rfl).trans ?_
  refine (ze_iastore (t := v1.toNatClampNeg) 20 zm4 dX0_partnerAlikes_19 k76_100 n76 h1 rfl rfl).trans ?_
  refine (ze_iload_n 21 zm4 dX0_partnerAlikes_20 rfl rfl).trans ?_
  refine (ze_iconst 22 zm4 dX0_partnerAlikes_21 ci_1 rfl).trans ?_
  refine (ze_iadd 23 zm4 dX0_partnerAlikes_22 rfl).trans ?_
  refine (ze_istore_n (A := 99) (ls' := [some (.ref 75), some (.int v1), some (.int (v1 + (1 : Int32)))]) 24 zm4 dX0_partnerAlikes_23 za4 rfl rfl rfl rfl rfl).trans ?_
  rfl
theorem b4_24 (sc : zScr) (v1 : Int32) (v2 : Int32) (i : Nat → Nat → Int32) (b : Bool) (l : Nat → Nat → Int64) : zev sc (4, 24, [some (.ref 75), some (.int v1), some (.int v2)], [], (197, i, (zRF b), l)) = if (i 3 1) ≤ v2 then zev sc (4, 62, [some (.ref 75), some (.int v1), some (.int v2)], [], (197, i, (zRF b), l)) else zev sc (4, 35, [some (.ref 75), some (.int v1), some (.int v2)], [], (197, i, (zRF b), l)) := by
  refine (ze_iload_n 25 zm4 dX0_partnerAlikes_24 rfl rfl).trans ?_
  refine (ze_aload_n 26 zm4 dX0_partnerAlikes_25 rfl rfl).trans ?_
  refine (ze_getR 29 zm4 dX0_partnerAlikes_26 f0_37 k75_0 t0_1 (rr75_1 b) rfl).trans ?_
  refine (ze_getI 32 zm4 dX0_partnerAlikes_29 f0_41 k3_4 (Or.inl t4_1) rfl).trans ?_
  exact ze_icmp_ge 62 35 zm4 dX0_partnerAlikes_32 (by decide) rfl
theorem b4_35 (sc : zScr) (v1 : Int32) (v2 : Int32) (i : Nat → Nat → Int32) (b : Bool) (l : Nat → Nat → Int64) : zev sc (4, 35, [some (.ref 75), some (.int v1), some (.int v2)], [], (197, i, (zRF b), l)) = (zev sc (5, 0, [some (.ref 75), some (.int v1), some (.int v2)], [], (197, i, (zRF b), l))).bind (fun x => zev sc (4, 41, [some (.ref 75), some (.int v1), some (.int v2)], [x.1], x.2)) := by
  refine (ze_aload_n 36 zm4 dX0_partnerAlikes_35 rfl rfl).trans ?_
  refine (ze_iload_n 37 zm4 dX0_partnerAlikes_36 rfl rfl).trans ?_
  refine (ze_iload_n 38 zm4 dX0_partnerAlikes_37 rfl rfl).trans ?_
  exact ze_virtI (as := [.int v1, .int v2]) (rest := []) 41 zm4 dX0_partnerAlikes_38 r0_69 zm5 rfl rfl k75_0 rfl rfl rfl rfl
theorem b4_41 (sc : zScr) (v1 : Int32) (v2 : Int32) (s0 : Int32) (i : Nat → Nat → Int32) (b : Bool) (l : Nat → Nat → Int64) : zev sc (4, 41, [some (.ref 75), some (.int v1), some (.int v2)], [.int s0], (197, i, (zRF b), l)) = if s0 = 0 then zev sc (4, 56, [some (.ref 75), some (.int v1), some (.int v2)], [], (197, i, (zRF b), l)) else zev sc (4, 44, [some (.ref 75), some (.int v1), some (.int v2)], [], (197, i, (zRF b), l)) := by
  exact ze_if_eq 56 44 zm4 dX0_partnerAlikes_41 (by decide) rfl
theorem b4_44 (sc : zScr) (v1 : Int32) (v2 : Int32) (i : Nat → Nat → Int32) (b : Bool) (l : Nat → Nat → Int64) (h1 : vp_in v1 8) : zev sc (4, 44, [some (.ref 75), some (.int v1), some (.int v2)], [], (197, i, (zRF b), l)) = zev sc (4, 56, [some (.ref 75), some (.int v1), some (.int v2)], [], (197, (zU i 76 v1.toNatClampNeg ((i 76 v1.toNatClampNeg) ||| ((1 : Int32) <<< (v2 &&& 31)))), (zRF b), l)) := by
  refine (ze_aload_n 45 zm4 dX0_partnerAlikes_44 rfl rfl).trans ?_
  refine (ze_getR 48 zm4 dX0_partnerAlikes_45 f0_15 k75_0 t0_2 (rr75_2 b) rfl).trans ?_
  refine (ze_iload_n 49 zm4 dX0_partnerAlikes_48 rfl rfl).trans ?_
  refine (ze_dup2 50 zm4 dX0_partnerAlikes_49 rfl rfl rfl).trans ?_
  refine (ze_iaload (t := v1.toNatClampNeg) 51 zm4 dX0_partnerAlikes_50 k76_100 n76 h1 rfl rfl).trans ?_
  refine (ze_iconst 52 zm4 dX0_partnerAlikes_51 ci_1 rfl).trans ?_
  refine (ze_iload_n 53 zm4 dX0_partnerAlikes_52 rfl rfl).trans ?_
  refine (ze_ishl 54 zm4 dX0_partnerAlikes_53 rfl).trans ?_
  refine (ze_ior 55 zm4 dX0_partnerAlikes_54 rfl).trans ?_
  refine (ze_iastore (t := v1.toNatClampNeg) 56 zm4 dX0_partnerAlikes_55 k76_100 n76 h1 rfl rfl).trans ?_
  rfl
theorem b4_56 (sc : zScr) (v1 : Int32) (v2 : Int32) (i : Nat → Nat → Int32) (b : Bool) (l : Nat → Nat → Int64) : zev sc (4, 56, [some (.ref 75), some (.int v1), some (.int v2)], [], (197, i, (zRF b), l)) = zev sc (4, 24, [some (.ref 75), some (.int v1), some (.int (v2 + 1))], [], (197, i, (zRF b), l)) := by
  refine (ze_iinc (v := (1 : Int32)) (A := 99) (ls' := [some (.ref 75), some (.int v1), some (.int (v2 + 1))]) 59 zm4 dX0_partnerAlikes_56 rfl ci_1 za4 rfl rfl rfl rfl rfl).trans ?_
  exact ze_goto 24 zm4 dX0_partnerAlikes_59 (by decide)
theorem b4_62 (sc : zScr) (v1 : Int32) (v2 : Int32) (i : Nat → Nat → Int32) (b : Bool) (l : Nat → Nat → Int64) : zev sc (4, 62, [some (.ref 75), some (.int v1), some (.int v2)], [], (197, i, (zRF b), l)) = zev sc (4, 2, [some (.ref 75), some (.int (v1 + 1)), some (.int v2)], [], (197, i, (zRF b), l)) := by
  refine (ze_iinc (v := (1 : Int32)) (A := 99) (ls' := [some (.ref 75), some (.int (v1 + 1)), some (.int v2)]) 65 zm4 dX0_partnerAlikes_62 rfl ci_1 za4 rfl rfl rfl rfl rfl).trans ?_
  exact ze_goto 2 zm4 dX0_partnerAlikes_65 (by decide)
theorem b4_68 (sc : zScr) (v1 : Int32) (w2 : Option Value) (i : Nat → Nat → Int32) (b : Bool) (l : Nat → Nat → Int64) : zev sc (4, 68, [some (.ref 75), some (.int v1), w2], [], (197, i, (zRF b), l)) = some (.null, (197, i, (zRF b), l)) := by
  exact ze_return zm4 dX0_partnerAlikes_68 rfl
/-! HarpFences$Choices.areAlike (II)Z: method 5 -/
theorem b5_0 (sc : zScr) (v1 : Int32) (v2 : Int32) (i : Nat → Nat → Int32) (b : Bool) (l : Nat → Nat → Int64) : zev sc (5, 0, [some (.ref 75), some (.int v1), some (.int v2)], [], (197, i, (zRF b), l)) = (zev sc (14, 0, [some (.ref 23), some (.int v1)], [], (197, i, (zRF b), l))).bind (fun x => zev sc (5, 8, [some (.ref 75), some (.int v1), some (.int v2)], [x.1], x.2)) := by
  refine (ze_aload_n 1 zm5 dX0_areAlike_0 rfl rfl).trans ?_
  refine (ze_getR 4 zm5 dX0_areAlike_1 f0_27 k75_0 t0_0 (rr75_0 b) rfl).trans ?_
  refine (ze_iload_n 5 zm5 dX0_areAlike_4 rfl rfl).trans ?_
  exact ze_virtI (as := [.int v1]) (rest := []) 8 zm5 dX0_areAlike_5 r0_59 zm14 rfl rfl k23_1 rfl rfl rfl rfl
theorem b5_8 (sc : zScr) (v1 : Int32) (v2 : Int32) (s0 : Int32) (i : Nat → Nat → Int32) (b : Bool) (l : Nat → Nat → Int64) : zev sc (5, 8, [some (.ref 75), some (.int v1), some (.int v2)], [.int s0], (197, i, (zRF b), l)) = if s0 = 0 then zev sc (5, 73, [some (.ref 75), some (.int v1), some (.int v2)], [], (197, i, (zRF b), l)) else zev sc (5, 11, [some (.ref 75), some (.int v1), some (.int v2)], [], (197, i, (zRF b), l)) := by
  exact ze_if_eq 73 11 zm5 dX0_areAlike_8 (by decide) rfl
theorem b5_11 (sc : zScr) (v1 : Int32) (v2 : Int32) (i : Nat → Nat → Int32) (b : Bool) (l : Nat → Nat → Int64) : zev sc (5, 11, [some (.ref 75), some (.int v1), some (.int v2)], [], (197, i, (zRF b), l)) = (zev sc (14, 0, [some (.ref 23), some (.int v2)], [], (197, i, (zRF b), l))).bind (fun x => zev sc (5, 19, [some (.ref 75), some (.int v1), some (.int v2)], [x.1], x.2)) := by
  refine (ze_aload_n 12 zm5 dX0_areAlike_11 rfl rfl).trans ?_
  refine (ze_getR 15 zm5 dX0_areAlike_12 f0_27 k75_0 t0_0 (rr75_0 b) rfl).trans ?_
  refine (ze_iload_n 16 zm5 dX0_areAlike_15 rfl rfl).trans ?_
  exact ze_virtI (as := [.int v2]) (rest := []) 19 zm5 dX0_areAlike_16 r0_59 zm14 rfl rfl k23_1 rfl rfl rfl rfl
theorem b5_19 (sc : zScr) (v1 : Int32) (v2 : Int32) (s0 : Int32) (i : Nat → Nat → Int32) (b : Bool) (l : Nat → Nat → Int64) : zev sc (5, 19, [some (.ref 75), some (.int v1), some (.int v2)], [.int s0], (197, i, (zRF b), l)) = if s0 = 0 then zev sc (5, 73, [some (.ref 75), some (.int v1), some (.int v2)], [], (197, i, (zRF b), l)) else zev sc (5, 22, [some (.ref 75), some (.int v1), some (.int v2)], [], (197, i, (zRF b), l)) := by
  exact ze_if_eq 73 22 zm5 dX0_areAlike_19 (by decide) rfl
theorem b5_22 (sc : zScr) (v1 : Int32) (v2 : Int32) (i : Nat → Nat → Int32) (b : Bool) (l : Nat → Nat → Int64) (h1 : vp_in v1 8) (h2 : vp_in v2 8) : zev sc (5, 22, [some (.ref 75), some (.int v1), some (.int v2)], [], (197, i, (zRF b), l)) = if (i 21 v1.toNatClampNeg) = (i 21 v2.toNatClampNeg) then zev sc (5, 49, [some (.ref 75), some (.int v1), some (.int v2)], [], (197, i, (zRF b), l)) else zev sc (5, 73, [some (.ref 75), some (.int v1), some (.int v2)], [], (197, i, (zRF b), l)) := by
  refine (ze_aload_n 23 zm5 dX0_areAlike_22 rfl rfl).trans ?_
  refine (ze_getR 26 zm5 dX0_areAlike_23 f0_27 k75_0 t0_0 (rr75_0 b) rfl).trans ?_
  refine (ze_getR 29 zm5 dX0_areAlike_26 f0_73 k23_1 t1_1 (rr23_1 b) rfl).trans ?_
  refine (ze_getR 32 zm5 dX0_areAlike_29 f0_77 k19_7 t7_1 (rr19_1 b) rfl).trans ?_
  refine (ze_iload_n 33 zm5 dX0_areAlike_32 rfl rfl).trans ?_
  refine (ze_iaload (t := v1.toNatClampNeg) 34 zm5 dX0_areAlike_33 k21_100 n21 h1 rfl rfl).trans ?_
  refine (ze_aload_n 35 zm5 dX0_areAlike_34 rfl rfl).trans ?_
  refine (ze_getR 38 zm5 dX0_areAlike_35 f0_27 k75_0 t0_0 (rr75_0 b) rfl).trans ?_
  refine (ze_getR 41 zm5 dX0_areAlike_38 f0_73 k23_1 t1_1 (rr23_1 b) rfl).trans ?_
  refine (ze_getR 44 zm5 dX0_areAlike_41 f0_77 k19_7 t7_1 (rr19_1 b) rfl).trans ?_
  refine (ze_iload_n 45 zm5 dX0_areAlike_44 rfl rfl).trans ?_
  refine (ze_iaload (t := v2.toNatClampNeg) 46 zm5 dX0_areAlike_45 k21_100 n21 h2 rfl rfl).trans ?_
  exact ze_icmp_ne 73 49 zm5 dX0_areAlike_46 (by decide) rfl
theorem b5_49 (sc : zScr) (v1 : Int32) (v2 : Int32) (i : Nat → Nat → Int32) (b : Bool) (l : Nat → Nat → Int64) : zev sc (5, 49, [some (.ref 75), some (.int v1), some (.int v2)], [], (197, i, (zRF b), l)) = (zev sc (37, 0, [some (.ref 3), some (.int v1)], [], (197, i, (zRF b), l))).bind (fun x => zev sc (5, 57, [some (.ref 75), some (.int v1), some (.int v2)], [x.1], x.2)) := by
  refine (ze_aload_n 50 zm5 dX0_areAlike_49 rfl rfl).trans ?_
  refine (ze_getR 53 zm5 dX0_areAlike_50 f0_37 k75_0 t0_1 (rr75_1 b) rfl).trans ?_
  refine (ze_iload_n 54 zm5 dX0_areAlike_53 rfl rfl).trans ?_
  exact ze_virtI (as := [.int v1]) (rest := []) 57 zm5 dX0_areAlike_54 r0_82 zm37 rfl rfl k3_4 rfl rfl rfl rfl
theorem b5_57 (sc : zScr) (v1 : Int32) (v2 : Int32) (s0 : Int32) (i : Nat → Nat → Int32) (b : Bool) (l : Nat → Nat → Int64) : zev sc (5, 57, [some (.ref 75), some (.int v1), some (.int v2)], [.int s0], (197, i, (zRF b), l)) = (zev sc (37, 0, [some (.ref 3), some (.int v2)], [], (197, i, (zRF b), l))).bind (fun x => zev sc (5, 65, [some (.ref 75), some (.int v1), some (.int v2)], [x.1, .int s0], x.2)) := by
  refine (ze_aload_n 58 zm5 dX0_areAlike_57 rfl rfl).trans ?_
  refine (ze_getR 61 zm5 dX0_areAlike_58 f0_37 k75_0 t0_1 (rr75_1 b) rfl).trans ?_
  refine (ze_iload_n 62 zm5 dX0_areAlike_61 rfl rfl).trans ?_
  exact ze_virtI (as := [.int v2]) (rest := [.int s0]) 65 zm5 dX0_areAlike_62 r0_82 zm37 rfl rfl k3_4 rfl rfl rfl rfl
theorem b5_65 (sc : zScr) (v1 : Int32) (v2 : Int32) (s0 : Int32) (s1 : Int32) (i : Nat → Nat → Int32) (b : Bool) (l : Nat → Nat → Int64) : zev sc (5, 65, [some (.ref 75), some (.int v1), some (.int v2)], [.int s0, .int s1], (197, i, (zRF b), l)) = if (s1 &&& s0) = 0 then zev sc (5, 73, [some (.ref 75), some (.int v1), some (.int v2)], [], (197, i, (zRF b), l)) else zev sc (5, 69, [some (.ref 75), some (.int v1), some (.int v2)], [], (197, i, (zRF b), l)) := by
  refine (ze_iand 66 zm5 dX0_areAlike_65 rfl).trans ?_
  exact ze_if_eq 73 69 zm5 dX0_areAlike_66 (by decide) rfl
theorem b5_69 (sc : zScr) (v1 : Int32) (v2 : Int32) (i : Nat → Nat → Int32) (b : Bool) (l : Nat → Nat → Int64) : zev sc (5, 69, [some (.ref 75), some (.int v1), some (.int v2)], [], (197, i, (zRF b), l)) = zev sc (5, 74, [some (.ref 75), some (.int v1), some (.int v2)], [.int (1 : Int32)], (197, i, (zRF b), l)) := by
  refine (ze_iconst 70 zm5 dX0_areAlike_69 ci_1 rfl).trans ?_
  exact ze_goto 74 zm5 dX0_areAlike_70 (by decide)
theorem b5_73 (sc : zScr) (v1 : Int32) (v2 : Int32) (i : Nat → Nat → Int32) (b : Bool) (l : Nat → Nat → Int64) : zev sc (5, 73, [some (.ref 75), some (.int v1), some (.int v2)], [], (197, i, (zRF b), l)) = zev sc (5, 74, [some (.ref 75), some (.int v1), some (.int v2)], [.int (0 : Int32)], (197, i, (zRF b), l)) := by
  refine (ze_iconst 74 zm5 dX0_areAlike_73 ci_0 rfl).trans ?_
  rfl
theorem b5_74 (sc : zScr) (v1 : Int32) (v2 : Int32) (s0 : Int32) (i : Nat → Nat → Int32) (b : Bool) (l : Nat → Nat → Int64) (h1 : s0 = 0 ∨ s0 = 1) : zev sc (5, 74, [some (.ref 75), some (.int v1), some (.int v2)], [.int s0], (197, i, (zRF b), l)) = some (.int s0, (197, i, (zRF b), l)) := by
  exact ze_zreturn zm5 dX0_areAlike_74 rfl h1
/-! HarpFences$Choices.fewestOfEachTwo (I)I: method 6 -/
theorem b6_0 (sc : zScr) (v1 : Int32) (i : Nat → Nat → Int32) (b : Bool) (l : Nat → Nat → Int64) : zev sc (6, 0, [some (.ref 75), some (.int v1), none, none], [], (197, i, (zRF b), l)) = zev sc (6, 8, [some (.ref 75), some (.int v1), some (.int (((1 : Int32) <<< (v1 &&& 31)) - (1 : Int32))), some (.int (0 : Int32))], [], (197, i, (zRF b), l)) := by
  refine (ze_iconst 1 zm6 dX0_fewestOfEachTwo_0 ci_1 rfl).trans ?_
  refine (ze_iload_n 2 zm6 dX0_fewestOfEachTwo_1 rfl rfl).trans ?_
  refine (ze_ishl 3 zm6 dX0_fewestOfEachTwo_2 rfl).trans ?_
  refine (ze_iconst 4 zm6 dX0_fewestOfEachTwo_3 ci_1 rfl).trans ?_
  refine (ze_isub 5 zm6 dX0_fewestOfEachTwo_4 rfl).trans ?_
  refine (ze_istore_n (A := 99) (ls' := [some (.ref 75), some (.int v1), some (.int (((1 : Int32) <<< (v1 &&& 31)) - (1 : Int32))), none]) 6 zm6 dX0_fewestOfEachTwo_5 za6 rfl rfl rfl rfl rfl).trans ?_
  refine (ze_iconst 7 zm6 dX0_fewestOfEachTwo_6 ci_0 rfl).trans ?_
  refine (ze_istore_n (A := 99) (ls' := [some (.ref 75), some (.int v1), some (.int (((1 : Int32) <<< (v1 &&& 31)) - (1 : Int32))), some (.int (0 : Int32))]) 8 zm6 dX0_fewestOfEachTwo_7 za6 rfl rfl rfl rfl rfl).trans ?_
  rfl
theorem b6_8 (sc : zScr) (v1 : Int32) (v2 : Int32) (v3 : Int32) (i : Nat → Nat → Int32) (b : Bool) (l : Nat → Nat → Int64) : zev sc (6, 8, [some (.ref 75), some (.int v1), some (.int v2), some (.int v3)], [], (197, i, (zRF b), l)) = if ((1 : Int32) <<< (v1 &&& 31)) ≤ v3 then zev sc (6, 43, [some (.ref 75), some (.int v1), some (.int v2), some (.int v3)], [], (197, i, (zRF b), l)) else zev sc (6, 15, [some (.ref 75), some (.int v1), some (.int v2), some (.int v3)], [], (197, i, (zRF b), l)) := by
  refine (ze_iload_n 9 zm6 dX0_fewestOfEachTwo_8 rfl rfl).trans ?_
  refine (ze_iconst 10 zm6 dX0_fewestOfEachTwo_9 ci_1 rfl).trans ?_
  refine (ze_iload_n 11 zm6 dX0_fewestOfEachTwo_10 rfl rfl).trans ?_
  refine (ze_ishl 12 zm6 dX0_fewestOfEachTwo_11 rfl).trans ?_
  exact ze_icmp_ge 43 15 zm6 dX0_fewestOfEachTwo_12 (by decide) rfl
theorem b6_15 (sc : zScr) (v1 : Int32) (v2 : Int32) (v3 : Int32) (i : Nat → Nat → Int32) (b : Bool) (l : Nat → Nat → Int64) : zev sc (6, 15, [some (.ref 75), some (.int v1), some (.int v2), some (.int v3)], [], (197, i, (zRF b), l)) = (zev sc (184, 0, [some (.int v3)], [], (197, i, (zRF b), l))).bind (fun x => zev sc (6, 19, [some (.ref 75), some (.int v1), some (.int v2), some (.int v3)], [x.1], x.2)) := by
  refine (ze_iload_n 16 zm6 dX0_fewestOfEachTwo_15 rfl rfl).trans ?_
  exact ze_statI (as := [.int v3]) (rest := []) 19 zm6 dX0_fewestOfEachTwo_16 r0_47 zm184 rfl rfl rfl rfl rfl rfl
theorem b6_19 (sc : zScr) (v1 : Int32) (v2 : Int32) (v3 : Int32) (s0 : Int32) (i : Nat → Nat → Int32) (b : Bool) (l : Nat → Nat → Int64) : zev sc (6, 19, [some (.ref 75), some (.int v1), some (.int v2), some (.int v3)], [.int s0], (197, i, (zRF b), l)) = (zev sc (184, 0, [some (.int v2)], [], (197, i, (zRF b), l))).bind (fun x => zev sc (6, 23, [some (.ref 75), some (.int v1), some (.int v2), some (.int v3)], [x.1, .int s0], x.2)) := by
  refine (ze_iload_n 20 zm6 dX0_fewestOfEachTwo_19 rfl rfl).trans ?_
  exact ze_statI (as := [.int v2]) (rest := [.int s0]) 23 zm6 dX0_fewestOfEachTwo_20 r0_47 zm184 rfl rfl rfl rfl rfl rfl
theorem b6_23 (sc : zScr) (v1 : Int32) (v2 : Int32) (v3 : Int32) (s0 : Int32) (s1 : Int32) (i : Nat → Nat → Int32) (b : Bool) (l : Nat → Nat → Int64) : zev sc (6, 23, [some (.ref 75), some (.int v1), some (.int v2), some (.int v3)], [.int s0, .int s1], (197, i, (zRF b), l)) = if s0 ≤ s1 then zev sc (6, 37, [some (.ref 75), some (.int v1), some (.int v2), some (.int v3)], [], (197, i, (zRF b), l)) else zev sc (6, 26, [some (.ref 75), some (.int v1), some (.int v2), some (.int v3)], [], (197, i, (zRF b), l)) := by
  exact ze_icmp_ge 37 26 zm6 dX0_fewestOfEachTwo_23 (by decide) rfl
theorem b6_26 (sc : zScr) (v1 : Int32) (v2 : Int32) (v3 : Int32) (i : Nat → Nat → Int32) (b : Bool) (l : Nat → Nat → Int64) : zev sc (6, 26, [some (.ref 75), some (.int v1), some (.int v2), some (.int v3)], [], (197, i, (zRF b), l)) = (zev sc (7, 0, [some (.ref 75), some (.int v3), some (.int v1), none], [], (197, i, (zRF b), l))).bind (fun x => zev sc (6, 32, [some (.ref 75), some (.int v1), some (.int v2), some (.int v3)], [x.1], x.2)) := by
  refine (ze_aload_n 27 zm6 dX0_fewestOfEachTwo_26 rfl rfl).trans ?_
  refine (ze_iload_n 28 zm6 dX0_fewestOfEachTwo_27 rfl rfl).trans ?_
  refine (ze_iload_n 29 zm6 dX0_fewestOfEachTwo_28 rfl rfl).trans ?_
  exact ze_virtI (as := [.int v3, .int v1]) (rest := []) 32 zm6 dX0_fewestOfEachTwo_29 r0_85 zm7 rfl rfl k75_0 rfl rfl rfl rfl
theorem b6_32 (sc : zScr) (v1 : Int32) (v2 : Int32) (v3 : Int32) (s0 : Int32) (i : Nat → Nat → Int32) (b : Bool) (l : Nat → Nat → Int64) : zev sc (6, 32, [some (.ref 75), some (.int v1), some (.int v2), some (.int v3)], [.int s0], (197, i, (zRF b), l)) = if s0 = 0 then zev sc (6, 37, [some (.ref 75), some (.int v1), some (.int v2), some (.int v3)], [], (197, i, (zRF b), l)) else zev sc (6, 35, [some (.ref 75), some (.int v1), some (.int v2), some (.int v3)], [], (197, i, (zRF b), l)) := by
  exact ze_if_eq 37 35 zm6 dX0_fewestOfEachTwo_32 (by decide) rfl
theorem b6_35 (sc : zScr) (v1 : Int32) (v2 : Int32) (v3 : Int32) (i : Nat → Nat → Int32) (b : Bool) (l : Nat → Nat → Int64) : zev sc (6, 35, [some (.ref 75), some (.int v1), some (.int v2), some (.int v3)], [], (197, i, (zRF b), l)) = zev sc (6, 37, [some (.ref 75), some (.int v1), some (.int v3), some (.int v3)], [], (197, i, (zRF b), l)) := by
  refine (ze_iload_n 36 zm6 dX0_fewestOfEachTwo_35 rfl rfl).trans ?_
  refine (ze_istore_n (A := 99) (ls' := [some (.ref 75), some (.int v1), some (.int v3), some (.int v3)]) 37 zm6 dX0_fewestOfEachTwo_36 za6 rfl rfl rfl rfl rfl).trans ?_
  rfl
theorem b6_37 (sc : zScr) (v1 : Int32) (v2 : Int32) (v3 : Int32) (i : Nat → Nat → Int32) (b : Bool) (l : Nat → Nat → Int64) : zev sc (6, 37, [some (.ref 75), some (.int v1), some (.int v2), some (.int v3)], [], (197, i, (zRF b), l)) = zev sc (6, 8, [some (.ref 75), some (.int v1), some (.int v2), some (.int (v3 + 1))], [], (197, i, (zRF b), l)) := by
  refine (ze_iinc (v := (1 : Int32)) (A := 99) (ls' := [some (.ref 75), some (.int v1), some (.int v2), some (.int (v3 + 1))]) 40 zm6 dX0_fewestOfEachTwo_37 rfl ci_1 za6 rfl rfl rfl rfl rfl).trans ?_
  exact ze_goto 8 zm6 dX0_fewestOfEachTwo_40 (by decide)
theorem b6_43 (sc : zScr) (v1 : Int32) (v2 : Int32) (v3 : Int32) (i : Nat → Nat → Int32) (b : Bool) (l : Nat → Nat → Int64) : zev sc (6, 43, [some (.ref 75), some (.int v1), some (.int v2), some (.int v3)], [], (197, i, (zRF b), l)) = some (.int v2, (197, i, (zRF b), l)) := by
  refine (ze_iload_n 44 zm6 dX0_fewestOfEachTwo_43 rfl rfl).trans ?_
  exact ze_ireturn zm6 dX0_fewestOfEachTwo_44 rfl
/-! HarpFences$Choices.hasOneOfEachTwo (II)Z: method 7 -/
theorem b7_0 (sc : zScr) (v1 : Int32) (v2 : Int32) (i : Nat → Nat → Int32) (b : Bool) (l : Nat → Nat → Int64) : zev sc (7, 0, [some (.ref 75), some (.int v1), some (.int v2), none], [], (197, i, (zRF b), l)) = zev sc (7, 2, [some (.ref 75), some (.int v1), some (.int v2), some (.int (0 : Int32))], [], (197, i, (zRF b), l)) := by
  refine (ze_iconst 1 zm7 dX0_hasOneOfEachTwo_0 ci_0 rfl).trans ?_
  refine (ze_istore_n (A := 99) (ls' := [some (.ref 75), some (.int v1), some (.int v2), some (.int (0 : Int32))]) 2 zm7 dX0_hasOneOfEachTwo_1 za7 rfl rfl rfl rfl rfl).trans ?_
  rfl
theorem b7_2 (sc : zScr) (v1 : Int32) (v2 : Int32) (v3 : Int32) (i : Nat → Nat → Int32) (b : Bool) (l : Nat → Nat → Int64) : zev sc (7, 2, [some (.ref 75), some (.int v1), some (.int v2), some (.int v3)], [], (197, i, (zRF b), l)) = if v2 ≤ v3 then zev sc (7, 36, [some (.ref 75), some (.int v1), some (.int v2), some (.int v3)], [], (197, i, (zRF b), l)) else zev sc (7, 7, [some (.ref 75), some (.int v1), some (.int v2), some (.int v3)], [], (197, i, (zRF b), l)) := by
  refine (ze_iload_n 3 zm7 dX0_hasOneOfEachTwo_2 rfl rfl).trans ?_
  refine (ze_iload_n 4 zm7 dX0_hasOneOfEachTwo_3 rfl rfl).trans ?_
  exact ze_icmp_ge 36 7 zm7 dX0_hasOneOfEachTwo_4 (by decide) rfl
theorem b7_7 (sc : zScr) (v1 : Int32) (v2 : Int32) (v3 : Int32) (i : Nat → Nat → Int32) (b : Bool) (l : Nat → Nat → Int64) : zev sc (7, 7, [some (.ref 75), some (.int v1), some (.int v2), some (.int v3)], [], (197, i, (zRF b), l)) = if ((v1 >>> (v3 &&& 31)) &&& (1 : Int32)) = 0 then zev sc (7, 15, [some (.ref 75), some (.int v1), some (.int v2), some (.int v3)], [], (197, i, (zRF b), l)) else zev sc (7, 30, [some (.ref 75), some (.int v1), some (.int v2), some (.int v3)], [], (197, i, (zRF b), l)) := by
  refine (ze_iload_n 8 zm7 dX0_hasOneOfEachTwo_7 rfl rfl).trans ?_
  refine (ze_iload_n 9 zm7 dX0_hasOneOfEachTwo_8 rfl rfl).trans ?_
  refine (ze_ishr 10 zm7 dX0_hasOneOfEachTwo_9 rfl).trans ?_
  refine (ze_iconst 11 zm7 dX0_hasOneOfEachTwo_10 ci_1 rfl).trans ?_
  refine (ze_iand 12 zm7 dX0_hasOneOfEachTwo_11 rfl).trans ?_
  exact ze_if_ne 30 15 zm7 dX0_hasOneOfEachTwo_12 (by decide) rfl
theorem b7_15 (sc : zScr) (v1 : Int32) (v2 : Int32) (v3 : Int32) (i : Nat → Nat → Int32) (b : Bool) (l : Nat → Nat → Int64) (h1 : vp_in v3 8) : zev sc (7, 15, [some (.ref 75), some (.int v1), some (.int v2), some (.int v3)], [], (197, i, (zRF b), l)) = if ((i 76 v3.toNatClampNeg) &&& (v1 ^^^ (-1 : Int32))) = 0 then zev sc (7, 30, [some (.ref 75), some (.int v1), some (.int v2), some (.int v3)], [], (197, i, (zRF b), l)) else zev sc (7, 28, [some (.ref 75), some (.int v1), some (.int v2), some (.int v3)], [], (197, i, (zRF b), l)) := by
  refine (ze_aload_n 16 zm7 dX0_hasOneOfEachTwo_15 rfl rfl).trans ?_
  refine (ze_getR 19 zm7 dX0_hasOneOfEachTwo_16 f0_15 k75_0 t0_2 (rr75_2 b) rfl).trans ?_
  refine (ze_iload_n 20 zm7 dX0_hasOneOfEachTwo_19 rfl rfl).trans ?_
  refine (ze_iaload (t := v3.toNatClampNeg) 21 zm7 dX0_hasOneOfEachTwo_20 k76_100 n76 h1 rfl rfl).trans ?_
  refine (ze_iload_n 22 zm7 dX0_hasOneOfEachTwo_21 rfl rfl).trans ?_
  refine (ze_iconst 23 zm7 dX0_hasOneOfEachTwo_22 ci_m1 rfl).trans ?_
  refine (ze_ixor 24 zm7 dX0_hasOneOfEachTwo_23 rfl).trans ?_
  refine (ze_iand 25 zm7 dX0_hasOneOfEachTwo_24 rfl).trans ?_
  exact ze_if_eq 30 28 zm7 dX0_hasOneOfEachTwo_25 (by decide) rfl
theorem b7_28 (sc : zScr) (v1 : Int32) (v2 : Int32) (v3 : Int32) (i : Nat → Nat → Int32) (b : Bool) (l : Nat → Nat → Int64) : zev sc (7, 28, [some (.ref 75), some (.int v1), some (.int v2), some (.int v3)], [], (197, i, (zRF b), l)) = some (.int (0 : Int32), (197, i, (zRF b), l)) := by
  refine (ze_iconst 29 zm7 dX0_hasOneOfEachTwo_28 ci_0 rfl).trans ?_
  exact ze_zreturn zm7 dX0_hasOneOfEachTwo_29 rfl (Or.inl rfl)
theorem b7_30 (sc : zScr) (v1 : Int32) (v2 : Int32) (v3 : Int32) (i : Nat → Nat → Int32) (b : Bool) (l : Nat → Nat → Int64) : zev sc (7, 30, [some (.ref 75), some (.int v1), some (.int v2), some (.int v3)], [], (197, i, (zRF b), l)) = zev sc (7, 2, [some (.ref 75), some (.int v1), some (.int v2), some (.int (v3 + 1))], [], (197, i, (zRF b), l)) := by
  refine (ze_iinc (v := (1 : Int32)) (A := 99) (ls' := [some (.ref 75), some (.int v1), some (.int v2), some (.int (v3 + 1))]) 33 zm7 dX0_hasOneOfEachTwo_30 rfl ci_1 za7 rfl rfl rfl rfl rfl).trans ?_
  exact ze_goto 2 zm7 dX0_hasOneOfEachTwo_33 (by decide)
theorem b7_36 (sc : zScr) (v1 : Int32) (v2 : Int32) (v3 : Int32) (i : Nat → Nat → Int32) (b : Bool) (l : Nat → Nat → Int64) : zev sc (7, 36, [some (.ref 75), some (.int v1), some (.int v2), some (.int v3)], [], (197, i, (zRF b), l)) = some (.int (1 : Int32), (197, i, (zRF b), l)) := by
  refine (ze_iconst 37 zm7 dX0_hasOneOfEachTwo_36 ci_1 rfl).trans ?_
  exact ze_zreturn zm7 dX0_hasOneOfEachTwo_37 rfl (Or.inr rfl)
/-! HarpFences$Choices.mostMilk ()I: method 8 -/
theorem b8_0 (sc : zScr) (i : Nat → Nat → Int32) (b : Bool) (l : Nat → Nat → Int64) : zev sc (8, 0, [some (.ref 75)], [], (197, i, (zRF b), l)) = (zev sc (11, 0, [some (.ref 75), none, none, none], [], (197, i, (zRF b), l))).bind (fun x => zev sc (8, 4, [some (.ref 75)], [], x.2)) := by
  refine (ze_aload_n 1 zm8 dX0_mostMilk_0 rfl rfl).trans ?_
  exact ze_virtV (as := []) (rest := []) 4 zm8 dX0_mostMilk_1 r0_88 zm11 rfl rfl k75_0 rfl rfl rfl rfl
theorem b8_4 (sc : zScr) (i : Nat → Nat → Int32) (b : Bool) (l : Nat → Nat → Int64) : zev sc (8, 4, [some (.ref 75)], [], (197, i, (zRF b), l)) = some (.int (i 78 0), (197, i, (zRF b), l)) := by
  refine (ze_aload_n 5 zm8 dX0_mostMilk_4 rfl rfl).trans ?_
  refine (ze_getR 8 zm8 dX0_mostMilk_5 f0_24 k75_0 t0_4 (rr75_4 b) rfl).trans ?_
  refine (ze_iconst 9 zm8 dX0_mostMilk_8 ci_0 rfl).trans ?_
  refine (ze_iaload (t := 0) 10 zm8 dX0_mostMilk_9 k78_100 n78 vi_0_256 tn_0 rfl).trans ?_
  exact ze_ireturn zm8 dX0_mostMilk_10 rfl
/-! HarpFences$Choices.fieldInHerd (I)I: method 9 -/
theorem b9_0 (sc : zScr) (v1 : Int32) (i : Nat → Nat → Int32) (b : Bool) (l : Nat → Nat → Int64) : zev sc (9, 0, [some (.ref 75), some (.int v1), none, none, none], [], (197, i, (zRF b), l)) = (zev sc (11, 0, [some (.ref 75), none, none, none], [], (197, i, (zRF b), l))).bind (fun x => zev sc (9, 4, [some (.ref 75), some (.int v1), none, none, none], [], x.2)) := by
  refine (ze_aload_n 1 zm9 dX0_fieldInHerd_0 rfl rfl).trans ?_
  exact ze_virtV (as := []) (rest := []) 4 zm9 dX0_fieldInHerd_1 r0_88 zm11 rfl rfl k75_0 rfl rfl rfl rfl
theorem b9_4 (sc : zScr) (v1 : Int32) (i : Nat → Nat → Int32) (b : Bool) (l : Nat → Nat → Int64) : zev sc (9, 4, [some (.ref 75), some (.int v1), none, none, none], [], (197, i, (zRF b), l)) = zev sc (9, 12, [some (.ref 75), some (.int v1), some (.int (0 : Int32)), some (.int (-9 : Int32)), some (.int (0 : Int32))], [], (197, i, (zRF b), l)) := by
  refine (ze_iconst 5 zm9 dX0_fieldInHerd_4 ci_0 rfl).trans ?_
  refine (ze_istore_n (A := 99) (ls' := [some (.ref 75), some (.int v1), some (.int (0 : Int32)), none, none]) 6 zm9 dX0_fieldInHerd_5 za9 rfl rfl rfl rfl rfl).trans ?_
  refine (ze_bipush 8 zm9 dX0_fieldInHerd_6 cb_m9 rfl).trans ?_
  refine (ze_istore_n (A := 99) (ls' := [some (.ref 75), some (.int v1), some (.int (0 : Int32)), some (.int (-9 : Int32)), none]) 9 zm9 dX0_fieldInHerd_8 za9 rfl rfl rfl rfl rfl).trans ?_
  refine (ze_iconst 10 zm9 dX0_fieldInHerd_9 ci_0 rfl).trans ?_
  refine (ze_istore (A := 99) (ls' := [some (.ref 75), some (.int v1), some (.int (0 : Int32)), some (.int (-9 : Int32)), some (.int (0 : Int32))]) 12 zm9 dX0_fieldInHerd_10 za9 rfl rfl rfl rfl rfl).trans ?_
  rfl
theorem b9_12 (sc : zScr) (v1 : Int32) (v2 : Int32) (v3 : Int32) (v4 : Int32) (i : Nat → Nat → Int32) (b : Bool) (l : Nat → Nat → Int64) : zev sc (9, 12, [some (.ref 75), some (.int v1), some (.int v2), some (.int v3), some (.int v4)], [], (197, i, (zRF b), l)) = if v1 < v4 then zev sc (9, 47, [some (.ref 75), some (.int v1), some (.int v2), some (.int v3), some (.int v4)], [], (197, i, (zRF b), l)) else zev sc (9, 18, [some (.ref 75), some (.int v1), some (.int v2), some (.int v3), some (.int v4)], [], (197, i, (zRF b), l)) := by
  refine (ze_iload 14 zm9 dX0_fieldInHerd_12 rfl rfl).trans ?_
  refine (ze_iload_n 15 zm9 dX0_fieldInHerd_14 rfl rfl).trans ?_
  exact ze_icmp_gt 47 18 zm9 dX0_fieldInHerd_15 (by decide) rfl
theorem b9_18 (sc : zScr) (v1 : Int32) (v2 : Int32) (v3 : Int32) (v4 : Int32) (i : Nat → Nat → Int32) (b : Bool) (l : Nat → Nat → Int64) : zev sc (9, 18, [some (.ref 75), some (.int v1), some (.int v2), some (.int v3), some (.int v4)], [], (197, i, (zRF b), l)) = (zev sc (10, 0, [some (.ref 75), some (.int v4), some (.int v2), none], [], (197, i, (zRF b), l))).bind (fun x => zev sc (9, 25, [some (.ref 75), some (.int v1), some (.int v2), some (.int v3), some (.int v4)], [x.1], x.2)) := by
  refine (ze_aload_n 19 zm9 dX0_fieldInHerd_18 rfl rfl).trans ?_
  refine (ze_iload 21 zm9 dX0_fieldInHerd_19 rfl rfl).trans ?_
  refine (ze_iload_n 22 zm9 dX0_fieldInHerd_21 rfl rfl).trans ?_
  exact ze_virtI (as := [.int v4, .int v2]) (rest := []) 25 zm9 dX0_fieldInHerd_22 r0_91 zm10 rfl rfl k75_0 rfl rfl rfl rfl
theorem b9_25 (sc : zScr) (v1 : Int32) (v2 : Int32) (v3 : Int32) (v4 : Int32) (s0 : Int32) (i : Nat → Nat → Int32) (b : Bool) (l : Nat → Nat → Int64) : zev sc (9, 25, [some (.ref 75), some (.int v1), some (.int v2), some (.int v3), some (.int v4)], [.int s0], (197, i, (zRF b), l)) = if s0 = (-9 : Int32) then zev sc (9, 32, [some (.ref 75), some (.int v1), some (.int v2), some (.int s0), some (.int v4)], [], (197, i, (zRF b), l)) else zev sc (9, 35, [some (.ref 75), some (.int v1), some (.int v2), some (.int s0), some (.int v4)], [], (197, i, (zRF b), l)) := by
  refine (ze_istore_n (A := 99) (ls' := [some (.ref 75), some (.int v1), some (.int v2), some (.int s0), some (.int v4)]) 26 zm9 dX0_fieldInHerd_25 za9 rfl rfl rfl rfl rfl).trans ?_
  refine (ze_iload_n 27 zm9 dX0_fieldInHerd_26 rfl rfl).trans ?_
  refine (ze_bipush 29 zm9 dX0_fieldInHerd_27 cb_m9 rfl).trans ?_
  exact ze_icmp_ne 35 32 zm9 dX0_fieldInHerd_29 (by decide) rfl
theorem b9_32 (sc : zScr) (v1 : Int32) (v2 : Int32) (v3 : Int32) (v4 : Int32) (i : Nat → Nat → Int32) (b : Bool) (l : Nat → Nat → Int64) : zev sc (9, 32, [some (.ref 75), some (.int v1), some (.int v2), some (.int v3), some (.int v4)], [], (197, i, (zRF b), l)) = some (.int (-9 : Int32), (197, i, (zRF b), l)) := by
  refine (ze_bipush 34 zm9 dX0_fieldInHerd_32 cb_m9 rfl).trans ?_
  exact ze_ireturn zm9 dX0_fieldInHerd_34 rfl
theorem b9_35 (sc : zScr) (v1 : Int32) (v2 : Int32) (v3 : Int32) (v4 : Int32) (i : Nat → Nat → Int32) (b : Bool) (l : Nat → Nat → Int64) : zev sc (9, 35, [some (.ref 75), some (.int v1), some (.int v2), some (.int v3), some (.int v4)], [], (197, i, (zRF b), l)) = zev sc (9, 12, [some (.ref 75), some (.int v1), some (.int (v2 ||| ((1 : Int32) <<< (v3 &&& 31)))), some (.int v3), some (.int (v4 + 1))], [], (197, i, (zRF b), l)) := by
  refine (ze_iload_n 36 zm9 dX0_fieldInHerd_35 rfl rfl).trans ?_
  refine (ze_iconst 37 zm9 dX0_fieldInHerd_36 ci_1 rfl).trans ?_
  refine (ze_iload_n 38 zm9 dX0_fieldInHerd_37 rfl rfl).trans ?_
  refine (ze_ishl 39 zm9 dX0_fieldInHerd_38 rfl).trans ?_
  refine (ze_ior 40 zm9 dX0_fieldInHerd_39 rfl).trans ?_
  refine (ze_istore_n (A := 99) (ls' := [some (.ref 75), some (.int v1), some (.int (v2 ||| ((1 : Int32) <<< (v3 &&& 31)))), some (.int v3), some (.int v4)]) 41 zm9 dX0_fieldInHerd_40 za9 rfl rfl rfl rfl rfl).trans ?_
  refine (ze_iinc (v := (1 : Int32)) (A := 99) (ls' := [some (.ref 75), some (.int v1), some (.int (v2 ||| ((1 : Int32) <<< (v3 &&& 31)))), some (.int v3), some (.int (v4 + 1))]) 44 zm9 dX0_fieldInHerd_41 rfl ci_1 za9 rfl rfl rfl rfl rfl).trans ?_
  exact ze_goto 12 zm9 dX0_fieldInHerd_44 (by decide)
theorem b9_47 (sc : zScr) (v1 : Int32) (v2 : Int32) (v3 : Int32) (v4 : Int32) (i : Nat → Nat → Int32) (b : Bool) (l : Nat → Nat → Int64) : zev sc (9, 47, [some (.ref 75), some (.int v1), some (.int v2), some (.int v3), some (.int v4)], [], (197, i, (zRF b), l)) = some (.int v3, (197, i, (zRF b), l)) := by
  refine (ze_iload_n 48 zm9 dX0_fieldInHerd_47 rfl rfl).trans ?_
  exact ze_ireturn zm9 dX0_fieldInHerd_48 rfl
/-! HarpFences$Choices.bestField (II)I: method 10 -/
theorem b10_0 (sc : zScr) (v1 : Int32) (v2 : Int32) (i : Nat → Nat → Int32) (b : Bool) (l : Nat → Nat → Int64) : zev sc (10, 0, [some (.ref 75), some (.int v1), some (.int v2), none], [], (197, i, (zRF b), l)) = zev sc (10, 2, [some (.ref 75), some (.int v1), some (.int v2), some (.int (0 : Int32))], [], (197, i, (zRF b), l)) := by
  refine (ze_iconst 1 zm10 dX0_bestField_0 ci_0 rfl).trans ?_
  refine (ze_istore_n (A := 99) (ls' := [some (.ref 75), some (.int v1), some (.int v2), some (.int (0 : Int32))]) 2 zm10 dX0_bestField_1 za10 rfl rfl rfl rfl rfl).trans ?_
  rfl
theorem b10_2 (sc : zScr) (v1 : Int32) (v2 : Int32) (v3 : Int32) (i : Nat → Nat → Int32) (b : Bool) (l : Nat → Nat → Int64) : zev sc (10, 2, [some (.ref 75), some (.int v1), some (.int v2), some (.int v3)], [], (197, i, (zRF b), l)) = if (i 3 0) ≤ v3 then zev sc (10, 45, [some (.ref 75), some (.int v1), some (.int v2), some (.int v3)], [], (197, i, (zRF b), l)) else zev sc (10, 13, [some (.ref 75), some (.int v1), some (.int v2), some (.int v3)], [], (197, i, (zRF b), l)) := by
  refine (ze_iload_n 3 zm10 dX0_bestField_2 rfl rfl).trans ?_
  refine (ze_aload_n 4 zm10 dX0_bestField_3 rfl rfl).trans ?_
  refine (ze_getR 7 zm10 dX0_bestField_4 f0_37 k75_0 t0_1 (rr75_1 b) rfl).trans ?_
  refine (ze_getI 10 zm10 dX0_bestField_7 f0_56 k3_4 (Or.inl t4_0) rfl).trans ?_
  exact ze_icmp_ge 45 13 zm10 dX0_bestField_10 (by decide) rfl
theorem b10_13 (sc : zScr) (v1 : Int32) (v2 : Int32) (v3 : Int32) (i : Nat → Nat → Int32) (b : Bool) (l : Nat → Nat → Int64) : zev sc (10, 13, [some (.ref 75), some (.int v1), some (.int v2), some (.int v3)], [], (197, i, (zRF b), l)) = if ((v2 >>> (v3 &&& 31)) &&& (1 : Int32)) = 0 then zev sc (10, 21, [some (.ref 75), some (.int v1), some (.int v2), some (.int v3)], [], (197, i, (zRF b), l)) else zev sc (10, 39, [some (.ref 75), some (.int v1), some (.int v2), some (.int v3)], [], (197, i, (zRF b), l)) := by
  refine (ze_iload_n 14 zm10 dX0_bestField_13 rfl rfl).trans ?_
  refine (ze_iload_n 15 zm10 dX0_bestField_14 rfl rfl).trans ?_
  refine (ze_ishr 16 zm10 dX0_bestField_15 rfl).trans ?_
  refine (ze_iconst 17 zm10 dX0_bestField_16 ci_1 rfl).trans ?_
  refine (ze_iand 18 zm10 dX0_bestField_17 rfl).trans ?_
  exact ze_if_ne 39 21 zm10 dX0_bestField_18 (by decide) rfl
theorem b10_21 (sc : zScr) (v1 : Int32) (v2 : Int32) (v3 : Int32) (i : Nat → Nat → Int32) (b : Bool) (l : Nat → Nat → Int64) : zev sc (10, 21, [some (.ref 75), some (.int v1), some (.int v2), some (.int v3)], [], (197, i, (zRF b), l)) = (zev sc (12, 0, [some (.ref 75), some (.int v1), some (.int v3), some (.int v2)], [], (197, i, (zRF b), l))).bind (fun x => zev sc (10, 28, [some (.ref 75), some (.int v1), some (.int v2), some (.int v3)], [x.1], x.2)) := by
  refine (ze_aload_n 22 zm10 dX0_bestField_21 rfl rfl).trans ?_
  refine (ze_iload_n 23 zm10 dX0_bestField_22 rfl rfl).trans ?_
  refine (ze_iload_n 24 zm10 dX0_bestField_23 rfl rfl).trans ?_
  refine (ze_iload_n 25 zm10 dX0_bestField_24 rfl rfl).trans ?_
  exact ze_virtI (as := [.int v1, .int v3, .int v2]) (rest := []) 28 zm10 dX0_bestField_25 r0_94 zm12 rfl rfl k75_0 rfl rfl rfl rfl
theorem b10_28 (sc : zScr) (v1 : Int32) (v2 : Int32) (v3 : Int32) (s0 : Int32) (i : Nat → Nat → Int32) (b : Bool) (l : Nat → Nat → Int64) (h1 : vp_in v2 256) : zev sc (10, 28, [some (.ref 75), some (.int v1), some (.int v2), some (.int v3)], [.int s0], (197, i, (zRF b), l)) = if s0 = (i 78 v2.toNatClampNeg) then zev sc (10, 37, [some (.ref 75), some (.int v1), some (.int v2), some (.int v3)], [], (197, i, (zRF b), l)) else zev sc (10, 39, [some (.ref 75), some (.int v1), some (.int v2), some (.int v3)], [], (197, i, (zRF b), l)) := by
  refine (ze_aload_n 29 zm10 dX0_bestField_28 rfl rfl).trans ?_
  refine (ze_getR 32 zm10 dX0_bestField_29 f0_24 k75_0 t0_4 (rr75_4 b) rfl).trans ?_
  refine (ze_iload_n 33 zm10 dX0_bestField_32 rfl rfl).trans ?_
  refine (ze_iaload (t := v2.toNatClampNeg) 34 zm10 dX0_bestField_33 k78_100 n78 h1 rfl rfl).trans ?_
  exact ze_icmp_ne 39 37 zm10 dX0_bestField_34 (by decide) rfl
theorem b10_37 (sc : zScr) (v1 : Int32) (v2 : Int32) (v3 : Int32) (i : Nat → Nat → Int32) (b : Bool) (l : Nat → Nat → Int64) : zev sc (10, 37, [some (.ref 75), some (.int v1), some (.int v2), some (.int v3)], [], (197, i, (zRF b), l)) = some (.int v3, (197, i, (zRF b), l)) := by
  refine (ze_iload_n 38 zm10 dX0_bestField_37 rfl rfl).trans ?_
  exact ze_ireturn zm10 dX0_bestField_38 rfl
theorem b10_39 (sc : zScr) (v1 : Int32) (v2 : Int32) (v3 : Int32) (i : Nat → Nat → Int32) (b : Bool) (l : Nat → Nat → Int64) : zev sc (10, 39, [some (.ref 75), some (.int v1), some (.int v2), some (.int v3)], [], (197, i, (zRF b), l)) = zev sc (10, 2, [some (.ref 75), some (.int v1), some (.int v2), some (.int (v3 + 1))], [], (197, i, (zRF b), l)) := by
  refine (ze_iinc (v := (1 : Int32)) (A := 99) (ls' := [some (.ref 75), some (.int v1), some (.int v2), some (.int (v3 + 1))]) 42 zm10 dX0_bestField_39 rfl ci_1 za10 rfl rfl rfl rfl rfl).trans ?_
  exact ze_goto 2 zm10 dX0_bestField_42 (by decide)
theorem b10_45 (sc : zScr) (v1 : Int32) (v2 : Int32) (v3 : Int32) (i : Nat → Nat → Int32) (b : Bool) (l : Nat → Nat → Int64) : zev sc (10, 45, [some (.ref 75), some (.int v1), some (.int v2), some (.int v3)], [], (197, i, (zRF b), l)) = some (.int (-9 : Int32), (197, i, (zRF b), l)) := by
  refine (ze_bipush 47 zm10 dX0_bestField_45 cb_m9 rfl).trans ?_
  exact ze_ireturn zm10 dX0_bestField_47 rfl
/-! HarpFences$Choices.measureHerds ()V: method 11 -/
theorem b11_0 (sc : zScr) (i : Nat → Nat → Int32) (b : Bool) (l : Nat → Nat → Int64) : zev sc (11, 0, [some (.ref 75), none, none, none], [], (197, i, (zRF b), l)) = zev sc (11, 2, [some (.ref 75), some (.int (0 : Int32)), none, none], [], (197, i, (zRF b), l)) := by
  refine (ze_iconst 1 zm11 dX0_measureHerds_0 ci_0 rfl).trans ?_
  refine (ze_istore_n (A := 99) (ls' := [some (.ref 75), some (.int (0 : Int32)), none, none]) 2 zm11 dX0_measureHerds_1 za11 rfl rfl rfl rfl rfl).trans ?_
  rfl
theorem b11_2 (sc : zScr) (v1 : Int32) (i : Nat → Nat → Int32) (b : Bool) (l : Nat → Nat → Int64) : zev sc (11, 2, [some (.ref 75), some (.int v1), none, none], [], (197, i, (zRF b), l)) = if (i 3 0) ≤ v1 then zev sc (11, 33, [some (.ref 75), some (.int v1), none, none], [], (197, i, (zRF b), l)) else zev sc (11, 13, [some (.ref 75), some (.int v1), none, none], [], (197, i, (zRF b), l)) := by
  refine (ze_iload_n 3 zm11 dX0_measureHerds_2 rfl rfl).trans ?_
  refine (ze_aload_n 4 zm11 dX0_measureHerds_3 rfl rfl).trans ?_
  refine (ze_getR 7 zm11 dX0_measureHerds_4 f0_37 k75_0 t0_1 (rr75_1 b) rfl).trans ?_
  refine (ze_getI 10 zm11 dX0_measureHerds_7 f0_56 k3_4 (Or.inl t4_0) rfl).trans ?_
  exact ze_icmp_ge 33 13 zm11 dX0_measureHerds_10 (by decide) rfl
theorem b11_13 (sc : zScr) (v1 : Int32) (i : Nat → Nat → Int32) (b : Bool) (l : Nat → Nat → Int64) : zev sc (11, 13, [some (.ref 75), some (.int v1), none, none], [], (197, i, (zRF b), l)) = (zev sc (16, 0, [some (.ref 23), some (.int v1), none, none, none], [], (197, i, (zRF b), l))).bind (fun x => zev sc (11, 26, [some (.ref 75), some (.int v1), none, none], [x.1, .int v1, .ref 77], x.2)) := by
  refine (ze_aload_n 14 zm11 dX0_measureHerds_13 rfl rfl).trans ?_
  refine (ze_getR 17 zm11 dX0_measureHerds_14 f0_21 k75_0 t0_3 (rr75_3 b) rfl).trans ?_
  refine (ze_iload_n 18 zm11 dX0_measureHerds_17 rfl rfl).trans ?_
  refine (ze_aload_n 19 zm11 dX0_measureHerds_18 rfl rfl).trans ?_
  refine (ze_getR 22 zm11 dX0_measureHerds_19 f0_27 k75_0 t0_0 (rr75_0 b) rfl).trans ?_
  refine (ze_iload_n 23 zm11 dX0_measureHerds_22 rfl rfl).trans ?_
  exact ze_virtI (as := [.int v1]) (rest := [.int v1, .ref 77]) 26 zm11 dX0_measureHerds_23 r0_98 zm16 rfl rfl k23_1 rfl rfl rfl rfl
theorem b11_26 (sc : zScr) (v1 : Int32) (s0 : Int32) (s1 : Int32) (i : Nat → Nat → Int32) (b : Bool) (l : Nat → Nat → Int64) (h1 : vp_in s1 8) : zev sc (11, 26, [some (.ref 75), some (.int v1), none, none], [.int s0, .int s1, .ref 77], (197, i, (zRF b), l)) = zev sc (11, 2, [some (.ref 75), some (.int (v1 + 1)), none, none], [], (197, (zU i 77 s1.toNatClampNeg s0), (zRF b), l)) := by
  refine (ze_iastore (t := s1.toNatClampNeg) 27 zm11 dX0_measureHerds_26 k77_100 n77 h1 rfl rfl).trans ?_
  refine (ze_iinc (v := (1 : Int32)) (A := 99) (ls' := [some (.ref 75), some (.int (v1 + 1)), none, none]) 30 zm11 dX0_measureHerds_27 rfl ci_1 za11 rfl rfl rfl rfl rfl).trans ?_
  exact ze_goto 2 zm11 dX0_measureHerds_30 (by decide)
theorem b11_33 (sc : zScr) (v1 : Int32) (i : Nat → Nat → Int32) (b : Bool) (l : Nat → Nat → Int64) : zev sc (11, 33, [some (.ref 75), some (.int v1), none, none], [], (197, i, (zRF b), l)) = zev sc (11, 45, [some (.ref 75), some (.int (((1 : Int32) <<< ((i 3 0) &&& 31)) - (1 : Int32))), none, none], [], (197, i, (zRF b), l)) := by
  refine (ze_iconst 34 zm11 dX0_measureHerds_33 ci_1 rfl).trans ?_
  refine (ze_aload_n 35 zm11 dX0_measureHerds_34 rfl rfl).trans ?_
  refine (ze_getR 38 zm11 dX0_measureHerds_35 f0_37 k75_0 t0_1 (rr75_1 b) rfl).trans ?_
  refine (ze_getI 41 zm11 dX0_measureHerds_38 f0_56 k3_4 (Or.inl t4_0) rfl).trans ?_
  refine (ze_ishl 42 zm11 dX0_measureHerds_41 rfl).trans ?_
  refine (ze_iconst 43 zm11 dX0_measureHerds_42 ci_1 rfl).trans ?_
  refine (ze_isub 44 zm11 dX0_measureHerds_43 rfl).trans ?_
  refine (ze_istore_n (A := 99) (ls' := [some (.ref 75), some (.int (((1 : Int32) <<< ((i 3 0) &&& 31)) - (1 : Int32))), none, none]) 45 zm11 dX0_measureHerds_44 za11 rfl rfl rfl rfl rfl).trans ?_
  rfl
theorem b11_45 (sc : zScr) (v1 : Int32) (w2 : Option Value) (w3 : Option Value) (i : Nat → Nat → Int32) (b : Bool) (l : Nat → Nat → Int64) : zev sc (11, 45, [some (.ref 75), some (.int v1), w2, w3], [], (197, i, (zRF b), l)) = if v1 < 0 then zev sc (11, 127, [some (.ref 75), some (.int v1), w2, w3], [], (197, i, (zRF b), l)) else zev sc (11, 49, [some (.ref 75), some (.int v1), w2, w3], [], (197, i, (zRF b), l)) := by
  refine (ze_iload_n 46 zm11 dX0_measureHerds_45 rfl rfl).trans ?_
  exact ze_if_lt 127 49 zm11 dX0_measureHerds_46 (by decide) rfl
theorem b11_49 (sc : zScr) (v1 : Int32) (w2 : Option Value) (w3 : Option Value) (i : Nat → Nat → Int32) (b : Bool) (l : Nat → Nat → Int64) : zev sc (11, 49, [some (.ref 75), some (.int v1), w2, w3], [], (197, i, (zRF b), l)) = (zev sc (184, 0, [some (.int v1)], [], (197, i, (zRF b), l))).bind (fun x => zev sc (11, 53, [some (.ref 75), some (.int v1), w2, w3], [x.1], x.2)) := by
  refine (ze_iload_n 50 zm11 dX0_measureHerds_49 rfl rfl).trans ?_
  exact ze_statI (as := [.int v1]) (rest := []) 53 zm11 dX0_measureHerds_50 r0_47 zm184 rfl rfl rfl rfl rfl rfl
theorem b11_53 (sc : zScr) (v1 : Int32) (w2 : Option Value) (w3 : Option Value) (s0 : Int32) (i : Nat → Nat → Int32) (b : Bool) (l : Nat → Nat → Int64) (h1 : vp_in v1 256) : zev sc (11, 53, [some (.ref 75), some (.int v1), w2, w3], [.int s0], (197, i, (zRF b), l)) = zev sc (11, 63, [some (.ref 75), some (.int v1), some (.int s0), some (.int (0 : Int32))], [], (197, (zU i 78 v1.toNatClampNeg (0 : Int32)), (zRF b), l)) := by
  refine (ze_istore_n (A := 99) (ls' := [some (.ref 75), some (.int v1), some (.int s0), w3]) 54 zm11 dX0_measureHerds_53 za11 rfl rfl rfl rfl rfl).trans ?_
  refine (ze_aload_n 55 zm11 dX0_measureHerds_54 rfl rfl).trans ?_
  refine (ze_getR 58 zm11 dX0_measureHerds_55 f0_24 k75_0 t0_4 (rr75_4 b) rfl).trans ?_
  refine (ze_iload_n 59 zm11 dX0_measureHerds_58 rfl rfl).trans ?_
  refine (ze_iconst 60 zm11 dX0_measureHerds_59 ci_0 rfl).trans ?_
  refine (ze_iastore (t := v1.toNatClampNeg) 61 zm11 dX0_measureHerds_60 k78_100 n78 h1 rfl rfl).trans ?_
  refine (ze_iconst 62 zm11 dX0_measureHerds_61 ci_0 rfl).trans ?_
  refine (ze_istore_n (A := 99) (ls' := [some (.ref 75), some (.int v1), some (.int s0), some (.int (0 : Int32))]) 63 zm11 dX0_measureHerds_62 za11 rfl rfl rfl rfl rfl).trans ?_
  rfl
theorem b11_63 (sc : zScr) (v1 : Int32) (v2 : Int32) (v3 : Int32) (i : Nat → Nat → Int32) (b : Bool) (l : Nat → Nat → Int64) : zev sc (11, 63, [some (.ref 75), some (.int v1), some (.int v2), some (.int v3)], [], (197, i, (zRF b), l)) = if (i 3 0) ≤ v3 then zev sc (11, 121, [some (.ref 75), some (.int v1), some (.int v2), some (.int v3)], [], (197, i, (zRF b), l)) else zev sc (11, 74, [some (.ref 75), some (.int v1), some (.int v2), some (.int v3)], [], (197, i, (zRF b), l)) := by
  refine (ze_iload_n 64 zm11 dX0_measureHerds_63 rfl rfl).trans ?_
  refine (ze_aload_n 65 zm11 dX0_measureHerds_64 rfl rfl).trans ?_
  refine (ze_getR 68 zm11 dX0_measureHerds_65 f0_37 k75_0 t0_1 (rr75_1 b) rfl).trans ?_
  refine (ze_getI 71 zm11 dX0_measureHerds_68 f0_56 k3_4 (Or.inl t4_0) rfl).trans ?_
  exact ze_icmp_ge 121 74 zm11 dX0_measureHerds_71 (by decide) rfl
theorem b11_74 (sc : zScr) (v1 : Int32) (v2 : Int32) (v3 : Int32) (i : Nat → Nat → Int32) (b : Bool) (l : Nat → Nat → Int64) : zev sc (11, 74, [some (.ref 75), some (.int v1), some (.int v2), some (.int v3)], [], (197, i, (zRF b), l)) = if (i 3 8) ≤ v2 then zev sc (11, 121, [some (.ref 75), some (.int v1), some (.int v2), some (.int v3)], [], (197, i, (zRF b), l)) else zev sc (11, 85, [some (.ref 75), some (.int v1), some (.int v2), some (.int v3)], [], (197, i, (zRF b), l)) := by
  refine (ze_iload_n 75 zm11 dX0_measureHerds_74 rfl rfl).trans ?_
  refine (ze_aload_n 76 zm11 dX0_measureHerds_75 rfl rfl).trans ?_
  refine (ze_getR 79 zm11 dX0_measureHerds_76 f0_37 k75_0 t0_1 (rr75_1 b) rfl).trans ?_
  refine (ze_getI 82 zm11 dX0_measureHerds_79 f0_101 k3_4 (Or.inl t4_8) rfl).trans ?_
  exact ze_icmp_ge 121 85 zm11 dX0_measureHerds_82 (by decide) rfl
theorem b11_85 (sc : zScr) (v1 : Int32) (v2 : Int32) (v3 : Int32) (i : Nat → Nat → Int32) (b : Bool) (l : Nat → Nat → Int64) : zev sc (11, 85, [some (.ref 75), some (.int v1), some (.int v2), some (.int v3)], [], (197, i, (zRF b), l)) = if ((v1 >>> (v3 &&& 31)) &&& (1 : Int32)) = 0 then zev sc (11, 93, [some (.ref 75), some (.int v1), some (.int v2), some (.int v3)], [], (197, i, (zRF b), l)) else zev sc (11, 115, [some (.ref 75), some (.int v1), some (.int v2), some (.int v3)], [], (197, i, (zRF b), l)) := by
  refine (ze_iload_n 86 zm11 dX0_measureHerds_85 rfl rfl).trans ?_
  refine (ze_iload_n 87 zm11 dX0_measureHerds_86 rfl rfl).trans ?_
  refine (ze_ishr 88 zm11 dX0_measureHerds_87 rfl).trans ?_
  refine (ze_iconst 89 zm11 dX0_measureHerds_88 ci_1 rfl).trans ?_
  refine (ze_iand 90 zm11 dX0_measureHerds_89 rfl).trans ?_
  exact ze_if_ne 115 93 zm11 dX0_measureHerds_90 (by decide) rfl
theorem b11_93 (sc : zScr) (v1 : Int32) (v2 : Int32) (v3 : Int32) (i : Nat → Nat → Int32) (b : Bool) (l : Nat → Nat → Int64) (h1 : vp_in v1 256) : zev sc (11, 93, [some (.ref 75), some (.int v1), some (.int v2), some (.int v3)], [], (197, i, (zRF b), l)) = (zev sc (12, 0, [some (.ref 75), some (.int v2), some (.int v3), some (.int v1)], [], (197, i, (zRF b), l))).bind (fun x => zev sc (11, 111, [some (.ref 75), some (.int v1), some (.int v2), some (.int v3)], [x.1, .int (i 78 v1.toNatClampNeg), .int v1, .ref 78], x.2)) := by
  refine (ze_aload_n 94 zm11 dX0_measureHerds_93 rfl rfl).trans ?_
  refine (ze_getR 97 zm11 dX0_measureHerds_94 f0_24 k75_0 t0_4 (rr75_4 b) rfl).trans ?_
  refine (ze_iload_n 98 zm11 dX0_measureHerds_97 rfl rfl).trans ?_
  refine (ze_aload_n 99 zm11 dX0_measureHerds_98 rfl rfl).trans ?_
  refine (ze_getR 102 zm11 dX0_measureHerds_99 f0_24 k75_0 t0_4 (rr75_4 b) rfl).trans ?_
  refine (ze_iload_n 103 zm11 dX0_measureHerds_102 rfl rfl).trans ?_
  refine (ze_iaload (t := v1.toNatClampNeg) 104 zm11 dX0_measureHerds_103 k78_100 n78 h1 rfl rfl).trans ?_
  refine (ze_aload_n 105 zm11 dX0_measureHerds_104 rfl rfl).trans ?_
  refine (ze_iload_n 106 zm11 dX0_measureHerds_105 rfl rfl).trans ?_
  refine (ze_iload_n 107 zm11 dX0_measureHerds_106 rfl rfl).trans ?_
  refine (ze_iload_n 108 zm11 dX0_measureHerds_107 rfl rfl).trans ?_
  exact ze_virtI (as := [.int v2, .int v3, .int v1]) (rest := [.int (i 78 v1.toNatClampNeg), .int v1, .ref 78]) 111 zm11 dX0_measureHerds_108 r0_94 zm12 rfl rfl k75_0 rfl rfl rfl rfl
theorem b11_111 (sc : zScr) (v1 : Int32) (v2 : Int32) (v3 : Int32) (s0 : Int32) (s1 : Int32) (s2 : Int32) (i : Nat → Nat → Int32) (b : Bool) (l : Nat → Nat → Int64) (h1 : vp_in s2 256) : zev sc (11, 111, [some (.ref 75), some (.int v1), some (.int v2), some (.int v3)], [.int s0, .int s1, .int s2, .ref 78], (197, i, (zRF b), l)) = zev sc (11, 115, [some (.ref 75), some (.int v1), some (.int v2), some (.int v3)], [], (197, (zU i 78 s2.toNatClampNeg (if s1 < s0 then s0 else s1)), (zRF b), l)) := by
  refine (ze_max 114 zm11 dX0_measureHerds_111 r0_9 rfl rfl).trans ?_
  refine (ze_iastore (t := s2.toNatClampNeg) 115 zm11 dX0_measureHerds_114 k78_100 n78 h1 rfl rfl).trans ?_
  rfl
theorem b11_115 (sc : zScr) (v1 : Int32) (v2 : Int32) (v3 : Int32) (i : Nat → Nat → Int32) (b : Bool) (l : Nat → Nat → Int64) : zev sc (11, 115, [some (.ref 75), some (.int v1), some (.int v2), some (.int v3)], [], (197, i, (zRF b), l)) = zev sc (11, 63, [some (.ref 75), some (.int v1), some (.int v2), some (.int (v3 + 1))], [], (197, i, (zRF b), l)) := by
  refine (ze_iinc (v := (1 : Int32)) (A := 99) (ls' := [some (.ref 75), some (.int v1), some (.int v2), some (.int (v3 + 1))]) 118 zm11 dX0_measureHerds_115 rfl ci_1 za11 rfl rfl rfl rfl rfl).trans ?_
  exact ze_goto 63 zm11 dX0_measureHerds_118 (by decide)
theorem b11_121 (sc : zScr) (v1 : Int32) (v2 : Int32) (v3 : Int32) (i : Nat → Nat → Int32) (b : Bool) (l : Nat → Nat → Int64) : zev sc (11, 121, [some (.ref 75), some (.int v1), some (.int v2), some (.int v3)], [], (197, i, (zRF b), l)) = zev sc (11, 45, [some (.ref 75), some (.int (v1 + (-1))), some (.int v2), some (.int v3)], [], (197, i, (zRF b), l)) := by
  refine (ze_iinc (v := (-1 : Int32)) (A := 99) (ls' := [some (.ref 75), some (.int (v1 + (-1))), some (.int v2), some (.int v3)]) 124 zm11 dX0_measureHerds_121 rfl ci_m1 za11 rfl rfl rfl rfl rfl).trans ?_
  exact ze_goto 45 zm11 dX0_measureHerds_124 (by decide)
theorem b11_127 (sc : zScr) (v1 : Int32) (w2 : Option Value) (w3 : Option Value) (i : Nat → Nat → Int32) (b : Bool) (l : Nat → Nat → Int64) : zev sc (11, 127, [some (.ref 75), some (.int v1), w2, w3], [], (197, i, (zRF b), l)) = some (.null, (197, i, (zRF b), l)) := by
  exact ze_return zm11 dX0_measureHerds_127 rfl
/-! HarpFences$Choices.milkWith (III)I: method 12 -/
theorem b12_0 (sc : zScr) (v1 : Int32) (v2 : Int32) (v3 : Int32) (i : Nat → Nat → Int32) (b : Bool) (l : Nat → Nat → Int64) (h1 : vp_in v1 6) (h2 : vp_in (i 9 v1.toNatClampNeg) 4) (h3 : vp_in v2 8) (h4 : vp_in (v3 ||| ((1 : Int32) <<< (v2 &&& 31))) 256) : zev sc (12, 0, [some (.ref 75), some (.int v1), some (.int v2), some (.int v3)], [], (197, i, (zRF b), l)) = some (.int (((i 8 ((i 9 v1.toNatClampNeg)).toNatClampNeg) * (i 77 v2.toNatClampNeg)) + (i 78 ((v3 ||| ((1 : Int32) <<< (v2 &&& 31)))).toNatClampNeg)), (197, i, (zRF b), l)) := by
  refine (ze_aload_n 1 zm12 dX0_milkWith_0 rfl rfl).trans ?_
  refine (ze_getR 4 zm12 dX0_milkWith_1 f0_37 k75_0 t0_1 (rr75_1 b) rfl).trans ?_
  refine (ze_getR 7 zm12 dX0_milkWith_4 f0_104 k3_4 t4_7 (rr3_7 b) rfl).trans ?_
  refine (ze_aload_n 8 zm12 dX0_milkWith_7 rfl rfl).trans ?_
  refine (ze_getR 11 zm12 dX0_milkWith_8 f0_37 k75_0 t0_1 (rr75_1 b) rfl).trans ?_
  refine (ze_getR 14 zm12 dX0_milkWith_11 f0_107 k3_4 t4_9 (rr3_9 b) rfl).trans ?_
  refine (ze_iload_n 15 zm12 dX0_milkWith_14 rfl rfl).trans ?_
  refine (ze_iaload (t := v1.toNatClampNeg) 16 zm12 dX0_milkWith_15 k9_100 n9 h1 rfl rfl).trans ?_
  refine (ze_iaload (t := ((i 9 v1.toNatClampNeg)).toNatClampNeg) 17 zm12 dX0_milkWith_16 k8_100 n8 h2 rfl rfl).trans ?_
  refine (ze_aload_n 18 zm12 dX0_milkWith_17 rfl rfl).trans ?_
  refine (ze_getR 21 zm12 dX0_milkWith_18 f0_21 k75_0 t0_3 (rr75_3 b) rfl).trans ?_
  refine (ze_iload_n 22 zm12 dX0_milkWith_21 rfl rfl).trans ?_
  refine (ze_iaload (t := v2.toNatClampNeg) 23 zm12 dX0_milkWith_22 k77_100 n77 h3 rfl rfl).trans ?_
  refine (ze_imul 24 zm12 dX0_milkWith_23 rfl).trans ?_
  refine (ze_aload_n 25 zm12 dX0_milkWith_24 rfl rfl).trans ?_
  refine (ze_getR 28 zm12 dX0_milkWith_25 f0_24 k75_0 t0_4 (rr75_4 b) rfl).trans ?_
  refine (ze_iload_n 29 zm12 dX0_milkWith_28 rfl rfl).trans ?_
  refine (ze_iconst 30 zm12 dX0_milkWith_29 ci_1 rfl).trans ?_
  refine (ze_iload_n 31 zm12 dX0_milkWith_30 rfl rfl).trans ?_
  refine (ze_ishl 32 zm12 dX0_milkWith_31 rfl).trans ?_
  refine (ze_ior 33 zm12 dX0_milkWith_32 rfl).trans ?_
  refine (ze_iaload (t := ((v3 ||| ((1 : Int32) <<< (v2 &&& 31)))).toNatClampNeg) 34 zm12 dX0_milkWith_33 k78_100 n78 h4 rfl rfl).trans ?_
  refine (ze_iadd 35 zm12 dX0_milkWith_34 rfl).trans ?_
  exact ze_ireturn zm12 dX0_milkWith_35 rfl
/-! HarpFences$Farm.isString (I)Z: method 14 -/
theorem b14_0 (sc : zScr) (v1 : Int32) (i : Nat → Nat → Int32) (b : Bool) (l : Nat → Nat → Int64) (h1 : vp_in v1 8) : zev sc (14, 0, [some (.ref 23), some (.int v1)], [], (197, i, (zRF b), l)) = if (i 21 v1.toNatClampNeg) ≤ 0 then zev sc (14, 30, [some (.ref 23), some (.int v1)], [], (197, i, (zRF b), l)) else zev sc (14, 12, [some (.ref 23), some (.int v1)], [], (197, i, (zRF b), l)) := by
  refine (ze_aload_n 1 zm14 dX1_isString_0 rfl rfl).trans ?_
  refine (ze_getR 4 zm14 dX1_isString_1 f1_15 k23_1 t1_1 (rr23_1 b) rfl).trans ?_
  refine (ze_getR 7 zm14 dX1_isString_4 f1_19 k19_7 t7_1 (rr19_1 b) rfl).trans ?_
  refine (ze_iload_n 8 zm14 dX1_isString_7 rfl rfl).trans ?_
  refine (ze_iaload (t := v1.toNatClampNeg) 9 zm14 dX1_isString_8 k21_100 n21 h1 rfl rfl).trans ?_
  exact ze_if_le 30 12 zm14 dX1_isString_9 (by decide) rfl
theorem b14_12 (sc : zScr) (v1 : Int32) (i : Nat → Nat → Int32) (b : Bool) (l : Nat → Nat → Int64) : zev sc (14, 12, [some (.ref 23), some (.int v1)], [], (197, i, (zRF b), l)) = if (((i 19 4) >>> (v1 &&& 31)) &&& (1 : Int32)) = 0 then zev sc (14, 26, [some (.ref 23), some (.int v1)], [], (197, i, (zRF b), l)) else zev sc (14, 30, [some (.ref 23), some (.int v1)], [], (197, i, (zRF b), l)) := by
  refine (ze_aload_n 13 zm14 dX1_isString_12 rfl rfl).trans ?_
  refine (ze_getR 16 zm14 dX1_isString_13 f1_15 k23_1 t1_1 (rr23_1 b) rfl).trans ?_
  refine (ze_getI 19 zm14 dX1_isString_16 f1_25 k19_7 (Or.inl t7_4) rfl).trans ?_
  refine (ze_iload_n 20 zm14 dX1_isString_19 rfl rfl).trans ?_
  refine (ze_ishr 21 zm14 dX1_isString_20 rfl).trans ?_
  refine (ze_iconst 22 zm14 dX1_isString_21 ci_1 rfl).trans ?_
  refine (ze_iand 23 zm14 dX1_isString_22 rfl).trans ?_
  exact ze_if_ne 30 26 zm14 dX1_isString_23 (by decide) rfl
theorem b14_26 (sc : zScr) (v1 : Int32) (i : Nat → Nat → Int32) (b : Bool) (l : Nat → Nat → Int64) : zev sc (14, 26, [some (.ref 23), some (.int v1)], [], (197, i, (zRF b), l)) = zev sc (14, 31, [some (.ref 23), some (.int v1)], [.int (1 : Int32)], (197, i, (zRF b), l)) := by
  refine (ze_iconst 27 zm14 dX1_isString_26 ci_1 rfl).trans ?_
  exact ze_goto 31 zm14 dX1_isString_27 (by decide)
theorem b14_30 (sc : zScr) (v1 : Int32) (i : Nat → Nat → Int32) (b : Bool) (l : Nat → Nat → Int64) : zev sc (14, 30, [some (.ref 23), some (.int v1)], [], (197, i, (zRF b), l)) = zev sc (14, 31, [some (.ref 23), some (.int v1)], [.int (0 : Int32)], (197, i, (zRF b), l)) := by
  refine (ze_iconst 31 zm14 dX1_isString_30 ci_0 rfl).trans ?_
  rfl
theorem b14_31 (sc : zScr) (v1 : Int32) (s0 : Int32) (i : Nat → Nat → Int32) (b : Bool) (l : Nat → Nat → Int64) (h1 : s0 = 0 ∨ s0 = 1) : zev sc (14, 31, [some (.ref 23), some (.int v1)], [.int s0], (197, i, (zRF b), l)) = some (.int s0, (197, i, (zRF b), l)) := by
  exact ze_zreturn zm14 dX1_isString_31 rfl h1
/-! HarpFences$Farm.soundTo (II)I: method 15 -/
theorem b15_0 (sc : zScr) (v1 : Int32) (v2 : Int32) (i : Nat → Nat → Int32) (b : Bool) (l : Nat → Nat → Int64) : zev sc (15, 0, [some (.ref 23), some (.int v1), some (.int v2)], [], (197, i, (zRF b), l)) = (zev sc (14, 0, [some (.ref 23), some (.int v2)], [], (197, i, (zRF b), l))).bind (fun x => zev sc (15, 5, [some (.ref 23), some (.int v1), some (.int v2)], [x.1], x.2)) := by
  refine (ze_aload_n 1 zm15 dX1_soundTo_0 rfl rfl).trans ?_
  refine (ze_iload_n 2 zm15 dX1_soundTo_1 rfl rfl).trans ?_
  exact ze_virtI (as := [.int v2]) (rest := []) 5 zm15 dX1_soundTo_2 r1_29 zm14 rfl rfl k23_1 rfl rfl rfl rfl
theorem b15_5 (sc : zScr) (v1 : Int32) (v2 : Int32) (s0 : Int32) (i : Nat → Nat → Int32) (b : Bool) (l : Nat → Nat → Int64) : zev sc (15, 5, [some (.ref 23), some (.int v1), some (.int v2)], [.int s0], (197, i, (zRF b), l)) = if s0 = 0 then zev sc (15, 23, [some (.ref 23), some (.int v1), some (.int v2)], [], (197, i, (zRF b), l)) else zev sc (15, 8, [some (.ref 23), some (.int v1), some (.int v2)], [], (197, i, (zRF b), l)) := by
  exact ze_if_eq 23 8 zm15 dX1_soundTo_5 (by decide) rfl
theorem b15_8 (sc : zScr) (v1 : Int32) (v2 : Int32) (i : Nat → Nat → Int32) (b : Bool) (l : Nat → Nat → Int64) : zev sc (15, 8, [some (.ref 23), some (.int v1), some (.int v2)], [], (197, i, (zRF b), l)) = if (((i 19 5) >>> (v2 &&& 31)) &&& (1 : Int32)) = (1 : Int32) then zev sc (15, 23, [some (.ref 23), some (.int v1), some (.int v2)], [], (197, i, (zRF b), l)) else zev sc (15, 25, [some (.ref 23), some (.int v1), some (.int v2)], [], (197, i, (zRF b), l)) := by
  refine (ze_aload_n 9 zm15 dX1_soundTo_8 rfl rfl).trans ?_
  refine (ze_getR 12 zm15 dX1_soundTo_9 f1_15 k23_1 t1_1 (rr23_1 b) rfl).trans ?_
  refine (ze_getI 15 zm15 dX1_soundTo_12 f1_33 k19_7 (Or.inl t7_5) rfl).trans ?_
  refine (ze_iload_n 16 zm15 dX1_soundTo_15 rfl rfl).trans ?_
  refine (ze_ishr 17 zm15 dX1_soundTo_16 rfl).trans ?_
  refine (ze_iconst 18 zm15 dX1_soundTo_17 ci_1 rfl).trans ?_
  refine (ze_iand 19 zm15 dX1_soundTo_18 rfl).trans ?_
  refine (ze_iconst 20 zm15 dX1_soundTo_19 ci_1 rfl).trans ?_
  exact ze_icmp_ne 25 23 zm15 dX1_soundTo_20 (by decide) rfl
theorem b15_23 (sc : zScr) (v1 : Int32) (v2 : Int32) (i : Nat → Nat → Int32) (b : Bool) (l : Nat → Nat → Int64) : zev sc (15, 23, [some (.ref 23), some (.int v1), some (.int v2)], [], (197, i, (zRF b), l)) = some (.int (0 : Int32), (197, i, (zRF b), l)) := by
  refine (ze_iconst 24 zm15 dX1_soundTo_23 ci_0 rfl).trans ?_
  exact ze_ireturn zm15 dX1_soundTo_24 rfl
theorem b15_25 (sc : zScr) (v1 : Int32) (v2 : Int32) (i : Nat → Nat → Int32) (b : Bool) (l : Nat → Nat → Int64) (h1 : vp_in v2 8) (h2 : vp_in v1 4) : zev sc (15, 25, [some (.ref 23), some (.int v1), some (.int v2)], [], (197, i, (zRF b), l)) = some (.int (if (0 : Int32) < (((i 21 v2.toNatClampNeg) + (i 7 v1.toNatClampNeg)) - (i 19 6)) then (((i 21 v2.toNatClampNeg) + (i 7 v1.toNatClampNeg)) - (i 19 6)) else (0 : Int32)), (197, i, (zRF b), l)) := by
  refine (ze_iconst 26 zm15 dX1_soundTo_25 ci_0 rfl).trans ?_
  refine (ze_aload_n 27 zm15 dX1_soundTo_26 rfl rfl).trans ?_
  refine (ze_getR 30 zm15 dX1_soundTo_27 f1_15 k23_1 t1_1 (rr23_1 b) rfl).trans ?_
  refine (ze_getR 33 zm15 dX1_soundTo_30 f1_19 k19_7 t7_1 (rr19_1 b) rfl).trans ?_
  refine (ze_iload_n 34 zm15 dX1_soundTo_33 rfl rfl).trans ?_
  refine (ze_iaload (t := v2.toNatClampNeg) 35 zm15 dX1_soundTo_34 k21_100 n21 h1 rfl rfl).trans ?_
  refine (ze_aload_n 36 zm15 dX1_soundTo_35 rfl rfl).trans ?_
  refine (ze_getR 39 zm15 dX1_soundTo_36 f1_9 k23_1 t1_0 (rr23_0 b) rfl).trans ?_
  refine (ze_getR 42 zm15 dX1_soundTo_39 f1_36 k3_4 t4_6 (rr3_6 b) rfl).trans ?_
  refine (ze_iload_n 43 zm15 dX1_soundTo_42 rfl rfl).trans ?_
  refine (ze_iaload (t := v1.toNatClampNeg) 44 zm15 dX1_soundTo_43 k7_100 n7 h2 rfl rfl).trans ?_
  refine (ze_iadd 45 zm15 dX1_soundTo_44 rfl).trans ?_
  refine (ze_aload_n 46 zm15 dX1_soundTo_45 rfl rfl).trans ?_
  refine (ze_getR 49 zm15 dX1_soundTo_46 f1_15 k23_1 t1_1 (rr23_1 b) rfl).trans ?_
  refine (ze_getI 52 zm15 dX1_soundTo_49 f1_41 k19_7 (Or.inl t7_6) rfl).trans ?_
  refine (ze_isub 53 zm15 dX1_soundTo_52 rfl).trans ?_
  refine (ze_max 56 zm15 dX1_soundTo_53 r1_44 rfl rfl).trans ?_
  exact ze_ireturn zm15 dX1_soundTo_56 rfl
/-! HarpFences$Farm.fifthsAt (I)I: method 16 -/
theorem b16_0 (sc : zScr) (v1 : Int32) (i : Nat → Nat → Int32) (b : Bool) (l : Nat → Nat → Int64) : zev sc (16, 0, [some (.ref 23), some (.int v1), none, none, none], [], (197, i, (zRF b), l)) = zev sc (16, 4, [some (.ref 23), some (.int v1), some (.int (0 : Int32)), some (.int (1 : Int32)), none], [], (197, i, (zRF b), l)) := by
  refine (ze_iconst 1 zm16 dX1_fifthsAt_0 ci_0 rfl).trans ?_
  refine (ze_istore_n (A := 99) (ls' := [some (.ref 23), some (.int v1), some (.int (0 : Int32)), none, none]) 2 zm16 dX1_fifthsAt_1 za16 rfl rfl rfl rfl rfl).trans ?_
  refine (ze_iconst 3 zm16 dX1_fifthsAt_2 ci_1 rfl).trans ?_
  refine (ze_istore_n (A := 99) (ls' := [some (.ref 23), some (.int v1), some (.int (0 : Int32)), some (.int (1 : Int32)), none]) 4 zm16 dX1_fifthsAt_3 za16 rfl rfl rfl rfl rfl).trans ?_
  rfl
theorem b16_4 (sc : zScr) (v1 : Int32) (v2 : Int32) (v3 : Int32) (w4 : Option Value) (i : Nat → Nat → Int32) (b : Bool) (l : Nat → Nat → Int64) : zev sc (16, 4, [some (.ref 23), some (.int v1), some (.int v2), some (.int v3), w4], [], (197, i, (zRF b), l)) = if (i 3 1) ≤ v3 then zev sc (16, 86, [some (.ref 23), some (.int v1), some (.int v2), some (.int v3), w4], [], (197, i, (zRF b), l)) else zev sc (16, 15, [some (.ref 23), some (.int v1), some (.int v2), some (.int v3), w4], [], (197, i, (zRF b), l)) := by
  refine (ze_iload_n 5 zm16 dX1_fifthsAt_4 rfl rfl).trans ?_
  refine (ze_aload_n 6 zm16 dX1_fifthsAt_5 rfl rfl).trans ?_
  refine (ze_getR 9 zm16 dX1_fifthsAt_6 f1_9 k23_1 t1_0 (rr23_0 b) rfl).trans ?_
  refine (ze_getI 12 zm16 dX1_fifthsAt_9 f1_50 k3_4 (Or.inl t4_1) rfl).trans ?_
  exact ze_icmp_ge 86 15 zm16 dX1_fifthsAt_12 (by decide) rfl
theorem b16_15 (sc : zScr) (v1 : Int32) (v2 : Int32) (v3 : Int32) (w4 : Option Value) (i : Nat → Nat → Int32) (b : Bool) (l : Nat → Nat → Int64) : zev sc (16, 15, [some (.ref 23), some (.int v1), some (.int v2), some (.int v3), w4], [], (197, i, (zRF b), l)) = zev sc (16, 18, [some (.ref 23), some (.int v1), some (.int v2), some (.int v3), some (.int (0 : Int32))], [], (197, i, (zRF b), l)) := by
  refine (ze_iconst 16 zm16 dX1_fifthsAt_15 ci_0 rfl).trans ?_
  refine (ze_istore (A := 99) (ls' := [some (.ref 23), some (.int v1), some (.int v2), some (.int v3), some (.int (0 : Int32))]) 18 zm16 dX1_fifthsAt_16 za16 rfl rfl rfl rfl rfl).trans ?_
  rfl
theorem b16_18 (sc : zScr) (v1 : Int32) (v2 : Int32) (v3 : Int32) (v4 : Int32) (i : Nat → Nat → Int32) (b : Bool) (l : Nat → Nat → Int64) : zev sc (16, 18, [some (.ref 23), some (.int v1), some (.int v2), some (.int v3), some (.int v4)], [], (197, i, (zRF b), l)) = if v3 ≤ v4 then zev sc (16, 80, [some (.ref 23), some (.int v1), some (.int v2), some (.int v3), some (.int v4)], [], (197, i, (zRF b), l)) else zev sc (16, 24, [some (.ref 23), some (.int v1), some (.int v2), some (.int v3), some (.int v4)], [], (197, i, (zRF b), l)) := by
  refine (ze_iload 20 zm16 dX1_fifthsAt_18 rfl rfl).trans ?_
  refine (ze_iload_n 21 zm16 dX1_fifthsAt_20 rfl rfl).trans ?_
  exact ze_icmp_ge 80 24 zm16 dX1_fifthsAt_21 (by decide) rfl
theorem b16_24 (sc : zScr) (v1 : Int32) (v2 : Int32) (v3 : Int32) (v4 : Int32) (i : Nat → Nat → Int32) (b : Bool) (l : Nat → Nat → Int64) : zev sc (16, 24, [some (.ref 23), some (.int v1), some (.int v2), some (.int v3), some (.int v4)], [], (197, i, (zRF b), l)) = (zev sc (17, 0, [some (.ref 23), some (.int v3), some (.int v1)], [], (197, i, (zRF b), l))).bind (fun x => zev sc (16, 30, [some (.ref 23), some (.int v1), some (.int v2), some (.int v3), some (.int v4)], [x.1], x.2)) := by
  refine (ze_aload_n 25 zm16 dX1_fifthsAt_24 rfl rfl).trans ?_
  refine (ze_iload_n 26 zm16 dX1_fifthsAt_25 rfl rfl).trans ?_
  refine (ze_iload_n 27 zm16 dX1_fifthsAt_26 rfl rfl).trans ?_
  exact ze_virtI (as := [.int v3, .int v1]) (rest := []) 30 zm16 dX1_fifthsAt_27 r1_53 zm17 rfl rfl k23_1 rfl rfl rfl rfl
theorem b16_30 (sc : zScr) (v1 : Int32) (v2 : Int32) (v3 : Int32) (v4 : Int32) (s0 : Int32) (i : Nat → Nat → Int32) (b : Bool) (l : Nat → Nat → Int64) : zev sc (16, 30, [some (.ref 23), some (.int v1), some (.int v2), some (.int v3), some (.int v4)], [.int s0], (197, i, (zRF b), l)) = if s0 = 0 then zev sc (16, 74, [some (.ref 23), some (.int v1), some (.int v2), some (.int v3), some (.int v4)], [], (197, i, (zRF b), l)) else zev sc (16, 33, [some (.ref 23), some (.int v1), some (.int v2), some (.int v3), some (.int v4)], [], (197, i, (zRF b), l)) := by
  exact ze_if_eq 74 33 zm16 dX1_fifthsAt_30 (by decide) rfl
theorem b16_33 (sc : zScr) (v1 : Int32) (v2 : Int32) (v3 : Int32) (v4 : Int32) (i : Nat → Nat → Int32) (b : Bool) (l : Nat → Nat → Int64) : zev sc (16, 33, [some (.ref 23), some (.int v1), some (.int v2), some (.int v3), some (.int v4)], [], (197, i, (zRF b), l)) = (zev sc (17, 0, [some (.ref 23), some (.int v4), some (.int v1)], [], (197, i, (zRF b), l))).bind (fun x => zev sc (16, 40, [some (.ref 23), some (.int v1), some (.int v2), some (.int v3), some (.int v4)], [x.1], x.2)) := by
  refine (ze_aload_n 34 zm16 dX1_fifthsAt_33 rfl rfl).trans ?_
  refine (ze_iload 36 zm16 dX1_fifthsAt_34 rfl rfl).trans ?_
  refine (ze_iload_n 37 zm16 dX1_fifthsAt_36 rfl rfl).trans ?_
  exact ze_virtI (as := [.int v4, .int v1]) (rest := []) 40 zm16 dX1_fifthsAt_37 r1_53 zm17 rfl rfl k23_1 rfl rfl rfl rfl
theorem b16_40 (sc : zScr) (v1 : Int32) (v2 : Int32) (v3 : Int32) (v4 : Int32) (s0 : Int32) (i : Nat → Nat → Int32) (b : Bool) (l : Nat → Nat → Int64) : zev sc (16, 40, [some (.ref 23), some (.int v1), some (.int v2), some (.int v3), some (.int v4)], [.int s0], (197, i, (zRF b), l)) = if s0 = 0 then zev sc (16, 74, [some (.ref 23), some (.int v1), some (.int v2), some (.int v3), some (.int v4)], [], (197, i, (zRF b), l)) else zev sc (16, 43, [some (.ref 23), some (.int v1), some (.int v2), some (.int v3), some (.int v4)], [], (197, i, (zRF b), l)) := by
  exact ze_if_eq 74 43 zm16 dX1_fifthsAt_40 (by decide) rfl
theorem b16_43 (sc : zScr) (v1 : Int32) (v2 : Int32) (v3 : Int32) (v4 : Int32) (i : Nat → Nat → Int32) (b : Bool) (l : Nat → Nat → Int64) (h1 : vp_in v3 8) (h2 : vp_in v4 8) : zev sc (16, 43, [some (.ref 23), some (.int v1), some (.int v2), some (.int v3), some (.int v4)], [], (197, i, (zRF b), l)) = if (if 0 ≤ ((i 21 v3.toNatClampNeg) - (i 21 v4.toNatClampNeg)) then ((i 21 v3.toNatClampNeg) - (i 21 v4.toNatClampNeg)) else 0 - ((i 21 v3.toNatClampNeg) - (i 21 v4.toNatClampNeg))) = (7 : Int32) then zev sc (16, 71, [some (.ref 23), some (.int v1), some (.int v2), some (.int v3), some (.int v4)], [], (197, i, (zRF b), l)) else zev sc (16, 74, [some (.ref 23), some (.int v1), some (.int v2), some (.int v3), some (.int v4)], [], (197, i, (zRF b), l)) := by
  refine (ze_aload_n 44 zm16 dX1_fifthsAt_43 rfl rfl).trans ?_
  refine (ze_getR 47 zm16 dX1_fifthsAt_44 f1_15 k23_1 t1_1 (rr23_1 b) rfl).trans ?_
  refine (ze_getR 50 zm16 dX1_fifthsAt_47 f1_19 k19_7 t7_1 (rr19_1 b) rfl).trans ?_
  refine (ze_iload_n 51 zm16 dX1_fifthsAt_50 rfl rfl).trans ?_
  refine (ze_iaload (t := v3.toNatClampNeg) 52 zm16 dX1_fifthsAt_51 k21_100 n21 h1 rfl rfl).trans ?_
  refine (ze_aload_n 53 zm16 dX1_fifthsAt_52 rfl rfl).trans ?_
  refine (ze_getR 56 zm16 dX1_fifthsAt_53 f1_15 k23_1 t1_1 (rr23_1 b) rfl).trans ?_
  refine (ze_getR 59 zm16 dX1_fifthsAt_56 f1_19 k19_7 t7_1 (rr19_1 b) rfl).trans ?_
  refine (ze_iload 61 zm16 dX1_fifthsAt_59 rfl rfl).trans ?_
  refine (ze_iaload (t := v4.toNatClampNeg) 62 zm16 dX1_fifthsAt_61 k21_100 n21 h2 rfl rfl).trans ?_
  refine (ze_isub 63 zm16 dX1_fifthsAt_62 rfl).trans ?_
  refine (ze_abs 66 zm16 dX1_fifthsAt_63 r1_57 rfl rfl).trans ?_
  refine (ze_bipush 68 zm16 dX1_fifthsAt_66 cb_7 rfl).trans ?_
  exact ze_icmp_ne 74 71 zm16 dX1_fifthsAt_68 (by decide) rfl
theorem b16_71 (sc : zScr) (v1 : Int32) (v2 : Int32) (v3 : Int32) (v4 : Int32) (i : Nat → Nat → Int32) (b : Bool) (l : Nat → Nat → Int64) : zev sc (16, 71, [some (.ref 23), some (.int v1), some (.int v2), some (.int v3), some (.int v4)], [], (197, i, (zRF b), l)) = zev sc (16, 74, [some (.ref 23), some (.int v1), some (.int (v2 + 1)), some (.int v3), some (.int v4)], [], (197, i, (zRF b), l)) := by
  refine (ze_iinc (v := (1 : Int32)) (A := 99) (ls' := [some (.ref 23), some (.int v1), some (.int (v2 + 1)), some (.int v3), some (.int v4)]) 74 zm16 dX1_fifthsAt_71 rfl ci_1 za16 rfl rfl rfl rfl rfl).trans ?_
  rfl
theorem b16_74 (sc : zScr) (v1 : Int32) (v2 : Int32) (v3 : Int32) (v4 : Int32) (i : Nat → Nat → Int32) (b : Bool) (l : Nat → Nat → Int64) : zev sc (16, 74, [some (.ref 23), some (.int v1), some (.int v2), some (.int v3), some (.int v4)], [], (197, i, (zRF b), l)) = zev sc (16, 18, [some (.ref 23), some (.int v1), some (.int v2), some (.int v3), some (.int (v4 + 1))], [], (197, i, (zRF b), l)) := by
  refine (ze_iinc (v := (1 : Int32)) (A := 99) (ls' := [some (.ref 23), some (.int v1), some (.int v2), some (.int v3), some (.int (v4 + 1))]) 77 zm16 dX1_fifthsAt_74 rfl ci_1 za16 rfl rfl rfl rfl rfl).trans ?_
  exact ze_goto 18 zm16 dX1_fifthsAt_77 (by decide)
theorem b16_80 (sc : zScr) (v1 : Int32) (v2 : Int32) (v3 : Int32) (v4 : Int32) (i : Nat → Nat → Int32) (b : Bool) (l : Nat → Nat → Int64) : zev sc (16, 80, [some (.ref 23), some (.int v1), some (.int v2), some (.int v3), some (.int v4)], [], (197, i, (zRF b), l)) = zev sc (16, 4, [some (.ref 23), some (.int v1), some (.int v2), some (.int (v3 + 1)), some (.int v4)], [], (197, i, (zRF b), l)) := by
  refine (ze_iinc (v := (1 : Int32)) (A := 99) (ls' := [some (.ref 23), some (.int v1), some (.int v2), some (.int (v3 + 1)), some (.int v4)]) 83 zm16 dX1_fifthsAt_80 rfl ci_1 za16 rfl rfl rfl rfl rfl).trans ?_
  exact ze_goto 4 zm16 dX1_fifthsAt_83 (by decide)
theorem b16_86 (sc : zScr) (v1 : Int32) (v2 : Int32) (v3 : Int32) (w4 : Option Value) (i : Nat → Nat → Int32) (b : Bool) (l : Nat → Nat → Int64) : zev sc (16, 86, [some (.ref 23), some (.int v1), some (.int v2), some (.int v3), w4], [], (197, i, (zRF b), l)) = some (.int v2, (197, i, (zRF b), l)) := by
  refine (ze_iload_n 87 zm16 dX1_fifthsAt_86 rfl rfl).trans ?_
  exact ze_ireturn zm16 dX1_fifthsAt_87 rfl
/-! HarpFences$Farm.isStringAt (II)Z: method 17 -/
theorem b17_0 (sc : zScr) (v1 : Int32) (v2 : Int32) (i : Nat → Nat → Int32) (b : Bool) (l : Nat → Nat → Int64) : zev sc (17, 0, [some (.ref 23), some (.int v1), some (.int v2)], [], (197, i, (zRF b), l)) = (zev sc (14, 0, [some (.ref 23), some (.int v1)], [], (197, i, (zRF b), l))).bind (fun x => zev sc (17, 5, [some (.ref 23), some (.int v1), some (.int v2)], [x.1], x.2)) := by
  refine (ze_aload_n 1 zm17 dX1_isStringAt_0 rfl rfl).trans ?_
  refine (ze_iload_n 2 zm17 dX1_isStringAt_1 rfl rfl).trans ?_
  exact ze_virtI (as := [.int v1]) (rest := []) 5 zm17 dX1_isStringAt_2 r1_29 zm14 rfl rfl k23_1 rfl rfl rfl rfl
theorem b17_5 (sc : zScr) (v1 : Int32) (v2 : Int32) (s0 : Int32) (i : Nat → Nat → Int32) (b : Bool) (l : Nat → Nat → Int64) : zev sc (17, 5, [some (.ref 23), some (.int v1), some (.int v2)], [.int s0], (197, i, (zRF b), l)) = if s0 = 0 then zev sc (17, 24, [some (.ref 23), some (.int v1), some (.int v2)], [], (197, i, (zRF b), l)) else zev sc (17, 8, [some (.ref 23), some (.int v1), some (.int v2)], [], (197, i, (zRF b), l)) := by
  exact ze_if_eq 24 8 zm17 dX1_isStringAt_5 (by decide) rfl
theorem b17_8 (sc : zScr) (v1 : Int32) (v2 : Int32) (i : Nat → Nat → Int32) (b : Bool) (l : Nat → Nat → Int64) : zev sc (17, 8, [some (.ref 23), some (.int v1), some (.int v2)], [], (197, i, (zRF b), l)) = (zev sc (35, 0, [some (.ref 3), some (.int v1), some (.int v2)], [], (197, i, (zRF b), l))).bind (fun x => zev sc (17, 17, [some (.ref 23), some (.int v1), some (.int v2)], [x.1], x.2)) := by
  refine (ze_aload_n 9 zm17 dX1_isStringAt_8 rfl rfl).trans ?_
  refine (ze_getR 12 zm17 dX1_isStringAt_9 f1_9 k23_1 t1_0 (rr23_0 b) rfl).trans ?_
  refine (ze_iload_n 13 zm17 dX1_isStringAt_12 rfl rfl).trans ?_
  refine (ze_iload_n 14 zm17 dX1_isStringAt_13 rfl rfl).trans ?_
  exact ze_virtI (as := [.int v1, .int v2]) (rest := []) 17 zm17 dX1_isStringAt_14 r1_61 zm35 rfl rfl k3_4 rfl rfl rfl rfl
theorem b17_17 (sc : zScr) (v1 : Int32) (v2 : Int32) (s0 : Int32) (i : Nat → Nat → Int32) (b : Bool) (l : Nat → Nat → Int64) : zev sc (17, 17, [some (.ref 23), some (.int v1), some (.int v2)], [.int s0], (197, i, (zRF b), l)) = if s0 = 0 then zev sc (17, 24, [some (.ref 23), some (.int v1), some (.int v2)], [], (197, i, (zRF b), l)) else zev sc (17, 20, [some (.ref 23), some (.int v1), some (.int v2)], [], (197, i, (zRF b), l)) := by
  exact ze_if_eq 24 20 zm17 dX1_isStringAt_17 (by decide) rfl
theorem b17_20 (sc : zScr) (v1 : Int32) (v2 : Int32) (i : Nat → Nat → Int32) (b : Bool) (l : Nat → Nat → Int64) : zev sc (17, 20, [some (.ref 23), some (.int v1), some (.int v2)], [], (197, i, (zRF b), l)) = zev sc (17, 25, [some (.ref 23), some (.int v1), some (.int v2)], [.int (1 : Int32)], (197, i, (zRF b), l)) := by
  refine (ze_iconst 21 zm17 dX1_isStringAt_20 ci_1 rfl).trans ?_
  exact ze_goto 25 zm17 dX1_isStringAt_21 (by decide)
theorem b17_24 (sc : zScr) (v1 : Int32) (v2 : Int32) (i : Nat → Nat → Int32) (b : Bool) (l : Nat → Nat → Int64) : zev sc (17, 24, [some (.ref 23), some (.int v1), some (.int v2)], [], (197, i, (zRF b), l)) = zev sc (17, 25, [some (.ref 23), some (.int v1), some (.int v2)], [.int (0 : Int32)], (197, i, (zRF b), l)) := by
  refine (ze_iconst 25 zm17 dX1_isStringAt_24 ci_0 rfl).trans ?_
  rfl
theorem b17_25 (sc : zScr) (v1 : Int32) (v2 : Int32) (s0 : Int32) (i : Nat → Nat → Int32) (b : Bool) (l : Nat → Nat → Int64) (h1 : s0 = 0 ∨ s0 = 1) : zev sc (17, 25, [some (.ref 23), some (.int v1), some (.int v2)], [.int s0], (197, i, (zRF b), l)) = some (.int s0, (197, i, (zRF b), l)) := by
  exact ze_zreturn zm17 dX1_isStringAt_25 rfl h1
/-! HarpFences$Farm.beastsThatSound (I)I: method 18 -/
theorem b18_0 (sc : zScr) (v1 : Int32) (i : Nat → Nat → Int32) (b : Bool) (l : Nat → Nat → Int64) : zev sc (18, 0, [some (.ref 23), some (.int v1), none, none, none], [], (197, i, (zRF b), l)) = zev sc (18, 4, [some (.ref 23), some (.int v1), some (.int (0 : Int32)), some (.int (0 : Int32)), none], [], (197, i, (zRF b), l)) := by
  refine (ze_iconst 1 zm18 dX1_beastsThatSound_0 ci_0 rfl).trans ?_
  refine (ze_istore_n (A := 99) (ls' := [some (.ref 23), some (.int v1), some (.int (0 : Int32)), none, none]) 2 zm18 dX1_beastsThatSound_1 za18 rfl rfl rfl rfl rfl).trans ?_
  refine (ze_iconst 3 zm18 dX1_beastsThatSound_2 ci_0 rfl).trans ?_
  refine (ze_istore_n (A := 99) (ls' := [some (.ref 23), some (.int v1), some (.int (0 : Int32)), some (.int (0 : Int32)), none]) 4 zm18 dX1_beastsThatSound_3 za18 rfl rfl rfl rfl rfl).trans ?_
  rfl
theorem b18_4 (sc : zScr) (v1 : Int32) (v2 : Int32) (v3 : Int32) (w4 : Option Value) (i : Nat → Nat → Int32) (b : Bool) (l : Nat → Nat → Int64) : zev sc (18, 4, [some (.ref 23), some (.int v1), some (.int v2), some (.int v3), w4], [], (197, i, (zRF b), l)) = if (i 3 8) ≤ v3 then zev sc (18, 88, [some (.ref 23), some (.int v1), some (.int v2), some (.int v3), w4], [], (197, i, (zRF b), l)) else zev sc (18, 15, [some (.ref 23), some (.int v1), some (.int v2), some (.int v3), w4], [], (197, i, (zRF b), l)) := by
  refine (ze_iload_n 5 zm18 dX1_beastsThatSound_4 rfl rfl).trans ?_
  refine (ze_aload_n 6 zm18 dX1_beastsThatSound_5 rfl rfl).trans ?_
  refine (ze_getR 9 zm18 dX1_beastsThatSound_6 f1_9 k23_1 t1_0 (rr23_0 b) rfl).trans ?_
  refine (ze_getI 12 zm18 dX1_beastsThatSound_9 f1_64 k3_4 (Or.inl t4_8) rfl).trans ?_
  exact ze_icmp_ge 88 15 zm18 dX1_beastsThatSound_12 (by decide) rfl
theorem b18_15 (sc : zScr) (v1 : Int32) (v2 : Int32) (v3 : Int32) (w4 : Option Value) (i : Nat → Nat → Int32) (b : Bool) (l : Nat → Nat → Int64) : zev sc (18, 15, [some (.ref 23), some (.int v1), some (.int v2), some (.int v3), w4], [], (197, i, (zRF b), l)) = zev sc (18, 18, [some (.ref 23), some (.int v1), some (.int v2), some (.int v3), some (.int (0 : Int32))], [], (197, i, (zRF b), l)) := by
  refine (ze_iconst 16 zm18 dX1_beastsThatSound_15 ci_0 rfl).trans ?_
  refine (ze_istore (A := 99) (ls' := [some (.ref 23), some (.int v1), some (.int v2), some (.int v3), some (.int (0 : Int32))]) 18 zm18 dX1_beastsThatSound_16 za18 rfl rfl rfl rfl rfl).trans ?_
  rfl
theorem b18_18 (sc : zScr) (v1 : Int32) (v2 : Int32) (v3 : Int32) (v4 : Int32) (i : Nat → Nat → Int32) (b : Bool) (l : Nat → Nat → Int64) : zev sc (18, 18, [some (.ref 23), some (.int v1), some (.int v2), some (.int v3), some (.int v4)], [], (197, i, (zRF b), l)) = if (i 3 1) ≤ v4 then zev sc (18, 82, [some (.ref 23), some (.int v1), some (.int v2), some (.int v3), some (.int v4)], [], (197, i, (zRF b), l)) else zev sc (18, 30, [some (.ref 23), some (.int v1), some (.int v2), some (.int v3), some (.int v4)], [], (197, i, (zRF b), l)) := by
  refine (ze_iload 20 zm18 dX1_beastsThatSound_18 rfl rfl).trans ?_
  refine (ze_aload_n 21 zm18 dX1_beastsThatSound_20 rfl rfl).trans ?_
  refine (ze_getR 24 zm18 dX1_beastsThatSound_21 f1_9 k23_1 t1_0 (rr23_0 b) rfl).trans ?_
  refine (ze_getI 27 zm18 dX1_beastsThatSound_24 f1_50 k3_4 (Or.inl t4_1) rfl).trans ?_
  exact ze_icmp_ge 82 30 zm18 dX1_beastsThatSound_27 (by decide) rfl
theorem b18_30 (sc : zScr) (v1 : Int32) (v2 : Int32) (v3 : Int32) (v4 : Int32) (i : Nat → Nat → Int32) (b : Bool) (l : Nat → Nat → Int64) (h1 : vp_in v3 6) : zev sc (18, 30, [some (.ref 23), some (.int v1), some (.int v2), some (.int v3), some (.int v4)], [], (197, i, (zRF b), l)) = (zev sc (35, 0, [some (.ref 3), some (.int v4), some (.int (i 20 v3.toNatClampNeg))], [], (197, i, (zRF b), l))).bind (fun x => zev sc (18, 48, [some (.ref 23), some (.int v1), some (.int v2), some (.int v3), some (.int v4)], [x.1], x.2)) := by
  refine (ze_aload_n 31 zm18 dX1_beastsThatSound_30 rfl rfl).trans ?_
  refine (ze_getR 34 zm18 dX1_beastsThatSound_31 f1_9 k23_1 t1_0 (rr23_0 b) rfl).trans ?_
  refine (ze_iload 36 zm18 dX1_beastsThatSound_34 rfl rfl).trans ?_
  refine (ze_aload_n 37 zm18 dX1_beastsThatSound_36 rfl rfl).trans ?_
  refine (ze_getR 40 zm18 dX1_beastsThatSound_37 f1_15 k23_1 t1_1 (rr23_1 b) rfl).trans ?_
  refine (ze_getR 43 zm18 dX1_beastsThatSound_40 f1_67 k19_7 t7_0 (rr19_0 b) rfl).trans ?_
  refine (ze_iload_n 44 zm18 dX1_beastsThatSound_43 rfl rfl).trans ?_
  refine (ze_iaload (t := v3.toNatClampNeg) 45 zm18 dX1_beastsThatSound_44 k20_100 n20 h1 rfl rfl).trans ?_
  exact ze_virtI (as := [.int v4, .int (i 20 v3.toNatClampNeg)]) (rest := []) 48 zm18 dX1_beastsThatSound_45 r1_61 zm35 rfl rfl k3_4 rfl rfl rfl rfl
theorem b18_48 (sc : zScr) (v1 : Int32) (v2 : Int32) (v3 : Int32) (v4 : Int32) (s0 : Int32) (i : Nat → Nat → Int32) (b : Bool) (l : Nat → Nat → Int64) : zev sc (18, 48, [some (.ref 23), some (.int v1), some (.int v2), some (.int v3), some (.int v4)], [.int s0], (197, i, (zRF b), l)) = if s0 = 0 then zev sc (18, 76, [some (.ref 23), some (.int v1), some (.int v2), some (.int v3), some (.int v4)], [], (197, i, (zRF b), l)) else zev sc (18, 51, [some (.ref 23), some (.int v1), some (.int v2), some (.int v3), some (.int v4)], [], (197, i, (zRF b), l)) := by
  exact ze_if_eq 76 51 zm18 dX1_beastsThatSound_48 (by decide) rfl
theorem b18_51 (sc : zScr) (v1 : Int32) (v2 : Int32) (v3 : Int32) (v4 : Int32) (i : Nat → Nat → Int32) (b : Bool) (l : Nat → Nat → Int64) (h1 : vp_in v3 6) : zev sc (18, 51, [some (.ref 23), some (.int v1), some (.int v2), some (.int v3), some (.int v4)], [], (197, i, (zRF b), l)) = (zev sc (15, 0, [some (.ref 23), some (.int (i 9 v3.toNatClampNeg)), some (.int v4)], [], (197, i, (zRF b), l))).bind (fun x => zev sc (18, 66, [some (.ref 23), some (.int v1), some (.int v2), some (.int v3), some (.int v4)], [x.1], x.2)) := by
  refine (ze_aload_n 52 zm18 dX1_beastsThatSound_51 rfl rfl).trans ?_
  refine (ze_aload_n 53 zm18 dX1_beastsThatSound_52 rfl rfl).trans ?_
  refine (ze_getR 56 zm18 dX1_beastsThatSound_53 f1_9 k23_1 t1_0 (rr23_0 b) rfl).trans ?_
  refine (ze_getR 59 zm18 dX1_beastsThatSound_56 f1_70 k3_4 t4_9 (rr3_9 b) rfl).trans ?_
  refine (ze_iload_n 60 zm18 dX1_beastsThatSound_59 rfl rfl).trans ?_
  refine (ze_iaload (t := v3.toNatClampNeg) 61 zm18 dX1_beastsThatSound_60 k9_100 n9 h1 rfl rfl).trans ?_
  refine (ze_iload 63 zm18 dX1_beastsThatSound_61 rfl rfl).trans ?_
  exact ze_virtI (as := [.int (i 9 v3.toNatClampNeg), .int v4]) (rest := []) 66 zm18 dX1_beastsThatSound_63 r1_73 zm15 rfl rfl k23_1 rfl rfl rfl rfl
theorem b18_66 (sc : zScr) (v1 : Int32) (v2 : Int32) (v3 : Int32) (v4 : Int32) (s0 : Int32) (i : Nat → Nat → Int32) (b : Bool) (l : Nat → Nat → Int64) : zev sc (18, 66, [some (.ref 23), some (.int v1), some (.int v2), some (.int v3), some (.int v4)], [.int s0], (197, i, (zRF b), l)) = if s0 = v1 then zev sc (18, 70, [some (.ref 23), some (.int v1), some (.int v2), some (.int v3), some (.int v4)], [], (197, i, (zRF b), l)) else zev sc (18, 76, [some (.ref 23), some (.int v1), some (.int v2), some (.int v3), some (.int v4)], [], (197, i, (zRF b), l)) := by
  refine (ze_iload_n 67 zm18 dX1_beastsThatSound_66 rfl rfl).trans ?_
  exact ze_icmp_ne 76 70 zm18 dX1_beastsThatSound_67 (by decide) rfl
theorem b18_70 (sc : zScr) (v1 : Int32) (v2 : Int32) (v3 : Int32) (v4 : Int32) (i : Nat → Nat → Int32) (b : Bool) (l : Nat → Nat → Int64) : zev sc (18, 70, [some (.ref 23), some (.int v1), some (.int v2), some (.int v3), some (.int v4)], [], (197, i, (zRF b), l)) = zev sc (18, 76, [some (.ref 23), some (.int v1), some (.int (v2 ||| ((1 : Int32) <<< (v3 &&& 31)))), some (.int v3), some (.int v4)], [], (197, i, (zRF b), l)) := by
  refine (ze_iload_n 71 zm18 dX1_beastsThatSound_70 rfl rfl).trans ?_
  refine (ze_iconst 72 zm18 dX1_beastsThatSound_71 ci_1 rfl).trans ?_
  refine (ze_iload_n 73 zm18 dX1_beastsThatSound_72 rfl rfl).trans ?_
  refine (ze_ishl 74 zm18 dX1_beastsThatSound_73 rfl).trans ?_
  refine (ze_ior 75 zm18 dX1_beastsThatSound_74 rfl).trans ?_
  refine (ze_istore_n (A := 99) (ls' := [some (.ref 23), some (.int v1), some (.int (v2 ||| ((1 : Int32) <<< (v3 &&& 31)))), some (.int v3), some (.int v4)]) 76 zm18 dX1_beastsThatSound_75 za18 rfl rfl rfl rfl rfl).trans ?_
  rfl
theorem b18_76 (sc : zScr) (v1 : Int32) (v2 : Int32) (v3 : Int32) (v4 : Int32) (i : Nat → Nat → Int32) (b : Bool) (l : Nat → Nat → Int64) : zev sc (18, 76, [some (.ref 23), some (.int v1), some (.int v2), some (.int v3), some (.int v4)], [], (197, i, (zRF b), l)) = zev sc (18, 18, [some (.ref 23), some (.int v1), some (.int v2), some (.int v3), some (.int (v4 + 1))], [], (197, i, (zRF b), l)) := by
  refine (ze_iinc (v := (1 : Int32)) (A := 99) (ls' := [some (.ref 23), some (.int v1), some (.int v2), some (.int v3), some (.int (v4 + 1))]) 79 zm18 dX1_beastsThatSound_76 rfl ci_1 za18 rfl rfl rfl rfl rfl).trans ?_
  exact ze_goto 18 zm18 dX1_beastsThatSound_79 (by decide)
theorem b18_82 (sc : zScr) (v1 : Int32) (v2 : Int32) (v3 : Int32) (v4 : Int32) (i : Nat → Nat → Int32) (b : Bool) (l : Nat → Nat → Int64) : zev sc (18, 82, [some (.ref 23), some (.int v1), some (.int v2), some (.int v3), some (.int v4)], [], (197, i, (zRF b), l)) = zev sc (18, 4, [some (.ref 23), some (.int v1), some (.int v2), some (.int (v3 + 1)), some (.int v4)], [], (197, i, (zRF b), l)) := by
  refine (ze_iinc (v := (1 : Int32)) (A := 99) (ls' := [some (.ref 23), some (.int v1), some (.int v2), some (.int (v3 + 1)), some (.int v4)]) 85 zm18 dX1_beastsThatSound_82 rfl ci_1 za18 rfl rfl rfl rfl rfl).trans ?_
  exact ze_goto 4 zm18 dX1_beastsThatSound_85 (by decide)
theorem b18_88 (sc : zScr) (v1 : Int32) (v2 : Int32) (v3 : Int32) (w4 : Option Value) (i : Nat → Nat → Int32) (b : Bool) (l : Nat → Nat → Int64) : zev sc (18, 88, [some (.ref 23), some (.int v1), some (.int v2), some (.int v3), w4], [], (197, i, (zRF b), l)) = some (.int v2, (197, i, (zRF b), l)) := by
  refine (ze_iload_n 89 zm18 dX1_beastsThatSound_88 rfl rfl).trans ?_
  exact ze_ireturn zm18 dX1_beastsThatSound_89 rfl
/-! HarpFences$Hearing.takes (I)Z: method 20 -/
theorem b20_0 (sc : zScr) (v1 : Int32) (i : Nat → Nat → Int32) (b : Bool) (l : Nat → Nat → Int64) : zev sc (20, 0, [some (.ref 67), some (.int v1)], [], (197, i, (zRF b), l)) = if (i 67 6) < (6 : Int32) then zev sc (20, 11, [some (.ref 67), some (.int v1)], [], (197, i, (zRF b), l)) else zev sc (20, 9, [some (.ref 67), some (.int v1)], [], (197, i, (zRF b), l)) := by
  refine (ze_aload_n 1 zm20 dX2_takes_0 rfl rfl).trans ?_
  refine (ze_getI 4 zm20 dX2_takes_1 f2_35 k67_2 (Or.inl t2_6) rfl).trans ?_
  refine (ze_bipush 6 zm20 dX2_takes_4 cb_6 rfl).trans ?_
  exact ze_icmp_lt 11 9 zm20 dX2_takes_6 (by decide) rfl
theorem b20_9 (sc : zScr) (v1 : Int32) (i : Nat → Nat → Int32) (b : Bool) (l : Nat → Nat → Int64) : zev sc (20, 9, [some (.ref 67), some (.int v1)], [], (197, i, (zRF b), l)) = some (.int (0 : Int32), (197, i, (zRF b), l)) := by
  refine (ze_iconst 10 zm20 dX2_takes_9 ci_0 rfl).trans ?_
  exact ze_zreturn zm20 dX2_takes_10 rfl (Or.inl rfl)
theorem b20_11 (sc : zScr) (v1 : Int32) (i : Nat → Nat → Int32) (b : Bool) (l : Nat → Nat → Int64) (h1 : vp_in (i 67 6) 6) : zev sc (20, 11, [some (.ref 67), some (.int v1)], [], (197, i, (zRF b), l)) = some (.int (1 : Int32), (197, (zU (zU i 68 ((i 67 6)).toNatClampNeg v1) 67 6 (((zU i 68 ((i 67 6)).toNatClampNeg v1) 67 6) + (1 : Int32))), (zRF b), l)) := by
  refine (ze_aload_n 12 zm20 dX2_takes_11 rfl rfl).trans ?_
  refine (ze_getR 15 zm20 dX2_takes_12 f2_9 k67_2 t2_2 (rr67_2 b) rfl).trans ?_
  refine (ze_aload_n 16 zm20 dX2_takes_15 rfl rfl).trans ?_
  refine (ze_getI 19 zm20 dX2_takes_16 f2_35 k67_2 (Or.inl t2_6) rfl).trans ?_
  refine (ze_iload_n 20 zm20 dX2_takes_19 rfl rfl).trans ?_
  refine (ze_iastore (t := ((i 67 6)).toNatClampNeg) 21 zm20 dX2_takes_20 k68_100 n68 h1 rfl rfl).trans ?_
  refine (ze_aload_n 22 zm20 dX2_takes_21 rfl rfl).trans ?_
  refine (ze_dup 23 zm20 dX2_takes_22 rfl rfl).trans ?_
  refine (ze_getI 26 zm20 dX2_takes_23 f2_35 k67_2 (Or.inl t2_6) rfl).trans ?_
  refine (ze_iconst 27 zm20 dX2_takes_26 ci_1 rfl).trans ?_
  refine (ze_iadd 28 zm20 dX2_takes_27 rfl).trans ?_
  refine (ze_putI 31 zm20 dX2_takes_28 f2_35 k67_2 (Or.inl fn2_6) t2_6 rfl).trans ?_
  refine (ze_iconst 32 zm20 dX2_takes_31 ci_1 rfl).trans ?_
  exact ze_zreturn zm20 dX2_takes_32 rfl (Or.inr rfl)
/-! HarpFences$Hearing.rowsFrom (II)I: method 21 -/
theorem b21_0 (sc : zScr) (v1 : Int32) (v2 : Int32) (i : Nat → Nat → Int32) (b : Bool) (l : Nat → Nat → Int64) : zev sc (21, 0, [some (.ref 67), some (.int v1), some (.int v2), none, none], [], (197, i, (zRF b), l)) = zev sc (21, 2, [some (.ref 67), some (.int v1), some (.int v2), some (.int (0 : Int32)), none], [], (197, i, (zRF b), l)) := by
  refine (ze_iconst 1 zm21 dX2_rowsFrom_0 ci_0 rfl).trans ?_
  refine (ze_istore_n (A := 99) (ls' := [some (.ref 67), some (.int v1), some (.int v2), some (.int (0 : Int32)), none]) 2 zm21 dX2_rowsFrom_1 za21 rfl rfl rfl rfl rfl).trans ?_
  rfl
theorem b21_2 (sc : zScr) (v1 : Int32) (v2 : Int32) (v3 : Int32) (i : Nat → Nat → Int32) (b : Bool) (l : Nat → Nat → Int64) : zev sc (21, 2, [some (.ref 67), some (.int v1), some (.int v2), some (.int v3), none], [], (197, i, (zRF b), l)) = if (i 3 0) ≤ v3 then zev sc (21, 35, [some (.ref 67), some (.int v1), some (.int v2), some (.int v3), none], [], (197, i, (zRF b), l)) else zev sc (21, 13, [some (.ref 67), some (.int v1), some (.int v2), some (.int v3), none], [], (197, i, (zRF b), l)) := by
  refine (ze_iload_n 3 zm21 dX2_rowsFrom_2 rfl rfl).trans ?_
  refine (ze_aload_n 4 zm21 dX2_rowsFrom_3 rfl rfl).trans ?_
  refine (ze_getR 7 zm21 dX2_rowsFrom_4 f2_34 k67_2 t2_1 (rr67_1 b) rfl).trans ?_
  refine (ze_getI 10 zm21 dX2_rowsFrom_7 f2_39 k3_4 (Or.inl t4_0) rfl).trans ?_
  exact ze_icmp_ge 35 13 zm21 dX2_rowsFrom_10 (by decide) rfl
theorem b21_13 (sc : zScr) (v1 : Int32) (v2 : Int32) (v3 : Int32) (i : Nat → Nat → Int32) (b : Bool) (l : Nat → Nat → Int64) : zev sc (21, 13, [some (.ref 67), some (.int v1), some (.int v2), some (.int v3), none], [], (197, i, (zRF b), l)) = if v3 = v2 then zev sc (21, 23, [some (.ref 67), some (.int v1), some (.int v2), some (.int v3), none], [.int v3, .ref (zrw b 4)], (197, i, (zRF b), l)) else zev sc (21, 27, [some (.ref 67), some (.int v1), some (.int v2), some (.int v3), none], [.int v3, .ref (zrw b 4)], (197, i, (zRF b), l)) := by
  refine (ze_aload_n 14 zm21 dX2_rowsFrom_13 rfl rfl).trans ?_
  refine (ze_getR (q := zrw b 4) 17 zm21 dX2_rowsFrom_14 f2_18 k67_2 t2_4 (rr67_4 b) rfl).trans ?_
  refine (ze_iload_n 18 zm21 dX2_rowsFrom_17 rfl rfl).trans ?_
  refine (ze_iload_n 19 zm21 dX2_rowsFrom_18 rfl rfl).trans ?_
  refine (ze_iload_n 20 zm21 dX2_rowsFrom_19 rfl rfl).trans ?_
  exact ze_icmp_ne 27 23 zm21 dX2_rowsFrom_20 (by decide) rfl
theorem b21_23 (sc : zScr) (v1 : Int32) (v2 : Int32) (v3 : Int32) (s0 : Int32) (i : Nat → Nat → Int32) (b : Bool) (l : Nat → Nat → Int64) : zev sc (21, 23, [some (.ref 67), some (.int v1), some (.int v2), some (.int v3), none], [.int s0, .ref (zrw b 4)], (197, i, (zRF b), l)) = zev sc (21, 28, [some (.ref 67), some (.int v1), some (.int v2), some (.int v3), none], [.int (1 : Int32), .int s0, .ref (zrw b 4)], (197, i, (zRF b), l)) := by
  refine (ze_iconst 24 zm21 dX2_rowsFrom_23 ci_1 rfl).trans ?_
  exact ze_goto 28 zm21 dX2_rowsFrom_24 (by decide)
theorem b21_27 (sc : zScr) (v1 : Int32) (v2 : Int32) (v3 : Int32) (s0 : Int32) (i : Nat → Nat → Int32) (b : Bool) (l : Nat → Nat → Int64) : zev sc (21, 27, [some (.ref 67), some (.int v1), some (.int v2), some (.int v3), none], [.int s0, .ref (zrw b 4)], (197, i, (zRF b), l)) = zev sc (21, 28, [some (.ref 67), some (.int v1), some (.int v2), some (.int v3), none], [.int (0 : Int32), .int s0, .ref (zrw b 4)], (197, i, (zRF b), l)) := by
  refine (ze_iconst 28 zm21 dX2_rowsFrom_27 ci_0 rfl).trans ?_
  rfl
theorem b21_28 (sc : zScr) (v1 : Int32) (v2 : Int32) (v3 : Int32) (s0 : Int32) (s1 : Int32) (i : Nat → Nat → Int32) (b : Bool) (l : Nat → Nat → Int64) (h1 : vp_in s1 8) : zev sc (21, 28, [some (.ref 67), some (.int v1), some (.int v2), some (.int v3), none], [.int s0, .int s1, .ref (zrw b 4)], (197, i, (zRF b), l)) = zev sc (21, 2, [some (.ref 67), some (.int v1), some (.int v2), some (.int (v3 + 1)), none], [], (197, (zU i (zrw b 4) s1.toNatClampNeg s0), (zRF b), l)) := by
  refine (ze_iastore (t := s1.toNatClampNeg) 29 zm21 dX2_rowsFrom_28 (zrw_k b _) (zrw_n b _) h1 rfl rfl).trans ?_
  refine (ze_iinc (v := (1 : Int32)) (A := 99) (ls' := [some (.ref 67), some (.int v1), some (.int v2), some (.int (v3 + 1)), none]) 32 zm21 dX2_rowsFrom_29 rfl ci_1 za21 rfl rfl rfl rfl rfl).trans ?_
  exact ze_goto 2 zm21 dX2_rowsFrom_32 (by decide)
theorem b21_35 (sc : zScr) (v1 : Int32) (v2 : Int32) (v3 : Int32) (i : Nat → Nat → Int32) (b : Bool) (l : Nat → Nat → Int64) : zev sc (21, 35, [some (.ref 67), some (.int v1), some (.int v2), some (.int v3), none], [], (197, i, (zRF b), l)) = zev sc (21, 37, [some (.ref 67), some (.int v1), some (.int v2), some (.int (0 : Int32)), none], [], (197, i, (zRF b), l)) := by
  refine (ze_iconst 36 zm21 dX2_rowsFrom_35 ci_0 rfl).trans ?_
  refine (ze_istore_n (A := 99) (ls' := [some (.ref 67), some (.int v1), some (.int v2), some (.int (0 : Int32)), none]) 37 zm21 dX2_rowsFrom_36 za21 rfl rfl rfl rfl rfl).trans ?_
  rfl
theorem b21_37 (sc : zScr) (v1 : Int32) (v2 : Int32) (v3 : Int32) (i : Nat → Nat → Int32) (b : Bool) (l : Nat → Nat → Int64) : zev sc (21, 37, [some (.ref 67), some (.int v1), some (.int v2), some (.int v3), none], [], (197, i, (zRF b), l)) = if (i 67 6) ≤ v3 then zev sc (21, 62, [some (.ref 67), some (.int v1), some (.int v2), some (.int v3), none], [], (197, i, (zRF b), l)) else zev sc (21, 45, [some (.ref 67), some (.int v1), some (.int v2), some (.int v3), none], [], (197, i, (zRF b), l)) := by
  refine (ze_iload_n 38 zm21 dX2_rowsFrom_37 rfl rfl).trans ?_
  refine (ze_aload_n 39 zm21 dX2_rowsFrom_38 rfl rfl).trans ?_
  refine (ze_getI 42 zm21 dX2_rowsFrom_39 f2_35 k67_2 (Or.inl t2_6) rfl).trans ?_
  exact ze_icmp_ge 62 45 zm21 dX2_rowsFrom_42 (by decide) rfl
theorem b21_45 (sc : zScr) (v1 : Int32) (v2 : Int32) (v3 : Int32) (i : Nat → Nat → Int32) (b : Bool) (l : Nat → Nat → Int64) (h1 : vp_in v3 6) : zev sc (21, 45, [some (.ref 67), some (.int v1), some (.int v2), some (.int v3), none], [], (197, i, (zRF b), l)) = (zev sc (22, 0, [some (.ref 67), some (.int v1), some (.int (i 68 v3.toNatClampNeg)), none, none, none], [], (197, i, (zRF b), l))).bind (fun x => zev sc (21, 56, [some (.ref 67), some (.int v1), some (.int v2), some (.int v3), none], [], x.2)) := by
  refine (ze_aload_n 46 zm21 dX2_rowsFrom_45 rfl rfl).trans ?_
  refine (ze_iload_n 47 zm21 dX2_rowsFrom_46 rfl rfl).trans ?_
  refine (ze_aload_n 48 zm21 dX2_rowsFrom_47 rfl rfl).trans ?_
  refine (ze_getR 51 zm21 dX2_rowsFrom_48 f2_9 k67_2 t2_2 (rr67_2 b) rfl).trans ?_
  refine (ze_iload_n 52 zm21 dX2_rowsFrom_51 rfl rfl).trans ?_
  refine (ze_iaload (t := v3.toNatClampNeg) 53 zm21 dX2_rowsFrom_52 k68_100 n68 h1 rfl rfl).trans ?_
  exact ze_virtV (as := [.int v1, .int (i 68 v3.toNatClampNeg)]) (rest := []) 56 zm21 dX2_rowsFrom_53 r2_44 zm22 rfl rfl k67_2 rfl rfl rfl rfl
theorem b21_56 (sc : zScr) (v1 : Int32) (v2 : Int32) (v3 : Int32) (i : Nat → Nat → Int32) (b : Bool) (l : Nat → Nat → Int64) : zev sc (21, 56, [some (.ref 67), some (.int v1), some (.int v2), some (.int v3), none], [], (197, i, (zRF b), l)) = zev sc (21, 37, [some (.ref 67), some (.int v1), some (.int v2), some (.int (v3 + 1)), none], [], (197, i, (zRF b), l)) := by
  refine (ze_iinc (v := (1 : Int32)) (A := 99) (ls' := [some (.ref 67), some (.int v1), some (.int v2), some (.int (v3 + 1)), none]) 59 zm21 dX2_rowsFrom_56 rfl ci_1 za21 rfl rfl rfl rfl rfl).trans ?_
  exact ze_goto 37 zm21 dX2_rowsFrom_59 (by decide)
theorem b21_62 (sc : zScr) (v1 : Int32) (v2 : Int32) (v3 : Int32) (i : Nat → Nat → Int32) (b : Bool) (l : Nat → Nat → Int64) : zev sc (21, 62, [some (.ref 67), some (.int v1), some (.int v2), some (.int v3), none], [], (197, i, (zRF b), l)) = zev sc (21, 67, [some (.ref 67), some (.int v1), some (.int v2), some (.int (0 : Int32)), some (.int (0 : Int32))], [], (197, i, (zRF b), l)) := by
  refine (ze_iconst 63 zm21 dX2_rowsFrom_62 ci_0 rfl).trans ?_
  refine (ze_istore_n (A := 99) (ls' := [some (.ref 67), some (.int v1), some (.int v2), some (.int (0 : Int32)), none]) 64 zm21 dX2_rowsFrom_63 za21 rfl rfl rfl rfl rfl).trans ?_
  refine (ze_iconst 65 zm21 dX2_rowsFrom_64 ci_0 rfl).trans ?_
  refine (ze_istore (A := 99) (ls' := [some (.ref 67), some (.int v1), some (.int v2), some (.int (0 : Int32)), some (.int (0 : Int32))]) 67 zm21 dX2_rowsFrom_65 za21 rfl rfl rfl rfl rfl).trans ?_
  rfl
theorem b21_67 (sc : zScr) (v1 : Int32) (v2 : Int32) (v3 : Int32) (v4 : Int32) (i : Nat → Nat → Int32) (b : Bool) (l : Nat → Nat → Int64) : zev sc (21, 67, [some (.ref 67), some (.int v1), some (.int v2), some (.int v3), some (.int v4)], [], (197, i, (zRF b), l)) = if (i 3 0) ≤ v4 then zev sc (21, 98, [some (.ref 67), some (.int v1), some (.int v2), some (.int v3), some (.int v4)], [], (197, i, (zRF b), l)) else zev sc (21, 79, [some (.ref 67), some (.int v1), some (.int v2), some (.int v3), some (.int v4)], [], (197, i, (zRF b), l)) := by
  refine (ze_iload 69 zm21 dX2_rowsFrom_67 rfl rfl).trans ?_
  refine (ze_aload_n 70 zm21 dX2_rowsFrom_69 rfl rfl).trans ?_
  refine (ze_getR 73 zm21 dX2_rowsFrom_70 f2_34 k67_2 t2_1 (rr67_1 b) rfl).trans ?_
  refine (ze_getI 76 zm21 dX2_rowsFrom_73 f2_39 k3_4 (Or.inl t4_0) rfl).trans ?_
  exact ze_icmp_ge 98 79 zm21 dX2_rowsFrom_76 (by decide) rfl
theorem b21_79 (sc : zScr) (v1 : Int32) (v2 : Int32) (v3 : Int32) (v4 : Int32) (i : Nat → Nat → Int32) (b : Bool) (l : Nat → Nat → Int64) (h1 : vp_in v4 8) : zev sc (21, 79, [some (.ref 67), some (.int v1), some (.int v2), some (.int v3), some (.int v4)], [], (197, i, (zRF b), l)) = zev sc (21, 67, [some (.ref 67), some (.int v1), some (.int v2), some (.int ((v3 + (i (zrw b 4) v4.toNatClampNeg)) - (v3 + (i (zrw b 4) v4.toNatClampNeg)) / (1000003 : Int32) * (1000003 : Int32))), some (.int (v4 + 1))], [], (197, i, (zRF b), l)) := by
  refine (ze_iload_n 80 zm21 dX2_rowsFrom_79 rfl rfl).trans ?_
  refine (ze_aload_n 81 zm21 dX2_rowsFrom_80 rfl rfl).trans ?_
  refine (ze_getR (q := zrw b 4) 84 zm21 dX2_rowsFrom_81 f2_18 k67_2 t2_4 (rr67_4 b) rfl).trans ?_
  refine (ze_iload 86 zm21 dX2_rowsFrom_84 rfl rfl).trans ?_
  refine (ze_iaload (t := v4.toNatClampNeg) 87 zm21 dX2_rowsFrom_86 (zrw_k b _) (zrw_n b _) h1 rfl rfl).trans ?_
  refine (ze_iadd 88 zm21 dX2_rowsFrom_87 rfl).trans ?_
  refine (ze_ldc 90 zm21 dX2_rowsFrom_88 zi_2_48 rfl).trans ?_
  refine (ze_irem 91 zm21 dX2_rowsFrom_90 (by decide) rfl).trans ?_
  refine (ze_istore_n (A := 99) (ls' := [some (.ref 67), some (.int v1), some (.int v2), some (.int ((v3 + (i (zrw b 4) v4.toNatClampNeg)) - (v3 + (i (zrw b 4) v4.toNatClampNeg)) / (1000003 : Int32) * (1000003 : Int32))), some (.int v4)]) 92 zm21 dX2_rowsFrom_91 za21 rfl rfl rfl rfl rfl).trans ?_
  refine (ze_iinc (v := (1 : Int32)) (A := 99) (ls' := [some (.ref 67), some (.int v1), some (.int v2), some (.int ((v3 + (i (zrw b 4) v4.toNatClampNeg)) - (v3 + (i (zrw b 4) v4.toNatClampNeg)) / (1000003 : Int32) * (1000003 : Int32))), some (.int (v4 + 1))]) 95 zm21 dX2_rowsFrom_92 rfl ci_1 za21 rfl rfl rfl rfl rfl).trans ?_
  exact ze_goto 67 zm21 dX2_rowsFrom_95 (by decide)
theorem b21_98 (sc : zScr) (v1 : Int32) (v2 : Int32) (v3 : Int32) (v4 : Int32) (i : Nat → Nat → Int32) (b : Bool) (l : Nat → Nat → Int64) : zev sc (21, 98, [some (.ref 67), some (.int v1), some (.int v2), some (.int v3), some (.int v4)], [], (197, i, (zRF b), l)) = some (.int v3, (197, i, (zRF b), l)) := by
  refine (ze_iload_n 99 zm21 dX2_rowsFrom_98 rfl rfl).trans ?_
  exact ze_ireturn zm21 dX2_rowsFrom_99 rfl
/-! HarpFences$Hearing.crossAll (II)V: method 22 -/
theorem b22_0 (sc : zScr) (v1 : Int32) (v2 : Int32) (i : Nat → Nat → Int32) (b : Bool) (l : Nat → Nat → Int64) : zev sc (22, 0, [some (.ref 67), some (.int v1), some (.int v2), none, none, none], [], (197, i, (zRF b), l)) = zev sc (22, 2, [some (.ref 67), some (.int v1), some (.int v2), some (.int (0 : Int32)), none, none], [], (197, i, (zRF b), l)) := by
  refine (ze_iconst 1 zm22 dX2_crossAll_0 ci_0 rfl).trans ?_
  refine (ze_istore_n (A := 99) (ls' := [some (.ref 67), some (.int v1), some (.int v2), some (.int (0 : Int32)), none, none]) 2 zm22 dX2_crossAll_1 za22 rfl rfl rfl rfl rfl).trans ?_
  rfl
theorem b22_2 (sc : zScr) (v1 : Int32) (v2 : Int32) (v3 : Int32) (i : Nat → Nat → Int32) (b : Bool) (l : Nat → Nat → Int64) : zev sc (22, 2, [some (.ref 67), some (.int v1), some (.int v2), some (.int v3), none, none], [], (197, i, (zRF b), l)) = if (i 3 0) ≤ v3 then zev sc (22, 26, [some (.ref 67), some (.int v1), some (.int v2), some (.int v3), none, none], [], (197, i, (zRF b), l)) else zev sc (22, 13, [some (.ref 67), some (.int v1), some (.int v2), some (.int v3), none, none], [], (197, i, (zRF b), l)) := by
  refine (ze_iload_n 3 zm22 dX2_crossAll_2 rfl rfl).trans ?_
  refine (ze_aload_n 4 zm22 dX2_crossAll_3 rfl rfl).trans ?_
  refine (ze_getR 7 zm22 dX2_crossAll_4 f2_34 k67_2 t2_1 (rr67_1 b) rfl).trans ?_
  refine (ze_getI 10 zm22 dX2_crossAll_7 f2_39 k3_4 (Or.inl t4_0) rfl).trans ?_
  exact ze_icmp_ge 26 13 zm22 dX2_crossAll_10 (by decide) rfl
theorem b22_13 (sc : zScr) (v1 : Int32) (v2 : Int32) (v3 : Int32) (i : Nat → Nat → Int32) (b : Bool) (l : Nat → Nat → Int64) (h1 : vp_in v3 8) : zev sc (22, 13, [some (.ref 67), some (.int v1), some (.int v2), some (.int v3), none, none], [], (197, i, (zRF b), l)) = zev sc (22, 2, [some (.ref 67), some (.int v1), some (.int v2), some (.int (v3 + 1)), none, none], [], (197, (zU i (zrw b 5) v3.toNatClampNeg (0 : Int32)), (zRF b), l)) := by
  refine (ze_aload_n 14 zm22 dX2_crossAll_13 rfl rfl).trans ?_
  refine (ze_getR (q := zrw b 5) 17 zm22 dX2_crossAll_14 f2_21 k67_2 t2_5 (rr67_5 b) rfl).trans ?_
  refine (ze_iload_n 18 zm22 dX2_crossAll_17 rfl rfl).trans ?_
  refine (ze_iconst 19 zm22 dX2_crossAll_18 ci_0 rfl).trans ?_
  refine (ze_iastore (t := v3.toNatClampNeg) 20 zm22 dX2_crossAll_19 (zrw_k b _) (zrw_n b _) h1 rfl rfl).trans ?_
  refine (ze_iinc (v := (1 : Int32)) (A := 99) (ls' := [some (.ref 67), some (.int v1), some (.int v2), some (.int (v3 + 1)), none, none]) 23 zm22 dX2_crossAll_20 rfl ci_1 za22 rfl rfl rfl rfl rfl).trans ?_
  exact ze_goto 2 zm22 dX2_crossAll_23 (by decide)
theorem b22_26 (sc : zScr) (v1 : Int32) (v2 : Int32) (v3 : Int32) (i : Nat → Nat → Int32) (b : Bool) (l : Nat → Nat → Int64) : zev sc (22, 26, [some (.ref 67), some (.int v1), some (.int v2), some (.int v3), none, none], [], (197, i, (zRF b), l)) = zev sc (22, 28, [some (.ref 67), some (.int v1), some (.int v2), some (.int (0 : Int32)), none, none], [], (197, i, (zRF b), l)) := by
  refine (ze_iconst 27 zm22 dX2_crossAll_26 ci_0 rfl).trans ?_
  refine (ze_istore_n (A := 99) (ls' := [some (.ref 67), some (.int v1), some (.int v2), some (.int (0 : Int32)), none, none]) 28 zm22 dX2_crossAll_27 za22 rfl rfl rfl rfl rfl).trans ?_
  rfl
theorem b22_28 (sc : zScr) (v1 : Int32) (v2 : Int32) (v3 : Int32) (w4 : Option Value) (w5 : Option Value) (i : Nat → Nat → Int32) (b : Bool) (l : Nat → Nat → Int64) : zev sc (22, 28, [some (.ref 67), some (.int v1), some (.int v2), some (.int v3), w4, w5], [], (197, i, (zRF b), l)) = if (i 3 1) ≤ v3 then zev sc (22, 130, [some (.ref 67), some (.int v1), some (.int v2), some (.int v3), w4, w5], [], (197, i, (zRF b), l)) else zev sc (22, 39, [some (.ref 67), some (.int v1), some (.int v2), some (.int v3), w4, w5], [], (197, i, (zRF b), l)) := by
  refine (ze_iload_n 29 zm22 dX2_crossAll_28 rfl rfl).trans ?_
  refine (ze_aload_n 30 zm22 dX2_crossAll_29 rfl rfl).trans ?_
  refine (ze_getR 33 zm22 dX2_crossAll_30 f2_34 k67_2 t2_1 (rr67_1 b) rfl).trans ?_
  refine (ze_getI 36 zm22 dX2_crossAll_33 f2_49 k3_4 (Or.inl t4_1) rfl).trans ?_
  exact ze_icmp_ge 130 39 zm22 dX2_crossAll_36 (by decide) rfl
theorem b22_39 (sc : zScr) (v1 : Int32) (v2 : Int32) (v3 : Int32) (w4 : Option Value) (w5 : Option Value) (i : Nat → Nat → Int32) (b : Bool) (l : Nat → Nat → Int64) : zev sc (22, 39, [some (.ref 67), some (.int v1), some (.int v2), some (.int v3), w4, w5], [], (197, i, (zRF b), l)) = (zev sc (15, 0, [some (.ref 23), some (.int v1), some (.int v3)], [], (197, i, (zRF b), l))).bind (fun x => zev sc (22, 48, [some (.ref 67), some (.int v1), some (.int v2), some (.int v3), w4, w5], [x.1], x.2)) := by
  refine (ze_aload_n 40 zm22 dX2_crossAll_39 rfl rfl).trans ?_
  refine (ze_getR 43 zm22 dX2_crossAll_40 f2_24 k67_2 t2_0 (rr67_0 b) rfl).trans ?_
  refine (ze_iload_n 44 zm22 dX2_crossAll_43 rfl rfl).trans ?_
  refine (ze_iload_n 45 zm22 dX2_crossAll_44 rfl rfl).trans ?_
  exact ze_virtI (as := [.int v1, .int v3]) (rest := []) 48 zm22 dX2_crossAll_45 r2_52 zm15 rfl rfl k23_1 rfl rfl rfl rfl
theorem b22_48 (sc : zScr) (v1 : Int32) (v2 : Int32) (v3 : Int32) (w4 : Option Value) (w5 : Option Value) (s0 : Int32) (i : Nat → Nat → Int32) (b : Bool) (l : Nat → Nat → Int64) : zev sc (22, 48, [some (.ref 67), some (.int v1), some (.int v2), some (.int v3), w4, w5], [.int s0], (197, i, (zRF b), l)) = if s0 = v2 then zev sc (22, 52, [some (.ref 67), some (.int v1), some (.int v2), some (.int v3), w4, w5], [], (197, i, (zRF b), l)) else zev sc (22, 124, [some (.ref 67), some (.int v1), some (.int v2), some (.int v3), w4, w5], [], (197, i, (zRF b), l)) := by
  refine (ze_iload_n 49 zm22 dX2_crossAll_48 rfl rfl).trans ?_
  exact ze_icmp_ne 124 52 zm22 dX2_crossAll_49 (by decide) rfl
theorem b22_52 (sc : zScr) (v1 : Int32) (v2 : Int32) (v3 : Int32) (w4 : Option Value) (w5 : Option Value) (i : Nat → Nat → Int32) (b : Bool) (l : Nat → Nat → Int64) (h1 : vp_in v3 8) (h2 : vp_in (i 4 v3.toNatClampNeg) 8) (h3 : vp_in (i 5 v3.toNatClampNeg) 8) : zev sc (22, 52, [some (.ref 67), some (.int v1), some (.int v2), some (.int v3), w4, w5], [], (197, i, (zRF b), l)) = zev sc (22, 124, [some (.ref 67), some (.int v1), some (.int v2), some (.int v3), some (.int (i 4 v3.toNatClampNeg)), some (.int (i 5 v3.toNatClampNeg))], [], (197, (zU (zU i (zrw b 5) ((i 4 v3.toNatClampNeg)).toNatClampNeg (((i (zrw b 5) ((i 4 v3.toNatClampNeg)).toNatClampNeg) + (i (zrw b 4) ((i 5 v3.toNatClampNeg)).toNatClampNeg)) - ((i (zrw b 5) ((i 4 v3.toNatClampNeg)).toNatClampNeg) + (i (zrw b 4) ((i 5 v3.toNatClampNeg)).toNatClampNeg)) / (1000003 : Int32) * (1000003 : Int32))) (zrw b 5) ((i 5 v3.toNatClampNeg)).toNatClampNeg ((((zU i (zrw b 5) ((i 4 v3.toNatClampNeg)).toNatClampNeg (((i (zrw b 5) ((i 4 v3.toNatClampNeg)).toNatClampNeg) + (i (zrw b 4) ((i 5 v3.toNatClampNeg)).toNatClampNeg)) - ((i (zrw b 5) ((i 4 v3.toNatClampNeg)).toNatClampNeg) + (i (zrw b 4) ((i 5 v3.toNatClampNeg)).toNatClampNeg)) / (1000003 : Int32) * (1000003 : Int32))) (zrw b 5) ((i 5 v3.toNatClampNeg)).toNatClampNeg) + ((zU i (zrw b 5) ((i 4 v3.toNatClampNeg)).toNatClampNeg (((i (zrw b 5) ((i 4 v3.toNatClampNeg)).toNatClampNeg) + (i (zrw b 4) ((i 5 v3.toNatClampNeg)).toNatClampNeg)) - ((i (zrw b 5) ((i 4 v3.toNatClampNeg)).toNatClampNeg) + (i (zrw b 4) ((i 5 v3.toNatClampNeg)).toNatClampNeg)) / (1000003 : Int32) * (1000003 : Int32))) (zrw b 4) ((i 4 v3.toNatClampNeg)).toNatClampNeg)) - (((zU i (zrw b 5) ((i 4 v3.toNatClampNeg)).toNatClampNeg (((i (zrw b 5) ((i 4 v3.toNatClampNeg)).toNatClampNeg) + (i (zrw b 4) ((i 5 v3.toNatClampNeg)).toNatClampNeg)) - ((i (zrw b 5) ((i 4 v3.toNatClampNeg)).toNatClampNeg) + (i (zrw b 4) ((i 5 v3.toNatClampNeg)).toNatClampNeg)) / (1000003 : Int32) * (1000003 : Int32))) (zrw b 5) ((i 5 v3.toNatClampNeg)).toNatClampNeg) + ((zU i (zrw b 5) ((i 4 v3.toNatClampNeg)).toNatClampNeg (((i (zrw b 5) ((i 4 v3.toNatClampNeg)).toNatClampNeg) + (i (zrw b 4) ((i 5 v3.toNatClampNeg)).toNatClampNeg)) - ((i (zrw b 5) ((i 4 v3.toNatClampNeg)).toNatClampNeg) + (i (zrw b 4) ((i 5 v3.toNatClampNeg)).toNatClampNeg)) / (1000003 : Int32) * (1000003 : Int32))) (zrw b 4) ((i 4 v3.toNatClampNeg)).toNatClampNeg)) / (1000003 : Int32) * (1000003 : Int32))), (zRF b), l)) := by
  refine (ze_aload_n 53 zm22 dX2_crossAll_52 rfl rfl).trans ?_
  refine (ze_getR 56 zm22 dX2_crossAll_53 f2_34 k67_2 t2_1 (rr67_1 b) rfl).trans ?_
  refine (ze_getR 59 zm22 dX2_crossAll_56 f2_56 k3_4 t4_2 (rr3_2 b) rfl).trans ?_
  refine (ze_iload_n 60 zm22 dX2_crossAll_59 rfl rfl).trans ?_
  refine (ze_iaload (t := v3.toNatClampNeg) 61 zm22 dX2_crossAll_60 k4_100 n4 h1 rfl rfl).trans ?_
  refine (ze_istore (A := 99) (ls' := [some (.ref 67), some (.int v1), some (.int v2), some (.int v3), some (.int (i 4 v3.toNatClampNeg)), w5]) 63 zm22 dX2_crossAll_61 za22 rfl rfl rfl rfl rfl).trans ?_
  refine (ze_aload_n 64 zm22 dX2_crossAll_63 rfl rfl).trans ?_
  refine (ze_getR 67 zm22 dX2_crossAll_64 f2_34 k67_2 t2_1 (rr67_1 b) rfl).trans ?_
  refine (ze_getR 70 zm22 dX2_crossAll_67 f2_59 k3_4 t4_3 (rr3_3 b) rfl).trans ?_
  refine (ze_iload_n 71 zm22 dX2_crossAll_70 rfl rfl).trans ?_
  refine (ze_iaload (t := v3.toNatClampNeg) 72 zm22 dX2_crossAll_71 k5_100 n5 h1 rfl rfl).trans ?_
  refine (ze_istore (A := 99) (ls' := [some (.ref 67), some (.int v1), some (.int v2), some (.int v3), some (.int (i 4 v3.toNatClampNeg)), some (.int (i 5 v3.toNatClampNeg))]) 74 zm22 dX2_crossAll_72 za22 rfl rfl rfl rfl rfl).trans ?_
  refine (ze_aload_n 75 zm22 dX2_crossAll_74 rfl rfl).trans ?_
  refine (ze_getR (q := zrw b 5) 78 zm22 dX2_crossAll_75 f2_21 k67_2 t2_5 (rr67_5 b) rfl).trans ?_
  refine (ze_iload 80 zm22 dX2_crossAll_78 rfl rfl).trans ?_
  refine (ze_aload_n 81 zm22 dX2_crossAll_80 rfl rfl).trans ?_
  refine (ze_getR (q := zrw b 5) 84 zm22 dX2_crossAll_81 f2_21 k67_2 t2_5 (rr67_5 b) rfl).trans ?_
  refine (ze_iload 86 zm22 dX2_crossAll_84 rfl rfl).trans ?_
  refine (ze_iaload (t := ((i 4 v3.toNatClampNeg)).toNatClampNeg) 87 zm22 dX2_crossAll_86 (zrw_k b _) (zrw_n b _) h2 rfl rfl).trans ?_
  refine (ze_aload_n 88 zm22 dX2_crossAll_87 rfl rfl).trans ?_
  refine (ze_getR (q := zrw b 4) 91 zm22 dX2_crossAll_88 f2_18 k67_2 t2_4 (rr67_4 b) rfl).trans ?_
  refine (ze_iload 93 zm22 dX2_crossAll_91 rfl rfl).trans ?_
  refine (ze_iaload (t := ((i 5 v3.toNatClampNeg)).toNatClampNeg) 94 zm22 dX2_crossAll_93 (zrw_k b _) (zrw_n b _) h3 rfl rfl).trans ?_
  refine (ze_iadd 95 zm22 dX2_crossAll_94 rfl).trans ?_
  refine (ze_ldc 97 zm22 dX2_crossAll_95 zi_2_48 rfl).trans ?_
  refine (ze_irem 98 zm22 dX2_crossAll_97 (by decide) rfl).trans ?_
  refine (ze_iastore (t := ((i 4 v3.toNatClampNeg)).toNatClampNeg) 99 zm22 dX2_crossAll_98 (zrw_k b _) (zrw_n b _) h2 rfl rfl).trans ?_
  refine (ze_aload_n 100 zm22 dX2_crossAll_99 rfl rfl).trans ?_
  refine (ze_getR (q := zrw b 5) 103 zm22 dX2_crossAll_100 f2_21 k67_2 t2_5 (rr67_5 b) rfl).trans ?_
  refine (ze_iload 105 zm22 dX2_crossAll_103 rfl rfl).trans ?_
  refine (ze_aload_n 106 zm22 dX2_crossAll_105 rfl rfl).trans ?_
  refine (ze_getR (q := zrw b 5) 109 zm22 dX2_crossAll_106 f2_21 k67_2 t2_5 (rr67_5 b) rfl).trans ?_
  refine (ze_iload 111 zm22 dX2_crossAll_109 rfl rfl).trans ?_
  refine (ze_iaload (t := ((i 5 v3.toNatClampNeg)).toNatClampNeg) 112 zm22 dX2_crossAll_111 (zrw_k b _) (zrw_n b _) h3 rfl rfl).trans ?_
  refine (ze_aload_n 113 zm22 dX2_crossAll_112 rfl rfl).trans ?_
  refine (ze_getR (q := zrw b 4) 116 zm22 dX2_crossAll_113 f2_18 k67_2 t2_4 (rr67_4 b) rfl).trans ?_
  refine (ze_iload 118 zm22 dX2_crossAll_116 rfl rfl).trans ?_
  refine (ze_iaload (t := ((i 4 v3.toNatClampNeg)).toNatClampNeg) 119 zm22 dX2_crossAll_118 (zrw_k b _) (zrw_n b _) h2 rfl rfl).trans ?_
  refine (ze_iadd 120 zm22 dX2_crossAll_119 rfl).trans ?_
  refine (ze_ldc 122 zm22 dX2_crossAll_120 zi_2_48 rfl).trans ?_
  refine (ze_irem 123 zm22 dX2_crossAll_122 (by decide) rfl).trans ?_
  refine (ze_iastore (t := ((i 5 v3.toNatClampNeg)).toNatClampNeg) 124 zm22 dX2_crossAll_123 (zrw_k b _) (zrw_n b _) h3 rfl rfl).trans ?_
  rfl
theorem b22_124 (sc : zScr) (v1 : Int32) (v2 : Int32) (v3 : Int32) (w4 : Option Value) (w5 : Option Value) (i : Nat → Nat → Int32) (b : Bool) (l : Nat → Nat → Int64) : zev sc (22, 124, [some (.ref 67), some (.int v1), some (.int v2), some (.int v3), w4, w5], [], (197, i, (zRF b), l)) = zev sc (22, 28, [some (.ref 67), some (.int v1), some (.int v2), some (.int (v3 + 1)), w4, w5], [], (197, i, (zRF b), l)) := by
  refine (ze_iinc (v := (1 : Int32)) (A := 99) (ls' := [some (.ref 67), some (.int v1), some (.int v2), some (.int (v3 + 1)), w4, w5]) 127 zm22 dX2_crossAll_124 rfl ci_1 za22 rfl rfl rfl rfl rfl).trans ?_
  exact ze_goto 28 zm22 dX2_crossAll_127 (by decide)
theorem b22_130 (sc : zScr) (v1 : Int32) (v2 : Int32) (v3 : Int32) (w4 : Option Value) (w5 : Option Value) (i : Nat → Nat → Int32) (b : Bool) (l : Nat → Nat → Int64) : zev sc (22, 130, [some (.ref 67), some (.int v1), some (.int v2), some (.int v3), w4, w5], [], (197, i, (zRF b), l)) = some (.null, (197, i, (zU (zU (zRF b) 67 4 (some (zrw b 5))) 67 5 (some (zrw b 4))), l)) := by
  refine (ze_aload_n 131 zm22 dX2_crossAll_130 rfl rfl).trans ?_
  refine (ze_getR (q := zrw b 4) 134 zm22 dX2_crossAll_131 f2_18 k67_2 t2_4 (rr67_4 b) rfl).trans ?_
  refine (ze_astore_n (A := 99) (ls' := [some (.ref 67), some (.int v1), some (.int v2), some (.ref (zrw b 4)), w4, w5]) 135 zm22 dX2_crossAll_134 za22 rfl rfl rfl rfl rfl).trans ?_
  refine (ze_aload_n 136 zm22 dX2_crossAll_135 rfl rfl).trans ?_
  refine (ze_aload_n 137 zm22 dX2_crossAll_136 rfl rfl).trans ?_
  refine (ze_getR (q := zrw b 5) 140 zm22 dX2_crossAll_137 f2_21 k67_2 t2_5 (rr67_5 b) rfl).trans ?_
  refine (ze_putR 143 zm22 dX2_crossAll_140 f2_18 k67_2 (Or.inl fn2_4) t2_4 rfl).trans ?_
  refine (ze_aload_n 144 zm22 dX2_crossAll_143 rfl rfl).trans ?_
  refine (ze_aload_n 145 zm22 dX2_crossAll_144 rfl rfl).trans ?_
  refine (ze_putR 148 zm22 dX2_crossAll_145 f2_21 k67_2 (Or.inl fn2_5) t2_5 rfl).trans ?_
  exact ze_return zm22 dX2_crossAll_148 rfl
/-! HarpFences$Hearing.endsOf (I)I: method 23 -/
theorem b23_0 (sc : zScr) (v1 : Int32) (i : Nat → Nat → Int32) (b : Bool) (l : Nat → Nat → Int64) : zev sc (23, 0, [some (.ref 67), some (.int v1), none, none], [], (197, i, (zRF b), l)) = zev sc (23, 14, [some (.ref 67), some (.int v1), some (.int (((1 : Int32) <<< ((i 3 0) &&& 31)) - (1 : Int32))), some (.int (0 : Int32))], [], (197, i, (zRF b), l)) := by
  refine (ze_iconst 1 zm23 dX2_endsOf_0 ci_1 rfl).trans ?_
  refine (ze_aload_n 2 zm23 dX2_endsOf_1 rfl rfl).trans ?_
  refine (ze_getR 5 zm23 dX2_endsOf_2 f2_34 k67_2 t2_1 (rr67_1 b) rfl).trans ?_
  refine (ze_getI 8 zm23 dX2_endsOf_5 f2_39 k3_4 (Or.inl t4_0) rfl).trans ?_
  refine (ze_ishl 9 zm23 dX2_endsOf_8 rfl).trans ?_
  refine (ze_iconst 10 zm23 dX2_endsOf_9 ci_1 rfl).trans ?_
  refine (ze_isub 11 zm23 dX2_endsOf_10 rfl).trans ?_
  refine (ze_istore_n (A := 99) (ls' := [some (.ref 67), some (.int v1), some (.int (((1 : Int32) <<< ((i 3 0) &&& 31)) - (1 : Int32))), none]) 12 zm23 dX2_endsOf_11 za23 rfl rfl rfl rfl rfl).trans ?_
  refine (ze_iconst 13 zm23 dX2_endsOf_12 ci_0 rfl).trans ?_
  refine (ze_istore_n (A := 99) (ls' := [some (.ref 67), some (.int v1), some (.int (((1 : Int32) <<< ((i 3 0) &&& 31)) - (1 : Int32))), some (.int (0 : Int32))]) 14 zm23 dX2_endsOf_13 za23 rfl rfl rfl rfl rfl).trans ?_
  rfl
theorem b23_14 (sc : zScr) (v1 : Int32) (v2 : Int32) (v3 : Int32) (i : Nat → Nat → Int32) (b : Bool) (l : Nat → Nat → Int64) : zev sc (23, 14, [some (.ref 67), some (.int v1), some (.int v2), some (.int v3)], [], (197, i, (zRF b), l)) = if (i 67 6) ≤ v3 then zev sc (23, 41, [some (.ref 67), some (.int v1), some (.int v2), some (.int v3)], [], (197, i, (zRF b), l)) else zev sc (23, 22, [some (.ref 67), some (.int v1), some (.int v2), some (.int v3)], [], (197, i, (zRF b), l)) := by
  refine (ze_iload_n 15 zm23 dX2_endsOf_14 rfl rfl).trans ?_
  refine (ze_aload_n 16 zm23 dX2_endsOf_15 rfl rfl).trans ?_
  refine (ze_getI 19 zm23 dX2_endsOf_16 f2_35 k67_2 (Or.inl t2_6) rfl).trans ?_
  exact ze_icmp_ge 41 22 zm23 dX2_endsOf_19 (by decide) rfl
theorem b23_22 (sc : zScr) (v1 : Int32) (v2 : Int32) (v3 : Int32) (i : Nat → Nat → Int32) (b : Bool) (l : Nat → Nat → Int64) (h1 : vp_in v3 6) : zev sc (23, 22, [some (.ref 67), some (.int v1), some (.int v2), some (.int v3)], [], (197, i, (zRF b), l)) = (zev sc (24, 0, [some (.ref 67), some (.int v1), some (.int v2), some (.int (i 68 v3.toNatClampNeg)), none, none], [], (197, i, (zRF b), l))).bind (fun x => zev sc (23, 34, [some (.ref 67), some (.int v1), some (.int v2), some (.int v3)], [x.1], x.2)) := by
  refine (ze_aload_n 23 zm23 dX2_endsOf_22 rfl rfl).trans ?_
  refine (ze_iload_n 24 zm23 dX2_endsOf_23 rfl rfl).trans ?_
  refine (ze_iload_n 25 zm23 dX2_endsOf_24 rfl rfl).trans ?_
  refine (ze_aload_n 26 zm23 dX2_endsOf_25 rfl rfl).trans ?_
  refine (ze_getR 29 zm23 dX2_endsOf_26 f2_9 k67_2 t2_2 (rr67_2 b) rfl).trans ?_
  refine (ze_iload_n 30 zm23 dX2_endsOf_29 rfl rfl).trans ?_
  refine (ze_iaload (t := v3.toNatClampNeg) 31 zm23 dX2_endsOf_30 k68_100 n68 h1 rfl rfl).trans ?_
  exact ze_virtI (as := [.int v1, .int v2, .int (i 68 v3.toNatClampNeg)]) (rest := []) 34 zm23 dX2_endsOf_31 r2_62 zm24 rfl rfl k67_2 rfl rfl rfl rfl
theorem b23_34 (sc : zScr) (v1 : Int32) (v2 : Int32) (v3 : Int32) (s0 : Int32) (i : Nat → Nat → Int32) (b : Bool) (l : Nat → Nat → Int64) : zev sc (23, 34, [some (.ref 67), some (.int v1), some (.int v2), some (.int v3)], [.int s0], (197, i, (zRF b), l)) = zev sc (23, 14, [some (.ref 67), some (.int v1), some (.int s0), some (.int (v3 + 1))], [], (197, i, (zRF b), l)) := by
  refine (ze_istore_n (A := 99) (ls' := [some (.ref 67), some (.int v1), some (.int s0), some (.int v3)]) 35 zm23 dX2_endsOf_34 za23 rfl rfl rfl rfl rfl).trans ?_
  refine (ze_iinc (v := (1 : Int32)) (A := 99) (ls' := [some (.ref 67), some (.int v1), some (.int s0), some (.int (v3 + 1))]) 38 zm23 dX2_endsOf_35 rfl ci_1 za23 rfl rfl rfl rfl rfl).trans ?_
  exact ze_goto 14 zm23 dX2_endsOf_38 (by decide)
theorem b23_41 (sc : zScr) (v1 : Int32) (v2 : Int32) (v3 : Int32) (i : Nat → Nat → Int32) (b : Bool) (l : Nat → Nat → Int64) : zev sc (23, 41, [some (.ref 67), some (.int v1), some (.int v2), some (.int v3)], [], (197, i, (zRF b), l)) = some (.int v2, (197, i, (zRF b), l)) := by
  refine (ze_iload_n 42 zm23 dX2_endsOf_41 rfl rfl).trans ?_
  exact ze_ireturn zm23 dX2_endsOf_42 rfl
/-! HarpFences$Hearing.endsBehind (III)I: method 24 -/
theorem b24_0 (sc : zScr) (v1 : Int32) (v2 : Int32) (v3 : Int32) (i : Nat → Nat → Int32) (b : Bool) (l : Nat → Nat → Int64) : zev sc (24, 0, [some (.ref 67), some (.int v1), some (.int v2), some (.int v3), none, none], [], (197, i, (zRF b), l)) = zev sc (24, 6, [some (.ref 67), some (.int v1), some (.int v2), some (.int v3), some (.int (0 : Int32)), some (.int (0 : Int32))], [], (197, i, (zRF b), l)) := by
  refine (ze_iconst 1 zm24 dX2_endsBehind_0 ci_0 rfl).trans ?_
  refine (ze_istore (A := 99) (ls' := [some (.ref 67), some (.int v1), some (.int v2), some (.int v3), some (.int (0 : Int32)), none]) 3 zm24 dX2_endsBehind_1 za24 rfl rfl rfl rfl rfl).trans ?_
  refine (ze_iconst 4 zm24 dX2_endsBehind_3 ci_0 rfl).trans ?_
  refine (ze_istore (A := 99) (ls' := [some (.ref 67), some (.int v1), some (.int v2), some (.int v3), some (.int (0 : Int32)), some (.int (0 : Int32))]) 6 zm24 dX2_endsBehind_4 za24 rfl rfl rfl rfl rfl).trans ?_
  rfl
theorem b24_6 (sc : zScr) (v1 : Int32) (v2 : Int32) (v3 : Int32) (v4 : Int32) (v5 : Int32) (i : Nat → Nat → Int32) (b : Bool) (l : Nat → Nat → Int64) : zev sc (24, 6, [some (.ref 67), some (.int v1), some (.int v2), some (.int v3), some (.int v4), some (.int v5)], [], (197, i, (zRF b), l)) = if (i 3 1) ≤ v5 then zev sc (24, 98, [some (.ref 67), some (.int v1), some (.int v2), some (.int v3), some (.int v4), some (.int v5)], [], (197, i, (zRF b), l)) else zev sc (24, 18, [some (.ref 67), some (.int v1), some (.int v2), some (.int v3), some (.int v4), some (.int v5)], [], (197, i, (zRF b), l)) := by
  refine (ze_iload 8 zm24 dX2_endsBehind_6 rfl rfl).trans ?_
  refine (ze_aload_n 9 zm24 dX2_endsBehind_8 rfl rfl).trans ?_
  refine (ze_getR 12 zm24 dX2_endsBehind_9 f2_34 k67_2 t2_1 (rr67_1 b) rfl).trans ?_
  refine (ze_getI 15 zm24 dX2_endsBehind_12 f2_49 k3_4 (Or.inl t4_1) rfl).trans ?_
  exact ze_icmp_ge 98 18 zm24 dX2_endsBehind_15 (by decide) rfl
theorem b24_18 (sc : zScr) (v1 : Int32) (v2 : Int32) (v3 : Int32) (v4 : Int32) (v5 : Int32) (i : Nat → Nat → Int32) (b : Bool) (l : Nat → Nat → Int64) : zev sc (24, 18, [some (.ref 67), some (.int v1), some (.int v2), some (.int v3), some (.int v4), some (.int v5)], [], (197, i, (zRF b), l)) = (zev sc (15, 0, [some (.ref 23), some (.int v1), some (.int v5)], [], (197, i, (zRF b), l))).bind (fun x => zev sc (24, 28, [some (.ref 67), some (.int v1), some (.int v2), some (.int v3), some (.int v4), some (.int v5)], [x.1], x.2)) := by
  refine (ze_aload_n 19 zm24 dX2_endsBehind_18 rfl rfl).trans ?_
  refine (ze_getR 22 zm24 dX2_endsBehind_19 f2_24 k67_2 t2_0 (rr67_0 b) rfl).trans ?_
  refine (ze_iload_n 23 zm24 dX2_endsBehind_22 rfl rfl).trans ?_
  refine (ze_iload 25 zm24 dX2_endsBehind_23 rfl rfl).trans ?_
  exact ze_virtI (as := [.int v1, .int v5]) (rest := []) 28 zm24 dX2_endsBehind_25 r2_52 zm15 rfl rfl k23_1 rfl rfl rfl rfl
theorem b24_28 (sc : zScr) (v1 : Int32) (v2 : Int32) (v3 : Int32) (v4 : Int32) (v5 : Int32) (s0 : Int32) (i : Nat → Nat → Int32) (b : Bool) (l : Nat → Nat → Int64) : zev sc (24, 28, [some (.ref 67), some (.int v1), some (.int v2), some (.int v3), some (.int v4), some (.int v5)], [.int s0], (197, i, (zRF b), l)) = if s0 = v3 then zev sc (24, 32, [some (.ref 67), some (.int v1), some (.int v2), some (.int v3), some (.int v4), some (.int v5)], [], (197, i, (zRF b), l)) else zev sc (24, 92, [some (.ref 67), some (.int v1), some (.int v2), some (.int v3), some (.int v4), some (.int v5)], [], (197, i, (zRF b), l)) := by
  refine (ze_iload_n 29 zm24 dX2_endsBehind_28 rfl rfl).trans ?_
  exact ze_icmp_ne 92 32 zm24 dX2_endsBehind_29 (by decide) rfl
theorem b24_32 (sc : zScr) (v1 : Int32) (v2 : Int32) (v3 : Int32) (v4 : Int32) (v5 : Int32) (i : Nat → Nat → Int32) (b : Bool) (l : Nat → Nat → Int64) (h1 : vp_in v5 8) : zev sc (24, 32, [some (.ref 67), some (.int v1), some (.int v2), some (.int v3), some (.int v4), some (.int v5)], [], (197, i, (zRF b), l)) = zev sc (24, 92, [some (.ref 67), some (.int v1), some (.int v2), some (.int v3), some (.int ((v4 ||| (((v2 >>> ((i 4 v5.toNatClampNeg) &&& 31)) &&& (1 : Int32)) <<< ((i 5 v5.toNatClampNeg) &&& 31))) ||| (((v2 >>> ((i 5 v5.toNatClampNeg) &&& 31)) &&& (1 : Int32)) <<< ((i 4 v5.toNatClampNeg) &&& 31)))), some (.int v5)], [], (197, i, (zRF b), l)) := by
  refine (ze_iload 34 zm24 dX2_endsBehind_32 rfl rfl).trans ?_
  refine (ze_iload_n 35 zm24 dX2_endsBehind_34 rfl rfl).trans ?_
  refine (ze_aload_n 36 zm24 dX2_endsBehind_35 rfl rfl).trans ?_
  refine (ze_getR 39 zm24 dX2_endsBehind_36 f2_34 k67_2 t2_1 (rr67_1 b) rfl).trans ?_
  refine (ze_getR 42 zm24 dX2_endsBehind_39 f2_56 k3_4 t4_2 (rr3_2 b) rfl).trans ?_
  refine (ze_iload 44 zm24 dX2_endsBehind_42 rfl rfl).trans ?_
  refine (ze_iaload (t := v5.toNatClampNeg) 45 zm24 dX2_endsBehind_44 k4_100 n4 h1 rfl rfl).trans ?_
  refine (ze_ishr 46 zm24 dX2_endsBehind_45 rfl).trans ?_
  refine (ze_iconst 47 zm24 dX2_endsBehind_46 ci_1 rfl).trans ?_
  refine (ze_iand 48 zm24 dX2_endsBehind_47 rfl).trans ?_
  refine (ze_aload_n 49 zm24 dX2_endsBehind_48 rfl rfl).trans ?_
  refine (ze_getR 52 zm24 dX2_endsBehind_49 f2_34 k67_2 t2_1 (rr67_1 b) rfl).trans ?_
  refine (ze_getR 55 zm24 dX2_endsBehind_52 f2_59 k3_4 t4_3 (rr3_3 b) rfl).trans ?_
  refine (ze_iload 57 zm24 dX2_endsBehind_55 rfl rfl).trans ?_
  refine (ze_iaload (t := v5.toNatClampNeg) 58 zm24 dX2_endsBehind_57 k5_100 n5 h1 rfl rfl).trans ?_
  refine (ze_ishl 59 zm24 dX2_endsBehind_58 rfl).trans ?_
  refine (ze_ior 60 zm24 dX2_endsBehind_59 rfl).trans ?_
  refine (ze_istore (A := 99) (ls' := [some (.ref 67), some (.int v1), some (.int v2), some (.int v3), some (.int (v4 ||| (((v2 >>> ((i 4 v5.toNatClampNeg) &&& 31)) &&& (1 : Int32)) <<< ((i 5 v5.toNatClampNeg) &&& 31)))), some (.int v5)]) 62 zm24 dX2_endsBehind_60 za24 rfl rfl rfl rfl rfl).trans ?_
  refine (ze_iload 64 zm24 dX2_endsBehind_62 rfl rfl).trans ?_
  refine (ze_iload_n 65 zm24 dX2_endsBehind_64 rfl rfl).trans ?_
  refine (ze_aload_n 66 zm24 dX2_endsBehind_65 rfl rfl).trans ?_
  refine (ze_getR 69 zm24 dX2_endsBehind_66 f2_34 k67_2 t2_1 (rr67_1 b) rfl).trans ?_
  refine (ze_getR 72 zm24 dX2_endsBehind_69 f2_59 k3_4 t4_3 (rr3_3 b) rfl).trans ?_
  refine (ze_iload 74 zm24 dX2_endsBehind_72 rfl rfl).trans ?_
  refine (ze_iaload (t := v5.toNatClampNeg) 75 zm24 dX2_endsBehind_74 k5_100 n5 h1 rfl rfl).trans ?_
  refine (ze_ishr 76 zm24 dX2_endsBehind_75 rfl).trans ?_
  refine (ze_iconst 77 zm24 dX2_endsBehind_76 ci_1 rfl).trans ?_
  refine (ze_iand 78 zm24 dX2_endsBehind_77 rfl).trans ?_
  refine (ze_aload_n 79 zm24 dX2_endsBehind_78 rfl rfl).trans ?_
  refine (ze_getR 82 zm24 dX2_endsBehind_79 f2_34 k67_2 t2_1 (rr67_1 b) rfl).trans ?_
  refine (ze_getR 85 zm24 dX2_endsBehind_82 f2_56 k3_4 t4_2 (rr3_2 b) rfl).trans ?_
  refine (ze_iload 87 zm24 dX2_endsBehind_85 rfl rfl).trans ?_
  refine (ze_iaload (t := v5.toNatClampNeg) 88 zm24 dX2_endsBehind_87 k4_100 n4 h1 rfl rfl).trans ?_
  refine (ze_ishl 89 zm24 dX2_endsBehind_88 rfl).trans ?_
  refine (ze_ior 90 zm24 dX2_endsBehind_89 rfl).trans ?_
  refine (ze_istore (A := 99) (ls' := [some (.ref 67), some (.int v1), some (.int v2), some (.int v3), some (.int ((v4 ||| (((v2 >>> ((i 4 v5.toNatClampNeg) &&& 31)) &&& (1 : Int32)) <<< ((i 5 v5.toNatClampNeg) &&& 31))) ||| (((v2 >>> ((i 5 v5.toNatClampNeg) &&& 31)) &&& (1 : Int32)) <<< ((i 4 v5.toNatClampNeg) &&& 31)))), some (.int v5)]) 92 zm24 dX2_endsBehind_90 za24 rfl rfl rfl rfl rfl).trans ?_
  rfl
theorem b24_92 (sc : zScr) (v1 : Int32) (v2 : Int32) (v3 : Int32) (v4 : Int32) (v5 : Int32) (i : Nat → Nat → Int32) (b : Bool) (l : Nat → Nat → Int64) : zev sc (24, 92, [some (.ref 67), some (.int v1), some (.int v2), some (.int v3), some (.int v4), some (.int v5)], [], (197, i, (zRF b), l)) = zev sc (24, 6, [some (.ref 67), some (.int v1), some (.int v2), some (.int v3), some (.int v4), some (.int (v5 + 1))], [], (197, i, (zRF b), l)) := by
  refine (ze_iinc (v := (1 : Int32)) (A := 99) (ls' := [some (.ref 67), some (.int v1), some (.int v2), some (.int v3), some (.int v4), some (.int (v5 + 1))]) 95 zm24 dX2_endsBehind_92 rfl ci_1 za24 rfl rfl rfl rfl rfl).trans ?_
  exact ze_goto 6 zm24 dX2_endsBehind_95 (by decide)
theorem b24_98 (sc : zScr) (v1 : Int32) (v2 : Int32) (v3 : Int32) (v4 : Int32) (v5 : Int32) (i : Nat → Nat → Int32) (b : Bool) (l : Nat → Nat → Int64) : zev sc (24, 98, [some (.ref 67), some (.int v1), some (.int v2), some (.int v3), some (.int v4), some (.int v5)], [], (197, i, (zRF b), l)) = some (.int v4, (197, i, (zRF b), l)) := by
  refine (ze_iload 100 zm24 dX2_endsBehind_98 rfl rfl).trans ?_
  exact ze_ireturn zm24 dX2_endsBehind_100 rfl
/-! HarpFences$Hearing.kindsThatCan ()I: method 25 -/
theorem b25_0 (sc : zScr) (i : Nat → Nat → Int32) (b : Bool) (l : Nat → Nat → Int64) : zev sc (25, 0, [some (.ref 67), none, none], [], (197, i, (zRF b), l)) = zev sc (25, 4, [some (.ref 67), some (.int (0 : Int32)), some (.int (0 : Int32))], [], (197, i, (zRF b), l)) := by
  refine (ze_iconst 1 zm25 dX2_kindsThatCan_0 ci_0 rfl).trans ?_
  refine (ze_istore_n (A := 99) (ls' := [some (.ref 67), some (.int (0 : Int32)), none]) 2 zm25 dX2_kindsThatCan_1 za25 rfl rfl rfl rfl rfl).trans ?_
  refine (ze_iconst 3 zm25 dX2_kindsThatCan_2 ci_0 rfl).trans ?_
  refine (ze_istore_n (A := 99) (ls' := [some (.ref 67), some (.int (0 : Int32)), some (.int (0 : Int32))]) 4 zm25 dX2_kindsThatCan_3 za25 rfl rfl rfl rfl rfl).trans ?_
  rfl
theorem b25_4 (sc : zScr) (v1 : Int32) (v2 : Int32) (i : Nat → Nat → Int32) (b : Bool) (l : Nat → Nat → Int64) : zev sc (25, 4, [some (.ref 67), some (.int v1), some (.int v2)], [], (197, i, (zRF b), l)) = if (i 3 5) ≤ v2 then zev sc (25, 35, [some (.ref 67), some (.int v1), some (.int v2)], [], (197, i, (zRF b), l)) else zev sc (25, 15, [some (.ref 67), some (.int v1), some (.int v2)], [], (197, i, (zRF b), l)) := by
  refine (ze_iload_n 5 zm25 dX2_kindsThatCan_4 rfl rfl).trans ?_
  refine (ze_aload_n 6 zm25 dX2_kindsThatCan_5 rfl rfl).trans ?_
  refine (ze_getR 9 zm25 dX2_kindsThatCan_6 f2_34 k67_2 t2_1 (rr67_1 b) rfl).trans ?_
  refine (ze_getI 12 zm25 dX2_kindsThatCan_9 f2_66 k3_4 (Or.inl t4_5) rfl).trans ?_
  exact ze_icmp_ge 35 15 zm25 dX2_kindsThatCan_12 (by decide) rfl
theorem b25_15 (sc : zScr) (v1 : Int32) (v2 : Int32) (i : Nat → Nat → Int32) (b : Bool) (l : Nat → Nat → Int64) : zev sc (25, 15, [some (.ref 67), some (.int v1), some (.int v2)], [], (197, i, (zRF b), l)) = (zev sc (23, 0, [some (.ref 67), some (.int v2), none, none], [], (197, i, (zRF b), l))).bind (fun x => zev sc (25, 20, [some (.ref 67), some (.int v1), some (.int v2)], [x.1], x.2)) := by
  refine (ze_aload_n 16 zm25 dX2_kindsThatCan_15 rfl rfl).trans ?_
  refine (ze_iload_n 17 zm25 dX2_kindsThatCan_16 rfl rfl).trans ?_
  exact ze_virtI (as := [.int v2]) (rest := []) 20 zm25 dX2_kindsThatCan_17 r2_69 zm23 rfl rfl k67_2 rfl rfl rfl rfl
theorem b25_20 (sc : zScr) (v1 : Int32) (v2 : Int32) (s0 : Int32) (i : Nat → Nat → Int32) (b : Bool) (l : Nat → Nat → Int64) : zev sc (25, 20, [some (.ref 67), some (.int v1), some (.int v2)], [.int s0], (197, i, (zRF b), l)) = if s0 = 0 then zev sc (25, 29, [some (.ref 67), some (.int v1), some (.int v2)], [], (197, i, (zRF b), l)) else zev sc (25, 23, [some (.ref 67), some (.int v1), some (.int v2)], [], (197, i, (zRF b), l)) := by
  exact ze_if_eq 29 23 zm25 dX2_kindsThatCan_20 (by decide) rfl
theorem b25_23 (sc : zScr) (v1 : Int32) (v2 : Int32) (i : Nat → Nat → Int32) (b : Bool) (l : Nat → Nat → Int64) : zev sc (25, 23, [some (.ref 67), some (.int v1), some (.int v2)], [], (197, i, (zRF b), l)) = zev sc (25, 29, [some (.ref 67), some (.int (v1 ||| ((1 : Int32) <<< (v2 &&& 31)))), some (.int v2)], [], (197, i, (zRF b), l)) := by
  refine (ze_iload_n 24 zm25 dX2_kindsThatCan_23 rfl rfl).trans ?_
  refine (ze_iconst 25 zm25 dX2_kindsThatCan_24 ci_1 rfl).trans ?_
  refine (ze_iload_n 26 zm25 dX2_kindsThatCan_25 rfl rfl).trans ?_
  refine (ze_ishl 27 zm25 dX2_kindsThatCan_26 rfl).trans ?_
  refine (ze_ior 28 zm25 dX2_kindsThatCan_27 rfl).trans ?_
  refine (ze_istore_n (A := 99) (ls' := [some (.ref 67), some (.int (v1 ||| ((1 : Int32) <<< (v2 &&& 31)))), some (.int v2)]) 29 zm25 dX2_kindsThatCan_28 za25 rfl rfl rfl rfl rfl).trans ?_
  rfl
theorem b25_29 (sc : zScr) (v1 : Int32) (v2 : Int32) (i : Nat → Nat → Int32) (b : Bool) (l : Nat → Nat → Int64) : zev sc (25, 29, [some (.ref 67), some (.int v1), some (.int v2)], [], (197, i, (zRF b), l)) = zev sc (25, 4, [some (.ref 67), some (.int v1), some (.int (v2 + 1))], [], (197, i, (zRF b), l)) := by
  refine (ze_iinc (v := (1 : Int32)) (A := 99) (ls' := [some (.ref 67), some (.int v1), some (.int (v2 + 1))]) 32 zm25 dX2_kindsThatCan_29 rfl ci_1 za25 rfl rfl rfl rfl rfl).trans ?_
  exact ze_goto 4 zm25 dX2_kindsThatCan_32 (by decide)
theorem b25_35 (sc : zScr) (v1 : Int32) (v2 : Int32) (i : Nat → Nat → Int32) (b : Bool) (l : Nat → Nat → Int64) : zev sc (25, 35, [some (.ref 67), some (.int v1), some (.int v2)], [], (197, i, (zRF b), l)) = some (.int v1, (197, i, (zRF b), l)) := by
  refine (ze_iload_n 36 zm25 dX2_kindsThatCan_35 rfl rfl).trans ?_
  exact ze_ireturn zm25 dX2_kindsThatCan_36 rfl
/-! HarpFences$Hearing.fenceToWatch ()I: method 26 -/
theorem b26_0 (sc : zScr) (i : Nat → Nat → Int32) (b : Bool) (l : Nat → Nat → Int64) : zev sc (26, 0, [some (.ref 67), none, none, none, none], [], (197, i, (zRF b), l)) = zev sc (26, 2, [some (.ref 67), some (.int (0 : Int32)), none, none, none], [], (197, i, (zRF b), l)) := by
  refine (ze_iconst 1 zm26 dX2_fenceToWatch_0 ci_0 rfl).trans ?_
  refine (ze_istore_n (A := 99) (ls' := [some (.ref 67), some (.int (0 : Int32)), none, none, none]) 2 zm26 dX2_fenceToWatch_1 za26 rfl rfl rfl rfl rfl).trans ?_
  rfl
theorem b26_2 (sc : zScr) (v1 : Int32) (i : Nat → Nat → Int32) (b : Bool) (l : Nat → Nat → Int64) : zev sc (26, 2, [some (.ref 67), some (.int v1), none, none, none], [], (197, i, (zRF b), l)) = if (i 3 5) ≤ v1 then zev sc (26, 30, [some (.ref 67), some (.int v1), none, none, none], [], (197, i, (zRF b), l)) else zev sc (26, 13, [some (.ref 67), some (.int v1), none, none, none], [], (197, i, (zRF b), l)) := by
  refine (ze_iload_n 3 zm26 dX2_fenceToWatch_2 rfl rfl).trans ?_
  refine (ze_aload_n 4 zm26 dX2_fenceToWatch_3 rfl rfl).trans ?_
  refine (ze_getR 7 zm26 dX2_fenceToWatch_4 f2_34 k67_2 t2_1 (rr67_1 b) rfl).trans ?_
  refine (ze_getI 10 zm26 dX2_fenceToWatch_7 f2_66 k3_4 (Or.inl t4_5) rfl).trans ?_
  exact ze_icmp_ge 30 13 zm26 dX2_fenceToWatch_10 (by decide) rfl
theorem b26_13 (sc : zScr) (v1 : Int32) (i : Nat → Nat → Int32) (b : Bool) (l : Nat → Nat → Int64) : zev sc (26, 13, [some (.ref 67), some (.int v1), none, none, none], [], (197, i, (zRF b), l)) = (zev sc (23, 0, [some (.ref 67), some (.int v1), none, none], [], (197, i, (zRF b), l))).bind (fun x => zev sc (26, 23, [some (.ref 67), some (.int v1), none, none, none], [x.1, .int v1, .ref 69], x.2)) := by
  refine (ze_aload_n 14 zm26 dX2_fenceToWatch_13 rfl rfl).trans ?_
  refine (ze_getR 17 zm26 dX2_fenceToWatch_14 f2_15 k67_2 t2_3 (rr67_3 b) rfl).trans ?_
  refine (ze_iload_n 18 zm26 dX2_fenceToWatch_17 rfl rfl).trans ?_
  refine (ze_aload_n 19 zm26 dX2_fenceToWatch_18 rfl rfl).trans ?_
  refine (ze_iload_n 20 zm26 dX2_fenceToWatch_19 rfl rfl).trans ?_
  exact ze_virtI (as := [.int v1]) (rest := [.int v1, .ref 69]) 23 zm26 dX2_fenceToWatch_20 r2_69 zm23 rfl rfl k67_2 rfl rfl rfl rfl
theorem b26_23 (sc : zScr) (v1 : Int32) (s0 : Int32) (s1 : Int32) (i : Nat → Nat → Int32) (b : Bool) (l : Nat → Nat → Int64) (h1 : vp_in s1 4) : zev sc (26, 23, [some (.ref 67), some (.int v1), none, none, none], [.int s0, .int s1, .ref 69], (197, i, (zRF b), l)) = zev sc (26, 2, [some (.ref 67), some (.int (v1 + 1)), none, none, none], [], (197, (zU i 69 s1.toNatClampNeg s0), (zRF b), l)) := by
  refine (ze_iastore (t := s1.toNatClampNeg) 24 zm26 dX2_fenceToWatch_23 k69_100 n69 h1 rfl rfl).trans ?_
  refine (ze_iinc (v := (1 : Int32)) (A := 99) (ls' := [some (.ref 67), some (.int (v1 + 1)), none, none, none]) 27 zm26 dX2_fenceToWatch_24 rfl ci_1 za26 rfl rfl rfl rfl rfl).trans ?_
  exact ze_goto 2 zm26 dX2_fenceToWatch_27 (by decide)
theorem b26_30 (sc : zScr) (v1 : Int32) (i : Nat → Nat → Int32) (b : Bool) (l : Nat → Nat → Int64) : zev sc (26, 30, [some (.ref 67), some (.int v1), none, none, none], [], (197, i, (zRF b), l)) = zev sc (26, 37, [some (.ref 67), some (.int (-9 : Int32)), some (.int (5 : Int32)), some (.int (0 : Int32)), none], [], (197, i, (zRF b), l)) := by
  refine (ze_bipush 32 zm26 dX2_fenceToWatch_30 cb_m9 rfl).trans ?_
  refine (ze_istore_n (A := 99) (ls' := [some (.ref 67), some (.int (-9 : Int32)), none, none, none]) 33 zm26 dX2_fenceToWatch_32 za26 rfl rfl rfl rfl rfl).trans ?_
  refine (ze_iconst 34 zm26 dX2_fenceToWatch_33 ci_5 rfl).trans ?_
  refine (ze_istore_n (A := 99) (ls' := [some (.ref 67), some (.int (-9 : Int32)), some (.int (5 : Int32)), none, none]) 35 zm26 dX2_fenceToWatch_34 za26 rfl rfl rfl rfl rfl).trans ?_
  refine (ze_iconst 36 zm26 dX2_fenceToWatch_35 ci_0 rfl).trans ?_
  refine (ze_istore_n (A := 99) (ls' := [some (.ref 67), some (.int (-9 : Int32)), some (.int (5 : Int32)), some (.int (0 : Int32)), none]) 37 zm26 dX2_fenceToWatch_36 za26 rfl rfl rfl rfl rfl).trans ?_
  rfl
theorem b26_37 (sc : zScr) (v1 : Int32) (v2 : Int32) (v3 : Int32) (w4 : Option Value) (i : Nat → Nat → Int32) (b : Bool) (l : Nat → Nat → Int64) : zev sc (26, 37, [some (.ref 67), some (.int v1), some (.int v2), some (.int v3), w4], [], (197, i, (zRF b), l)) = if (i 3 1) ≤ v3 then zev sc (26, 77, [some (.ref 67), some (.int v1), some (.int v2), some (.int v3), w4], [], (197, i, (zRF b), l)) else zev sc (26, 48, [some (.ref 67), some (.int v1), some (.int v2), some (.int v3), w4], [], (197, i, (zRF b), l)) := by
  refine (ze_iload_n 38 zm26 dX2_fenceToWatch_37 rfl rfl).trans ?_
  refine (ze_aload_n 39 zm26 dX2_fenceToWatch_38 rfl rfl).trans ?_
  refine (ze_getR 42 zm26 dX2_fenceToWatch_39 f2_34 k67_2 t2_1 (rr67_1 b) rfl).trans ?_
  refine (ze_getI 45 zm26 dX2_fenceToWatch_42 f2_49 k3_4 (Or.inl t4_1) rfl).trans ?_
  exact ze_icmp_ge 77 48 zm26 dX2_fenceToWatch_45 (by decide) rfl
theorem b26_48 (sc : zScr) (v1 : Int32) (v2 : Int32) (v3 : Int32) (w4 : Option Value) (i : Nat → Nat → Int32) (b : Bool) (l : Nat → Nat → Int64) : zev sc (26, 48, [some (.ref 67), some (.int v1), some (.int v2), some (.int v3), w4], [], (197, i, (zRF b), l)) = (zev sc (27, 0, [some (.ref 67), some (.int v3), none, none, none, none], [], (197, i, (zRF b), l))).bind (fun x => zev sc (26, 53, [some (.ref 67), some (.int v1), some (.int v2), some (.int v3), w4], [x.1], x.2)) := by
  refine (ze_aload_n 49 zm26 dX2_fenceToWatch_48 rfl rfl).trans ?_
  refine (ze_iload_n 50 zm26 dX2_fenceToWatch_49 rfl rfl).trans ?_
  exact ze_virtI (as := [.int v3]) (rest := []) 53 zm26 dX2_fenceToWatch_50 r2_73 zm27 rfl rfl k67_2 rfl rfl rfl rfl
theorem b26_53 (sc : zScr) (v1 : Int32) (v2 : Int32) (v3 : Int32) (w4 : Option Value) (s0 : Int32) (i : Nat → Nat → Int32) (b : Bool) (l : Nat → Nat → Int64) : zev sc (26, 53, [some (.ref 67), some (.int v1), some (.int v2), some (.int v3), w4], [.int s0], (197, i, (zRF b), l)) = if s0 ≤ 0 then zev sc (26, 71, [some (.ref 67), some (.int v1), some (.int v2), some (.int v3), some (.int s0)], [], (197, i, (zRF b), l)) else zev sc (26, 60, [some (.ref 67), some (.int v1), some (.int v2), some (.int v3), some (.int s0)], [], (197, i, (zRF b), l)) := by
  refine (ze_istore (A := 99) (ls' := [some (.ref 67), some (.int v1), some (.int v2), some (.int v3), some (.int s0)]) 55 zm26 dX2_fenceToWatch_53 za26 rfl rfl rfl rfl rfl).trans ?_
  refine (ze_iload 57 zm26 dX2_fenceToWatch_55 rfl rfl).trans ?_
  exact ze_if_le 71 60 zm26 dX2_fenceToWatch_57 (by decide) rfl
theorem b26_60 (sc : zScr) (v1 : Int32) (v2 : Int32) (v3 : Int32) (v4 : Int32) (i : Nat → Nat → Int32) (b : Bool) (l : Nat → Nat → Int64) : zev sc (26, 60, [some (.ref 67), some (.int v1), some (.int v2), some (.int v3), some (.int v4)], [], (197, i, (zRF b), l)) = if v2 ≤ v4 then zev sc (26, 71, [some (.ref 67), some (.int v1), some (.int v2), some (.int v3), some (.int v4)], [], (197, i, (zRF b), l)) else zev sc (26, 66, [some (.ref 67), some (.int v1), some (.int v2), some (.int v3), some (.int v4)], [], (197, i, (zRF b), l)) := by
  refine (ze_iload 62 zm26 dX2_fenceToWatch_60 rfl rfl).trans ?_
  refine (ze_iload_n 63 zm26 dX2_fenceToWatch_62 rfl rfl).trans ?_
  exact ze_icmp_ge 71 66 zm26 dX2_fenceToWatch_63 (by decide) rfl
theorem b26_66 (sc : zScr) (v1 : Int32) (v2 : Int32) (v3 : Int32) (v4 : Int32) (i : Nat → Nat → Int32) (b : Bool) (l : Nat → Nat → Int64) : zev sc (26, 66, [some (.ref 67), some (.int v1), some (.int v2), some (.int v3), some (.int v4)], [], (197, i, (zRF b), l)) = zev sc (26, 71, [some (.ref 67), some (.int v3), some (.int v4), some (.int v3), some (.int v4)], [], (197, i, (zRF b), l)) := by
  refine (ze_iload 68 zm26 dX2_fenceToWatch_66 rfl rfl).trans ?_
  refine (ze_istore_n (A := 99) (ls' := [some (.ref 67), some (.int v1), some (.int v4), some (.int v3), some (.int v4)]) 69 zm26 dX2_fenceToWatch_68 za26 rfl rfl rfl rfl rfl).trans ?_
  refine (ze_iload_n 70 zm26 dX2_fenceToWatch_69 rfl rfl).trans ?_
  refine (ze_istore_n (A := 99) (ls' := [some (.ref 67), some (.int v3), some (.int v4), some (.int v3), some (.int v4)]) 71 zm26 dX2_fenceToWatch_70 za26 rfl rfl rfl rfl rfl).trans ?_
  rfl
theorem b26_71 (sc : zScr) (v1 : Int32) (v2 : Int32) (v3 : Int32) (v4 : Int32) (i : Nat → Nat → Int32) (b : Bool) (l : Nat → Nat → Int64) : zev sc (26, 71, [some (.ref 67), some (.int v1), some (.int v2), some (.int v3), some (.int v4)], [], (197, i, (zRF b), l)) = zev sc (26, 37, [some (.ref 67), some (.int v1), some (.int v2), some (.int (v3 + 1)), some (.int v4)], [], (197, i, (zRF b), l)) := by
  refine (ze_iinc (v := (1 : Int32)) (A := 99) (ls' := [some (.ref 67), some (.int v1), some (.int v2), some (.int (v3 + 1)), some (.int v4)]) 74 zm26 dX2_fenceToWatch_71 rfl ci_1 za26 rfl rfl rfl rfl rfl).trans ?_
  exact ze_goto 37 zm26 dX2_fenceToWatch_74 (by decide)
theorem b26_77 (sc : zScr) (v1 : Int32) (v2 : Int32) (v3 : Int32) (w4 : Option Value) (i : Nat → Nat → Int32) (b : Bool) (l : Nat → Nat → Int64) : zev sc (26, 77, [some (.ref 67), some (.int v1), some (.int v2), some (.int v3), w4], [], (197, i, (zRF b), l)) = some (.int v1, (197, i, (zRF b), l)) := by
  refine (ze_iload_n 78 zm26 dX2_fenceToWatch_77 rfl rfl).trans ?_
  exact ze_ireturn zm26 dX2_fenceToWatch_78 rfl
/-! HarpFences$Hearing.greatestCrowd (I)I: method 27 -/
theorem b27_0 (sc : zScr) (v1 : Int32) (i : Nat → Nat → Int32) (b : Bool) (l : Nat → Nat → Int64) : zev sc (27, 0, [some (.ref 67), some (.int v1), none, none, none, none], [], (197, i, (zRF b), l)) = zev sc (27, 4, [some (.ref 67), some (.int v1), some (.int (0 : Int32)), some (.int (0 : Int32)), none, none], [], (197, i, (zRF b), l)) := by
  refine (ze_iconst 1 zm27 dX2_greatestCrowd_0 ci_0 rfl).trans ?_
  refine (ze_istore_n (A := 99) (ls' := [some (.ref 67), some (.int v1), some (.int (0 : Int32)), none, none, none]) 2 zm27 dX2_greatestCrowd_1 za27 rfl rfl rfl rfl rfl).trans ?_
  refine (ze_iconst 3 zm27 dX2_greatestCrowd_2 ci_0 rfl).trans ?_
  refine (ze_istore_n (A := 99) (ls' := [some (.ref 67), some (.int v1), some (.int (0 : Int32)), some (.int (0 : Int32)), none, none]) 4 zm27 dX2_greatestCrowd_3 za27 rfl rfl rfl rfl rfl).trans ?_
  rfl
theorem b27_4 (sc : zScr) (v1 : Int32) (v2 : Int32) (v3 : Int32) (w4 : Option Value) (w5 : Option Value) (i : Nat → Nat → Int32) (b : Bool) (l : Nat → Nat → Int64) : zev sc (27, 4, [some (.ref 67), some (.int v1), some (.int v2), some (.int v3), w4, w5], [], (197, i, (zRF b), l)) = if (i 3 5) ≤ v3 then zev sc (27, 96, [some (.ref 67), some (.int v1), some (.int v2), some (.int v3), w4, w5], [], (197, i, (zRF b), l)) else zev sc (27, 15, [some (.ref 67), some (.int v1), some (.int v2), some (.int v3), w4, w5], [], (197, i, (zRF b), l)) := by
  refine (ze_iload_n 5 zm27 dX2_greatestCrowd_4 rfl rfl).trans ?_
  refine (ze_aload_n 6 zm27 dX2_greatestCrowd_5 rfl rfl).trans ?_
  refine (ze_getR 9 zm27 dX2_greatestCrowd_6 f2_34 k67_2 t2_1 (rr67_1 b) rfl).trans ?_
  refine (ze_getI 12 zm27 dX2_greatestCrowd_9 f2_66 k3_4 (Or.inl t4_5) rfl).trans ?_
  exact ze_icmp_ge 96 15 zm27 dX2_greatestCrowd_12 (by decide) rfl
theorem b27_15 (sc : zScr) (v1 : Int32) (v2 : Int32) (v3 : Int32) (w4 : Option Value) (w5 : Option Value) (i : Nat → Nat → Int32) (b : Bool) (l : Nat → Nat → Int64) : zev sc (27, 15, [some (.ref 67), some (.int v1), some (.int v2), some (.int v3), w4, w5], [], (197, i, (zRF b), l)) = zev sc (27, 21, [some (.ref 67), some (.int v1), some (.int v2), some (.int v3), some (.int (0 : Int32)), some (.int (0 : Int32))], [], (197, i, (zRF b), l)) := by
  refine (ze_iconst 16 zm27 dX2_greatestCrowd_15 ci_0 rfl).trans ?_
  refine (ze_istore (A := 99) (ls' := [some (.ref 67), some (.int v1), some (.int v2), some (.int v3), some (.int (0 : Int32)), w5]) 18 zm27 dX2_greatestCrowd_16 za27 rfl rfl rfl rfl rfl).trans ?_
  refine (ze_iconst 19 zm27 dX2_greatestCrowd_18 ci_0 rfl).trans ?_
  refine (ze_istore (A := 99) (ls' := [some (.ref 67), some (.int v1), some (.int v2), some (.int v3), some (.int (0 : Int32)), some (.int (0 : Int32))]) 21 zm27 dX2_greatestCrowd_19 za27 rfl rfl rfl rfl rfl).trans ?_
  rfl
theorem b27_21 (sc : zScr) (v1 : Int32) (v2 : Int32) (v3 : Int32) (v4 : Int32) (v5 : Int32) (i : Nat → Nat → Int32) (b : Bool) (l : Nat → Nat → Int64) : zev sc (27, 21, [some (.ref 67), some (.int v1), some (.int v2), some (.int v3), some (.int v4), some (.int v5)], [], (197, i, (zRF b), l)) = if (i 3 5) ≤ v5 then zev sc (27, 83, [some (.ref 67), some (.int v1), some (.int v2), some (.int v3), some (.int v4), some (.int v5)], [], (197, i, (zRF b), l)) else zev sc (27, 33, [some (.ref 67), some (.int v1), some (.int v2), some (.int v3), some (.int v4), some (.int v5)], [], (197, i, (zRF b), l)) := by
  refine (ze_iload 23 zm27 dX2_greatestCrowd_21 rfl rfl).trans ?_
  refine (ze_aload_n 24 zm27 dX2_greatestCrowd_23 rfl rfl).trans ?_
  refine (ze_getR 27 zm27 dX2_greatestCrowd_24 f2_34 k67_2 t2_1 (rr67_1 b) rfl).trans ?_
  refine (ze_getI 30 zm27 dX2_greatestCrowd_27 f2_66 k3_4 (Or.inl t4_5) rfl).trans ?_
  exact ze_icmp_ge 83 33 zm27 dX2_greatestCrowd_30 (by decide) rfl
theorem b27_33 (sc : zScr) (v1 : Int32) (v2 : Int32) (v3 : Int32) (v4 : Int32) (v5 : Int32) (i : Nat → Nat → Int32) (b : Bool) (l : Nat → Nat → Int64) : zev sc (27, 33, [some (.ref 67), some (.int v1), some (.int v2), some (.int v3), some (.int v4), some (.int v5)], [], (197, i, (zRF b), l)) = (zev sc (28, 0, [some (.ref 67), some (.int v3), some (.int v1)], [], (197, i, (zRF b), l))).bind (fun x => zev sc (27, 39, [some (.ref 67), some (.int v1), some (.int v2), some (.int v3), some (.int v4), some (.int v5)], [x.1], x.2)) := by
  refine (ze_aload_n 34 zm27 dX2_greatestCrowd_33 rfl rfl).trans ?_
  refine (ze_iload_n 35 zm27 dX2_greatestCrowd_34 rfl rfl).trans ?_
  refine (ze_iload_n 36 zm27 dX2_greatestCrowd_35 rfl rfl).trans ?_
  exact ze_virtI (as := [.int v3, .int v1]) (rest := []) 39 zm27 dX2_greatestCrowd_36 r2_76 zm28 rfl rfl k67_2 rfl rfl rfl rfl
theorem b27_39 (sc : zScr) (v1 : Int32) (v2 : Int32) (v3 : Int32) (v4 : Int32) (v5 : Int32) (s0 : Int32) (i : Nat → Nat → Int32) (b : Bool) (l : Nat → Nat → Int64) : zev sc (27, 39, [some (.ref 67), some (.int v1), some (.int v2), some (.int v3), some (.int v4), some (.int v5)], [.int s0], (197, i, (zRF b), l)) = if s0 = 0 then zev sc (27, 77, [some (.ref 67), some (.int v1), some (.int v2), some (.int v3), some (.int v4), some (.int v5)], [], (197, i, (zRF b), l)) else zev sc (27, 42, [some (.ref 67), some (.int v1), some (.int v2), some (.int v3), some (.int v4), some (.int v5)], [], (197, i, (zRF b), l)) := by
  exact ze_if_eq 77 42 zm27 dX2_greatestCrowd_39 (by decide) rfl
theorem b27_42 (sc : zScr) (v1 : Int32) (v2 : Int32) (v3 : Int32) (v4 : Int32) (v5 : Int32) (i : Nat → Nat → Int32) (b : Bool) (l : Nat → Nat → Int64) : zev sc (27, 42, [some (.ref 67), some (.int v1), some (.int v2), some (.int v3), some (.int v4), some (.int v5)], [], (197, i, (zRF b), l)) = (zev sc (28, 0, [some (.ref 67), some (.int v5), some (.int v1)], [], (197, i, (zRF b), l))).bind (fun x => zev sc (27, 49, [some (.ref 67), some (.int v1), some (.int v2), some (.int v3), some (.int v4), some (.int v5)], [x.1], x.2)) := by
  refine (ze_aload_n 43 zm27 dX2_greatestCrowd_42 rfl rfl).trans ?_
  refine (ze_iload 45 zm27 dX2_greatestCrowd_43 rfl rfl).trans ?_
  refine (ze_iload_n 46 zm27 dX2_greatestCrowd_45 rfl rfl).trans ?_
  exact ze_virtI (as := [.int v5, .int v1]) (rest := []) 49 zm27 dX2_greatestCrowd_46 r2_76 zm28 rfl rfl k67_2 rfl rfl rfl rfl
theorem b27_49 (sc : zScr) (v1 : Int32) (v2 : Int32) (v3 : Int32) (v4 : Int32) (v5 : Int32) (s0 : Int32) (i : Nat → Nat → Int32) (b : Bool) (l : Nat → Nat → Int64) : zev sc (27, 49, [some (.ref 67), some (.int v1), some (.int v2), some (.int v3), some (.int v4), some (.int v5)], [.int s0], (197, i, (zRF b), l)) = if s0 = 0 then zev sc (27, 77, [some (.ref 67), some (.int v1), some (.int v2), some (.int v3), some (.int v4), some (.int v5)], [], (197, i, (zRF b), l)) else zev sc (27, 52, [some (.ref 67), some (.int v1), some (.int v2), some (.int v3), some (.int v4), some (.int v5)], [], (197, i, (zRF b), l)) := by
  exact ze_if_eq 77 52 zm27 dX2_greatestCrowd_49 (by decide) rfl
theorem b27_52 (sc : zScr) (v1 : Int32) (v2 : Int32) (v3 : Int32) (v4 : Int32) (v5 : Int32) (i : Nat → Nat → Int32) (b : Bool) (l : Nat → Nat → Int64) : zev sc (27, 52, [some (.ref 67), some (.int v1), some (.int v2), some (.int v3), some (.int v4), some (.int v5)], [], (197, i, (zRF b), l)) = (zev sc (15, 0, [some (.ref 23), some (.int v3), some (.int v1)], [], (197, i, (zRF b), l))).bind (fun x => zev sc (27, 61, [some (.ref 67), some (.int v1), some (.int v2), some (.int v3), some (.int v4), some (.int v5)], [x.1], x.2)) := by
  refine (ze_aload_n 53 zm27 dX2_greatestCrowd_52 rfl rfl).trans ?_
  refine (ze_getR 56 zm27 dX2_greatestCrowd_53 f2_24 k67_2 t2_0 (rr67_0 b) rfl).trans ?_
  refine (ze_iload_n 57 zm27 dX2_greatestCrowd_56 rfl rfl).trans ?_
  refine (ze_iload_n 58 zm27 dX2_greatestCrowd_57 rfl rfl).trans ?_
  exact ze_virtI (as := [.int v3, .int v1]) (rest := []) 61 zm27 dX2_greatestCrowd_58 r2_52 zm15 rfl rfl k23_1 rfl rfl rfl rfl
theorem b27_61 (sc : zScr) (v1 : Int32) (v2 : Int32) (v3 : Int32) (v4 : Int32) (v5 : Int32) (s0 : Int32) (i : Nat → Nat → Int32) (b : Bool) (l : Nat → Nat → Int64) : zev sc (27, 61, [some (.ref 67), some (.int v1), some (.int v2), some (.int v3), some (.int v4), some (.int v5)], [.int s0], (197, i, (zRF b), l)) = (zev sc (15, 0, [some (.ref 23), some (.int v5), some (.int v1)], [], (197, i, (zRF b), l))).bind (fun x => zev sc (27, 71, [some (.ref 67), some (.int v1), some (.int v2), some (.int v3), some (.int v4), some (.int v5)], [x.1, .int s0], x.2)) := by
  refine (ze_aload_n 62 zm27 dX2_greatestCrowd_61 rfl rfl).trans ?_
  refine (ze_getR 65 zm27 dX2_greatestCrowd_62 f2_24 k67_2 t2_0 (rr67_0 b) rfl).trans ?_
  refine (ze_iload 67 zm27 dX2_greatestCrowd_65 rfl rfl).trans ?_
  refine (ze_iload_n 68 zm27 dX2_greatestCrowd_67 rfl rfl).trans ?_
  exact ze_virtI (as := [.int v5, .int v1]) (rest := [.int s0]) 71 zm27 dX2_greatestCrowd_68 r2_52 zm15 rfl rfl k23_1 rfl rfl rfl rfl
theorem b27_71 (sc : zScr) (v1 : Int32) (v2 : Int32) (v3 : Int32) (v4 : Int32) (v5 : Int32) (s0 : Int32) (s1 : Int32) (i : Nat → Nat → Int32) (b : Bool) (l : Nat → Nat → Int64) : zev sc (27, 71, [some (.ref 67), some (.int v1), some (.int v2), some (.int v3), some (.int v4), some (.int v5)], [.int s0, .int s1], (197, i, (zRF b), l)) = if s1 = s0 then zev sc (27, 74, [some (.ref 67), some (.int v1), some (.int v2), some (.int v3), some (.int v4), some (.int v5)], [], (197, i, (zRF b), l)) else zev sc (27, 77, [some (.ref 67), some (.int v1), some (.int v2), some (.int v3), some (.int v4), some (.int v5)], [], (197, i, (zRF b), l)) := by
  exact ze_icmp_ne 77 74 zm27 dX2_greatestCrowd_71 (by decide) rfl
theorem b27_74 (sc : zScr) (v1 : Int32) (v2 : Int32) (v3 : Int32) (v4 : Int32) (v5 : Int32) (i : Nat → Nat → Int32) (b : Bool) (l : Nat → Nat → Int64) : zev sc (27, 74, [some (.ref 67), some (.int v1), some (.int v2), some (.int v3), some (.int v4), some (.int v5)], [], (197, i, (zRF b), l)) = zev sc (27, 77, [some (.ref 67), some (.int v1), some (.int v2), some (.int v3), some (.int (v4 + 1)), some (.int v5)], [], (197, i, (zRF b), l)) := by
  refine (ze_iinc (v := (1 : Int32)) (A := 99) (ls' := [some (.ref 67), some (.int v1), some (.int v2), some (.int v3), some (.int (v4 + 1)), some (.int v5)]) 77 zm27 dX2_greatestCrowd_74 rfl ci_1 za27 rfl rfl rfl rfl rfl).trans ?_
  rfl
theorem b27_77 (sc : zScr) (v1 : Int32) (v2 : Int32) (v3 : Int32) (v4 : Int32) (v5 : Int32) (i : Nat → Nat → Int32) (b : Bool) (l : Nat → Nat → Int64) : zev sc (27, 77, [some (.ref 67), some (.int v1), some (.int v2), some (.int v3), some (.int v4), some (.int v5)], [], (197, i, (zRF b), l)) = zev sc (27, 21, [some (.ref 67), some (.int v1), some (.int v2), some (.int v3), some (.int v4), some (.int (v5 + 1))], [], (197, i, (zRF b), l)) := by
  refine (ze_iinc (v := (1 : Int32)) (A := 99) (ls' := [some (.ref 67), some (.int v1), some (.int v2), some (.int v3), some (.int v4), some (.int (v5 + 1))]) 80 zm27 dX2_greatestCrowd_77 rfl ci_1 za27 rfl rfl rfl rfl rfl).trans ?_
  exact ze_goto 21 zm27 dX2_greatestCrowd_80 (by decide)
theorem b27_83 (sc : zScr) (v1 : Int32) (v2 : Int32) (v3 : Int32) (v4 : Int32) (v5 : Int32) (i : Nat → Nat → Int32) (b : Bool) (l : Nat → Nat → Int64) : zev sc (27, 83, [some (.ref 67), some (.int v1), some (.int v2), some (.int v3), some (.int v4), some (.int v5)], [], (197, i, (zRF b), l)) = zev sc (27, 4, [some (.ref 67), some (.int v1), some (.int (if v2 < v4 then v4 else v2)), some (.int (v3 + 1)), some (.int v4), some (.int v5)], [], (197, i, (zRF b), l)) := by
  refine (ze_iload_n 84 zm27 dX2_greatestCrowd_83 rfl rfl).trans ?_
  refine (ze_iload 86 zm27 dX2_greatestCrowd_84 rfl rfl).trans ?_
  refine (ze_max 89 zm27 dX2_greatestCrowd_86 r2_80 rfl rfl).trans ?_
  refine (ze_istore_n (A := 99) (ls' := [some (.ref 67), some (.int v1), some (.int (if v2 < v4 then v4 else v2)), some (.int v3), some (.int v4), some (.int v5)]) 90 zm27 dX2_greatestCrowd_89 za27 rfl rfl rfl rfl rfl).trans ?_
  refine (ze_iinc (v := (1 : Int32)) (A := 99) (ls' := [some (.ref 67), some (.int v1), some (.int (if v2 < v4 then v4 else v2)), some (.int (v3 + 1)), some (.int v4), some (.int v5)]) 93 zm27 dX2_greatestCrowd_90 rfl ci_1 za27 rfl rfl rfl rfl rfl).trans ?_
  exact ze_goto 4 zm27 dX2_greatestCrowd_93 (by decide)
theorem b27_96 (sc : zScr) (v1 : Int32) (v2 : Int32) (v3 : Int32) (w4 : Option Value) (w5 : Option Value) (i : Nat → Nat → Int32) (b : Bool) (l : Nat → Nat → Int64) : zev sc (27, 96, [some (.ref 67), some (.int v1), some (.int v2), some (.int v3), w4, w5], [], (197, i, (zRF b), l)) = some (.int v2, (197, i, (zRF b), l)) := by
  refine (ze_iload_n 97 zm27 dX2_greatestCrowd_96 rfl rfl).trans ?_
  exact ze_ireturn zm27 dX2_greatestCrowd_97 rfl
/-! HarpFences$Hearing.comesTo (II)Z: method 28 -/
theorem b28_0 (sc : zScr) (v1 : Int32) (v2 : Int32) (i : Nat → Nat → Int32) (b : Bool) (l : Nat → Nat → Int64) (h1 : vp_in v1 4) : zev sc (28, 0, [some (.ref 67), some (.int v1), some (.int v2)], [], (197, i, (zRF b), l)) = (zev sc (37, 0, [some (.ref 3), some (.int v2)], [], (197, i, (zRF b), l))).bind (fun x => zev sc (28, 14, [some (.ref 67), some (.int v1), some (.int v2)], [x.1, .int (i 69 v1.toNatClampNeg)], x.2)) := by
  refine (ze_aload_n 1 zm28 dX2_comesTo_0 rfl rfl).trans ?_
  refine (ze_getR 4 zm28 dX2_comesTo_1 f2_15 k67_2 t2_3 (rr67_3 b) rfl).trans ?_
  refine (ze_iload_n 5 zm28 dX2_comesTo_4 rfl rfl).trans ?_
  refine (ze_iaload (t := v1.toNatClampNeg) 6 zm28 dX2_comesTo_5 k69_100 n69 h1 rfl rfl).trans ?_
  refine (ze_aload_n 7 zm28 dX2_comesTo_6 rfl rfl).trans ?_
  refine (ze_getR 10 zm28 dX2_comesTo_7 f2_34 k67_2 t2_1 (rr67_1 b) rfl).trans ?_
  refine (ze_iload_n 11 zm28 dX2_comesTo_10 rfl rfl).trans ?_
  exact ze_virtI (as := [.int v2]) (rest := [.int (i 69 v1.toNatClampNeg)]) 14 zm28 dX2_comesTo_11 r2_85 zm37 rfl rfl k3_4 rfl rfl rfl rfl
theorem b28_14 (sc : zScr) (v1 : Int32) (v2 : Int32) (s0 : Int32) (s1 : Int32) (i : Nat → Nat → Int32) (b : Bool) (l : Nat → Nat → Int64) : zev sc (28, 14, [some (.ref 67), some (.int v1), some (.int v2)], [.int s0, .int s1], (197, i, (zRF b), l)) = if (s1 &&& s0) = 0 then zev sc (28, 22, [some (.ref 67), some (.int v1), some (.int v2)], [], (197, i, (zRF b), l)) else zev sc (28, 18, [some (.ref 67), some (.int v1), some (.int v2)], [], (197, i, (zRF b), l)) := by
  refine (ze_iand 15 zm28 dX2_comesTo_14 rfl).trans ?_
  exact ze_if_eq 22 18 zm28 dX2_comesTo_15 (by decide) rfl
theorem b28_18 (sc : zScr) (v1 : Int32) (v2 : Int32) (i : Nat → Nat → Int32) (b : Bool) (l : Nat → Nat → Int64) : zev sc (28, 18, [some (.ref 67), some (.int v1), some (.int v2)], [], (197, i, (zRF b), l)) = zev sc (28, 23, [some (.ref 67), some (.int v1), some (.int v2)], [.int (1 : Int32)], (197, i, (zRF b), l)) := by
  refine (ze_iconst 19 zm28 dX2_comesTo_18 ci_1 rfl).trans ?_
  exact ze_goto 23 zm28 dX2_comesTo_19 (by decide)
theorem b28_22 (sc : zScr) (v1 : Int32) (v2 : Int32) (i : Nat → Nat → Int32) (b : Bool) (l : Nat → Nat → Int64) : zev sc (28, 22, [some (.ref 67), some (.int v1), some (.int v2)], [], (197, i, (zRF b), l)) = zev sc (28, 23, [some (.ref 67), some (.int v1), some (.int v2)], [.int (0 : Int32)], (197, i, (zRF b), l)) := by
  refine (ze_iconst 23 zm28 dX2_comesTo_22 ci_0 rfl).trans ?_
  rfl
theorem b28_23 (sc : zScr) (v1 : Int32) (v2 : Int32) (s0 : Int32) (i : Nat → Nat → Int32) (b : Bool) (l : Nat → Nat → Int64) (h1 : s0 = 0 ∨ s0 = 1) : zev sc (28, 23, [some (.ref 67), some (.int v1), some (.int v2)], [.int s0], (197, i, (zRF b), l)) = some (.int s0, (197, i, (zRF b), l)) := by
  exact ze_zreturn zm28 dX2_comesTo_23 rfl h1
