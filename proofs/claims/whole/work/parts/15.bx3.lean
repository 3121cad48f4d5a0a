/-! HarpFences.type (I)I: method 74 -/
theorem b74_0 (sc : zScr) (v1 : Int32) (i : Nat → Nat → Int32) (b : Bool) (l : Nat → Nat → Int64) : zev sc (74, 0, [some (.ref 0), some (.int v1)], [], (197, i, (zRF b), l)) = if v1 < 0 then zev sc (74, 11, [some (.ref 0), some (.int v1)], [], (197, i, (zRF b), l)) else zev sc (74, 4, [some (.ref 0), some (.int v1)], [], (197, i, (zRF b), l)) := by
  refine (ze_iload_n 1 zm74 dX9_type_0 rfl rfl).trans ?_
  exact ze_if_lt 11 4 zm74 dX9_type_1 (by decide) rfl
theorem b74_4 (sc : zScr) (v1 : Int32) (i : Nat → Nat → Int32) (b : Bool) (l : Nat → Nat → Int64) : zev sc (74, 4, [some (.ref 0), some (.int v1)], [], (197, i, (zRF b), l)) = if v1 ≤ (255 : Int32) then zev sc (74, 13, [some (.ref 0), some (.int v1)], [], (197, i, (zRF b), l)) else zev sc (74, 11, [some (.ref 0), some (.int v1)], [], (197, i, (zRF b), l)) := by
  refine (ze_iload_n 5 zm74 dX9_type_4 rfl rfl).trans ?_
  refine (ze_sipush 8 zm74 dX9_type_5 cs_255 rfl).trans ?_
  exact ze_icmp_le 13 11 zm74 dX9_type_8 (by decide) rfl
theorem b74_11 (sc : zScr) (v1 : Int32) (i : Nat → Nat → Int32) (b : Bool) (l : Nat → Nat → Int64) : zev sc (74, 11, [some (.ref 0), some (.int v1)], [], (197, i, (zRF b), l)) = some (.int (-1 : Int32), (197, i, (zRF b), l)) := by
  refine (ze_iconst 12 zm74 dX9_type_11 ci_m1 rfl).trans ?_
  exact ze_ireturn zm74 dX9_type_12 rfl
theorem b74_13 (sc : zScr) (v1 : Int32) (i : Nat → Nat → Int32) (b : Bool) (l : Nat → Nat → Int64) : zev sc (74, 13, [some (.ref 0), some (.int v1)], [], (197, i, (zRF b), l)) = (zev sc (59, 0, [some (.ref 1), some (.int v1)], [], (197, i, (zRF b), l))).bind (fun x => zev sc (74, 21, [some (.ref 0), some (.int v1)], [x.1], x.2)) := by
  refine (ze_aload_n 14 zm74 dX9_type_13 rfl rfl).trans ?_
  refine (ze_getR 17 zm74 dX9_type_14 f9_10 k0_9 t9_0 (rr0_0 b) rfl).trans ?_
  refine (ze_iload_n 18 zm74 dX9_type_17 rfl rfl).trans ?_
  exact ze_virtI (as := [.int v1]) (rest := []) 21 zm74 dX9_type_18 r9_85 zm59 rfl rfl k1_8 rfl rfl rfl rfl
theorem b74_21 (sc : zScr) (v1 : Int32) (s0 : Int32) (i : Nat → Nat → Int32) (b : Bool) (l : Nat → Nat → Int64) : zev sc (74, 21, [some (.ref 0), some (.int v1)], [.int s0], (197, i, (zRF b), l)) = if s0 = 0 then zev sc (74, 34, [some (.ref 0), some (.int v1)], [], (197, i, (zRF b), l)) else zev sc (74, 24, [some (.ref 0), some (.int v1)], [], (197, i, (zRF b), l)) := by
  exact ze_if_eq 34 24 zm74 dX9_type_21 (by decide) rfl
theorem b74_24 (sc : zScr) (v1 : Int32) (i : Nat → Nat → Int32) (b : Bool) (l : Nat → Nat → Int64) : zev sc (74, 24, [some (.ref 0), some (.int v1)], [], (197, i, (zRF b), l)) = zev sc (74, 36, [some (.ref 0), some (.int v1)], [.int (i 1 1)], (197, i, (zRF b), l)) := by
  refine (ze_aload_n 25 zm74 dX9_type_24 rfl rfl).trans ?_
  refine (ze_getR 28 zm74 dX9_type_25 f9_10 k0_9 t9_0 (rr0_0 b) rfl).trans ?_
  refine (ze_getI 31 zm74 dX9_type_28 f9_89 k1_8 (Or.inl t8_1) rfl).trans ?_
  exact ze_goto 36 zm74 dX9_type_31 (by decide)
theorem b74_34 (sc : zScr) (v1 : Int32) (i : Nat → Nat → Int32) (b : Bool) (l : Nat → Nat → Int64) : zev sc (74, 34, [some (.ref 0), some (.int v1)], [], (197, i, (zRF b), l)) = zev sc (74, 36, [some (.ref 0), some (.int v1)], [.int (-3 : Int32)], (197, i, (zRF b), l)) := by
  refine (ze_bipush 36 zm74 dX9_type_34 cb_m3 rfl).trans ?_
  rfl
theorem b74_36 (sc : zScr) (v1 : Int32) (s0 : Int32) (i : Nat → Nat → Int32) (b : Bool) (l : Nat → Nat → Int64) : zev sc (74, 36, [some (.ref 0), some (.int v1)], [.int s0], (197, i, (zRF b), l)) = some (.int s0, (197, i, (zRF b), l)) := by
  exact ze_ireturn zm74 dX9_type_36 rfl
/-! HarpFences.clear ()I: method 75 -/
theorem b75_0 (sc : zScr) (i : Nat → Nat → Int32) (b : Bool) (l : Nat → Nat → Int64) : zev sc (75, 0, [some (.ref 0), none], [], (197, i, (zRF b), l)) = some (.int (i 1 1), (197, (zU i 1 1 (0 : Int32)), (zRF b), l)) := by
  refine (ze_aload_n 1 zm75 dX9_clear_0 rfl rfl).trans ?_
  refine (ze_getR 4 zm75 dX9_clear_1 f9_10 k0_9 t9_0 (rr0_0 b) rfl).trans ?_
  refine (ze_getI 7 zm75 dX9_clear_4 f9_89 k1_8 (Or.inl t8_1) rfl).trans ?_
  refine (ze_istore_n (A := 99) (ls' := [some (.ref 0), some (.int (i 1 1))]) 8 zm75 dX9_clear_7 za75 rfl rfl rfl rfl rfl).trans ?_
  refine (ze_aload_n 9 zm75 dX9_clear_8 rfl rfl).trans ?_
  refine (ze_getR 12 zm75 dX9_clear_9 f9_10 k0_9 t9_0 (rr0_0 b) rfl).trans ?_
  refine (ze_iconst 13 zm75 dX9_clear_12 ci_0 rfl).trans ?_
  refine (ze_putI 16 zm75 dX9_clear_13 f9_89 k1_8 (Or.inl fn8_1) t8_1 rfl).trans ?_
  refine (ze_iload_n 17 zm75 dX9_clear_16 rfl rfl).trans ?_
  exact ze_ireturn zm75 dX9_clear_17 rfl
/-! HarpFences.downs ()I: method 76 -/
theorem b76_0 (sc : zScr) (i : Nat → Nat → Int32) (b : Bool) (l : Nat → Nat → Int64) : zev sc (76, 0, [some (.ref 0), none], [], (197, i, (zRF b), l)) = (zev sc (60, 0, [some (.ref 1), some (.ref 11), none, none], [], (197, i, (zRF b), l))).bind (fun x => zev sc (76, 11, [some (.ref 0), none], [x.1], x.2)) := by
  refine (ze_aload_n 1 zm76 dX9_downs_0 rfl rfl).trans ?_
  refine (ze_getR 4 zm76 dX9_downs_1 f9_10 k0_9 t9_0 (rr0_0 b) rfl).trans ?_
  refine (ze_aload_n 5 zm76 dX9_downs_4 rfl rfl).trans ?_
  refine (ze_getR 8 zm76 dX9_downs_5 f9_23 k0_9 t9_2 (rr0_2 b) rfl).trans ?_
  exact ze_virtI (as := [.ref 11]) (rest := []) 11 zm76 dX9_downs_8 r9_93 zm60 rfl rfl k1_8 rfl rfl rfl rfl
theorem b76_11 (sc : zScr) (s0 : Int32) (i : Nat → Nat → Int32) (b : Bool) (l : Nat → Nat → Int64) : zev sc (76, 11, [some (.ref 0), none], [.int s0], (197, i, (zRF b), l)) = if 0 ≤ s0 then zev sc (76, 18, [some (.ref 0), some (.int s0)], [], (197, i, (zRF b), l)) else zev sc (76, 16, [some (.ref 0), some (.int s0)], [], (197, i, (zRF b), l)) := by
  refine (ze_istore_n (A := 99) (ls' := [some (.ref 0), some (.int s0)]) 12 zm76 dX9_downs_11 za76 rfl rfl rfl rfl rfl).trans ?_
  refine (ze_iload_n 13 zm76 dX9_downs_12 rfl rfl).trans ?_
  exact ze_if_ge 18 16 zm76 dX9_downs_13 (by decide) rfl
theorem b76_16 (sc : zScr) (v1 : Int32) (i : Nat → Nat → Int32) (b : Bool) (l : Nat → Nat → Int64) : zev sc (76, 16, [some (.ref 0), some (.int v1)], [], (197, i, (zRF b), l)) = some (.int v1, (197, i, (zRF b), l)) := by
  refine (ze_iload_n 17 zm76 dX9_downs_16 rfl rfl).trans ?_
  exact ze_ireturn zm76 dX9_downs_17 rfl
theorem b76_18 (sc : zScr) (v1 : Int32) (i : Nat → Nat → Int32) (b : Bool) (l : Nat → Nat → Int64) : zev sc (76, 18, [some (.ref 0), some (.int v1)], [], (197, i, (zRF b), l)) = (zev sc (34, 0, [some (.ref 3), some (.ref 11)], [], (197, (zU i 1 1 (0 : Int32)), (zRF b), l))).bind (fun x => zev sc (76, 37, [some (.ref 0), some (.int v1)], [], x.2)) := by
  refine (ze_aload_n 19 zm76 dX9_downs_18 rfl rfl).trans ?_
  refine (ze_getR 22 zm76 dX9_downs_19 f9_10 k0_9 t9_0 (rr0_0 b) rfl).trans ?_
  refine (ze_iconst 23 zm76 dX9_downs_22 ci_0 rfl).trans ?_
  refine (ze_putI 26 zm76 dX9_downs_23 f9_89 k1_8 (Or.inl fn8_1) t8_1 rfl).trans ?_
  refine (ze_aload_n 27 zm76 dX9_downs_26 rfl rfl).trans ?_
  refine (ze_getR 30 zm76 dX9_downs_27 f9_19 k0_9 t9_1 (rr0_1 b) rfl).trans ?_
  refine (ze_aload_n 31 zm76 dX9_downs_30 rfl rfl).trans ?_
  refine (ze_getR 34 zm76 dX9_downs_31 f9_23 k0_9 t9_2 (rr0_2 b) rfl).trans ?_
  exact ze_virtV (as := [.ref 11]) (rest := []) 37 zm76 dX9_downs_34 r9_97 zm34 rfl rfl k3_4 rfl rfl rfl rfl
theorem b76_37 (sc : zScr) (v1 : Int32) (i : Nat → Nat → Int32) (b : Bool) (l : Nat → Nat → Int64) : zev sc (76, 37, [some (.ref 0), some (.int v1)], [], (197, i, (zRF b), l)) = (zev sc (105, 0, [some (.ref 0), none], [], (197, i, (zRF b), l))).bind (fun x => zev sc (76, 41, [some (.ref 0), some (.int v1)], [], x.2)) := by
  refine (ze_aload_n 38 zm76 dX9_downs_37 rfl rfl).trans ?_
  exact ze_virtV (as := []) (rest := []) 41 zm76 dX9_downs_38 r9_82 zm105 rfl rfl k0_9 rfl rfl rfl rfl
theorem b76_41 (sc : zScr) (v1 : Int32) (i : Nat → Nat → Int32) (b : Bool) (l : Nat → Nat → Int64) : zev sc (76, 41, [some (.ref 0), some (.int v1)], [], (197, i, (zRF b), l)) = some (.int v1, (197, i, (zRF b), l)) := by
  refine (ze_iload_n 42 zm76 dX9_downs_41 rfl rfl).trans ?_
  exact ze_ireturn zm76 dX9_downs_42 rfl
/-! HarpFences.fence (II)I: method 77 -/
theorem b77_0 (sc : zScr) (v1 : Int32) (v2 : Int32) (i : Nat → Nat → Int32) (b : Bool) (l : Nat → Nat → Int64) : zev sc (77, 0, [some (.ref 0), some (.int v1), some (.int v2)], [], (197, i, (zRF b), l)) = (zev sc (107, 0, [some (.ref 0), some (.int v1)], [], (197, i, (zRF b), l))).bind (fun x => zev sc (77, 5, [some (.ref 0), some (.int v1), some (.int v2)], [x.1], x.2)) := by
  refine (ze_aload_n 1 zm77 dX9_fence_0 rfl rfl).trans ?_
  refine (ze_iload_n 2 zm77 dX9_fence_1 rfl rfl).trans ?_
  exact ze_virtI (as := [.int v1]) (rest := []) 5 zm77 dX9_fence_2 r9_101 zm107 rfl rfl k0_9 rfl rfl rfl rfl
theorem b77_5 (sc : zScr) (v1 : Int32) (v2 : Int32) (s0 : Int32) (i : Nat → Nat → Int32) (b : Bool) (l : Nat → Nat → Int64) : zev sc (77, 5, [some (.ref 0), some (.int v1), some (.int v2)], [.int s0], (197, i, (zRF b), l)) = if s0 = 0 then zev sc (77, 8, [some (.ref 0), some (.int v1), some (.int v2)], [], (197, i, (zRF b), l)) else zev sc (77, 10, [some (.ref 0), some (.int v1), some (.int v2)], [], (197, i, (zRF b), l)) := by
  exact ze_if_ne 10 8 zm77 dX9_fence_5 (by decide) rfl
theorem b77_8 (sc : zScr) (v1 : Int32) (v2 : Int32) (i : Nat → Nat → Int32) (b : Bool) (l : Nat → Nat → Int64) : zev sc (77, 8, [some (.ref 0), some (.int v1), some (.int v2)], [], (197, i, (zRF b), l)) = some (.int (-1 : Int32), (197, i, (zRF b), l)) := by
  refine (ze_iconst 9 zm77 dX9_fence_8 ci_m1 rfl).trans ?_
  exact ze_ireturn zm77 dX9_fence_9 rfl
theorem b77_10 (sc : zScr) (v1 : Int32) (v2 : Int32) (i : Nat → Nat → Int32) (b : Bool) (l : Nat → Nat → Int64) : zev sc (77, 10, [some (.ref 0), some (.int v1), some (.int v2)], [], (197, i, (zRF b), l)) = zev sc (77, zcs v2 98 [((0 : Int32), 44), ((1 : Int32), 54), ((2 : Int32), 64), ((3 : Int32), 74), ((4 : Int32), 86)], [some (.ref 0), some (.int v1), some (.int v2)], [], (197, i, (zRF b), l)) := by
  refine (ze_iload_n 11 zm77 dX9_fence_10 rfl rfl).trans ?_
  exact ze_table zm77 dX9_fence_11 (sw_77_11 _)
theorem b77_44 (sc : zScr) (v1 : Int32) (v2 : Int32) (i : Nat → Nat → Int32) (b : Bool) (l : Nat → Nat → Int64) (h1 : vp_in v1 8) : zev sc (77, 44, [some (.ref 0), some (.int v1), some (.int v2)], [], (197, i, (zRF b), l)) = some (.int (i 4 v1.toNatClampNeg), (197, i, (zRF b), l)) := by
  refine (ze_aload_n 45 zm77 dX9_fence_44 rfl rfl).trans ?_
  refine (ze_getR 48 zm77 dX9_fence_45 f9_19 k0_9 t9_1 (rr0_1 b) rfl).trans ?_
  refine (ze_getR 51 zm77 dX9_fence_48 f9_104 k3_4 t4_2 (rr3_2 b) rfl).trans ?_
  refine (ze_iload_n 52 zm77 dX9_fence_51 rfl rfl).trans ?_
  refine (ze_iaload (t := v1.toNatClampNeg) 53 zm77 dX9_fence_52 k4_100 n4 h1 rfl rfl).trans ?_
  exact ze_ireturn zm77 dX9_fence_53 rfl
theorem b77_54 (sc : zScr) (v1 : Int32) (v2 : Int32) (i : Nat → Nat → Int32) (b : Bool) (l : Nat → Nat → Int64) (h1 : vp_in v1 8) : zev sc (77, 54, [some (.ref 0), some (.int v1), some (.int v2)], [], (197, i, (zRF b), l)) = some (.int (i 5 v1.toNatClampNeg), (197, i, (zRF b), l)) := by
  refine (ze_aload_n 55 zm77 dX9_fence_54 rfl rfl).trans ?_
  refine (ze_getR 58 zm77 dX9_fence_55 f9_19 k0_9 t9_1 (rr0_1 b) rfl).trans ?_
  refine (ze_getR 61 zm77 dX9_fence_58 f9_108 k3_4 t4_3 (rr3_3 b) rfl).trans ?_
  refine (ze_iload_n 62 zm77 dX9_fence_61 rfl rfl).trans ?_
  refine (ze_iaload (t := v1.toNatClampNeg) 63 zm77 dX9_fence_62 k5_100 n5 h1 rfl rfl).trans ?_
  exact ze_ireturn zm77 dX9_fence_63 rfl
theorem b77_64 (sc : zScr) (v1 : Int32) (v2 : Int32) (i : Nat → Nat → Int32) (b : Bool) (l : Nat → Nat → Int64) (h1 : vp_in v1 8) : zev sc (77, 64, [some (.ref 0), some (.int v1), some (.int v2)], [], (197, i, (zRF b), l)) = some (.int (i 21 v1.toNatClampNeg), (197, i, (zRF b), l)) := by
  refine (ze_aload_n 65 zm77 dX9_fence_64 rfl rfl).trans ?_
  refine (ze_getR 68 zm77 dX9_fence_65 f9_29 k0_9 t9_3 (rr0_3 b) rfl).trans ?_
  refine (ze_getR 71 zm77 dX9_fence_68 f9_111 k19_7 t7_1 (rr19_1 b) rfl).trans ?_
  refine (ze_iload_n 72 zm77 dX9_fence_71 rfl rfl).trans ?_
  refine (ze_iaload (t := v1.toNatClampNeg) 73 zm77 dX9_fence_72 k21_100 n21 h1 rfl rfl).trans ?_
  exact ze_ireturn zm77 dX9_fence_73 rfl
theorem b77_74 (sc : zScr) (v1 : Int32) (v2 : Int32) (i : Nat → Nat → Int32) (b : Bool) (l : Nat → Nat → Int64) : zev sc (77, 74, [some (.ref 0), some (.int v1), some (.int v2)], [], (197, i, (zRF b), l)) = some (.int (((i 19 4) >>> (v1 &&& 31)) &&& (1 : Int32)), (197, i, (zRF b), l)) := by
  refine (ze_aload_n 75 zm77 dX9_fence_74 rfl rfl).trans ?_
  refine (ze_getR 78 zm77 dX9_fence_75 f9_29 k0_9 t9_3 (rr0_3 b) rfl).trans ?_
  refine (ze_getI 81 zm77 dX9_fence_78 f9_114 k19_7 (Or.inl t7_4) rfl).trans ?_
  refine (ze_iload_n 82 zm77 dX9_fence_81 rfl rfl).trans ?_
  refine (ze_ishr 83 zm77 dX9_fence_82 rfl).trans ?_
  refine (ze_iconst 84 zm77 dX9_fence_83 ci_1 rfl).trans ?_
  refine (ze_iand 85 zm77 dX9_fence_84 rfl).trans ?_
  exact ze_ireturn zm77 dX9_fence_85 rfl
theorem b77_86 (sc : zScr) (v1 : Int32) (v2 : Int32) (i : Nat → Nat → Int32) (b : Bool) (l : Nat → Nat → Int64) : zev sc (77, 86, [some (.ref 0), some (.int v1), some (.int v2)], [], (197, i, (zRF b), l)) = some (.int (((i 19 5) >>> (v1 &&& 31)) &&& (1 : Int32)), (197, i, (zRF b), l)) := by
  refine (ze_aload_n 87 zm77 dX9_fence_86 rfl rfl).trans ?_
  refine (ze_getR 90 zm77 dX9_fence_87 f9_29 k0_9 t9_3 (rr0_3 b) rfl).trans ?_
  refine (ze_getI 93 zm77 dX9_fence_90 f9_117 k19_7 (Or.inl t7_5) rfl).trans ?_
  refine (ze_iload_n 94 zm77 dX9_fence_93 rfl rfl).trans ?_
  refine (ze_ishr 95 zm77 dX9_fence_94 rfl).trans ?_
  refine (ze_iconst 96 zm77 dX9_fence_95 ci_1 rfl).trans ?_
  refine (ze_iand 97 zm77 dX9_fence_96 rfl).trans ?_
  exact ze_ireturn zm77 dX9_fence_97 rfl
theorem b77_98 (sc : zScr) (v1 : Int32) (v2 : Int32) (i : Nat → Nat → Int32) (b : Bool) (l : Nat → Nat → Int64) : zev sc (77, 98, [some (.ref 0), some (.int v1), some (.int v2)], [], (197, i, (zRF b), l)) = some (.int (-1 : Int32), (197, i, (zRF b), l)) := by
  refine (ze_iconst 99 zm77 dX9_fence_98 ci_m1 rfl).trans ?_
  exact ze_ireturn zm77 dX9_fence_99 rfl
/-! HarpFences.kind (II)I: method 78 -/
theorem b78_0 (sc : zScr) (v1 : Int32) (v2 : Int32) (i : Nat → Nat → Int32) (b : Bool) (l : Nat → Nat → Int64) : zev sc (78, 0, [some (.ref 0), some (.int v1), some (.int v2)], [], (197, i, (zRF b), l)) = (zev sc (108, 0, [some (.ref 0), some (.int v1)], [], (197, i, (zRF b), l))).bind (fun x => zev sc (78, 5, [some (.ref 0), some (.int v1), some (.int v2)], [x.1], x.2)) := by
  refine (ze_aload_n 1 zm78 dX9_kind_0 rfl rfl).trans ?_
  refine (ze_iload_n 2 zm78 dX9_kind_1 rfl rfl).trans ?_
  exact ze_virtI (as := [.int v1]) (rest := []) 5 zm78 dX9_kind_2 r9_120 zm108 rfl rfl k0_9 rfl rfl rfl rfl
theorem b78_5 (sc : zScr) (v1 : Int32) (v2 : Int32) (s0 : Int32) (i : Nat → Nat → Int32) (b : Bool) (l : Nat → Nat → Int64) : zev sc (78, 5, [some (.ref 0), some (.int v1), some (.int v2)], [.int s0], (197, i, (zRF b), l)) = if s0 = 0 then zev sc (78, 8, [some (.ref 0), some (.int v1), some (.int v2)], [], (197, i, (zRF b), l)) else zev sc (78, 11, [some (.ref 0), some (.int v1), some (.int v2)], [], (197, i, (zRF b), l)) := by
  exact ze_if_ne 11 8 zm78 dX9_kind_5 (by decide) rfl
theorem b78_8 (sc : zScr) (v1 : Int32) (v2 : Int32) (i : Nat → Nat → Int32) (b : Bool) (l : Nat → Nat → Int64) : zev sc (78, 8, [some (.ref 0), some (.int v1), some (.int v2)], [], (197, i, (zRF b), l)) = some (.int (-1000000 : Int32), (197, i, (zRF b), l)) := by
  refine (ze_ldc 10 zm78 dX9_kind_8 zi_9_123 rfl).trans ?_
  exact ze_ireturn zm78 dX9_kind_10 rfl
theorem b78_11 (sc : zScr) (v1 : Int32) (v2 : Int32) (i : Nat → Nat → Int32) (b : Bool) (l : Nat → Nat → Int64) : zev sc (78, 11, [some (.ref 0), some (.int v1), some (.int v2)], [], (197, i, (zRF b), l)) = zev sc (78, zcs v2 60 [((0 : Int32), 40), ((1 : Int32), 50)], [some (.ref 0), some (.int v1), some (.int v2)], [], (197, i, (zRF b), l)) := by
  refine (ze_iload_n 12 zm78 dX9_kind_11 rfl rfl).trans ?_
  exact ze_lookup zm78 dX9_kind_12 (by decide) (sw_78_12 _)
theorem b78_40 (sc : zScr) (v1 : Int32) (v2 : Int32) (i : Nat → Nat → Int32) (b : Bool) (l : Nat → Nat → Int64) (h1 : vp_in v1 4) : zev sc (78, 40, [some (.ref 0), some (.int v1), some (.int v2)], [], (197, i, (zRF b), l)) = some (.int (i 7 v1.toNatClampNeg), (197, i, (zRF b), l)) := by
  refine (ze_aload_n 41 zm78 dX9_kind_40 rfl rfl).trans ?_
  refine (ze_getR 44 zm78 dX9_kind_41 f9_19 k0_9 t9_1 (rr0_1 b) rfl).trans ?_
  refine (ze_getR 47 zm78 dX9_kind_44 f9_124 k3_4 t4_6 (rr3_6 b) rfl).trans ?_
  refine (ze_iload_n 48 zm78 dX9_kind_47 rfl rfl).trans ?_
  refine (ze_iaload (t := v1.toNatClampNeg) 49 zm78 dX9_kind_48 k7_100 n7 h1 rfl rfl).trans ?_
  exact ze_ireturn zm78 dX9_kind_49 rfl
theorem b78_50 (sc : zScr) (v1 : Int32) (v2 : Int32) (i : Nat → Nat → Int32) (b : Bool) (l : Nat → Nat → Int64) (h1 : vp_in v1 4) : zev sc (78, 50, [some (.ref 0), some (.int v1), some (.int v2)], [], (197, i, (zRF b), l)) = some (.int (i 8 v1.toNatClampNeg), (197, i, (zRF b), l)) := by
  refine (ze_aload_n 51 zm78 dX9_kind_50 rfl rfl).trans ?_
  refine (ze_getR 54 zm78 dX9_kind_51 f9_19 k0_9 t9_1 (rr0_1 b) rfl).trans ?_
  refine (ze_getR 57 zm78 dX9_kind_54 f9_127 k3_4 t4_7 (rr3_7 b) rfl).trans ?_
  refine (ze_iload_n 58 zm78 dX9_kind_57 rfl rfl).trans ?_
  refine (ze_iaload (t := v1.toNatClampNeg) 59 zm78 dX9_kind_58 k8_100 n8 h1 rfl rfl).trans ?_
  exact ze_ireturn zm78 dX9_kind_59 rfl
theorem b78_60 (sc : zScr) (v1 : Int32) (v2 : Int32) (i : Nat → Nat → Int32) (b : Bool) (l : Nat → Nat → Int64) : zev sc (78, 60, [some (.ref 0), some (.int v1), some (.int v2)], [], (197, i, (zRF b), l)) = some (.int (-1000000 : Int32), (197, i, (zRF b), l)) := by
  refine (ze_ldc 62 zm78 dX9_kind_60 zi_9_123 rfl).trans ?_
  exact ze_ireturn zm78 dX9_kind_62 rfl
/-! HarpFences.beast (II)I: method 79 -/
theorem b79_0 (sc : zScr) (v1 : Int32) (v2 : Int32) (i : Nat → Nat → Int32) (b : Bool) (l : Nat → Nat → Int64) : zev sc (79, 0, [some (.ref 0), some (.int v1), some (.int v2)], [], (197, i, (zRF b), l)) = (zev sc (109, 0, [some (.ref 0), some (.int v1)], [], (197, i, (zRF b), l))).bind (fun x => zev sc (79, 5, [some (.ref 0), some (.int v1), some (.int v2)], [x.1], x.2)) := by
  refine (ze_aload_n 1 zm79 dX9_beast_0 rfl rfl).trans ?_
  refine (ze_iload_n 2 zm79 dX9_beast_1 rfl rfl).trans ?_
  exact ze_virtI (as := [.int v1]) (rest := []) 5 zm79 dX9_beast_2 r9_130 zm109 rfl rfl k0_9 rfl rfl rfl rfl
theorem b79_5 (sc : zScr) (v1 : Int32) (v2 : Int32) (s0 : Int32) (i : Nat → Nat → Int32) (b : Bool) (l : Nat → Nat → Int64) : zev sc (79, 5, [some (.ref 0), some (.int v1), some (.int v2)], [.int s0], (197, i, (zRF b), l)) = if s0 = 0 then zev sc (79, 8, [some (.ref 0), some (.int v1), some (.int v2)], [], (197, i, (zRF b), l)) else zev sc (79, 10, [some (.ref 0), some (.int v1), some (.int v2)], [], (197, i, (zRF b), l)) := by
  exact ze_if_ne 10 8 zm79 dX9_beast_5 (by decide) rfl
theorem b79_8 (sc : zScr) (v1 : Int32) (v2 : Int32) (i : Nat → Nat → Int32) (b : Bool) (l : Nat → Nat → Int64) : zev sc (79, 8, [some (.ref 0), some (.int v1), some (.int v2)], [], (197, i, (zRF b), l)) = some (.int (-1 : Int32), (197, i, (zRF b), l)) := by
  refine (ze_iconst 9 zm79 dX9_beast_8 ci_m1 rfl).trans ?_
  exact ze_ireturn zm79 dX9_beast_9 rfl
theorem b79_10 (sc : zScr) (v1 : Int32) (v2 : Int32) (i : Nat → Nat → Int32) (b : Bool) (l : Nat → Nat → Int64) : zev sc (79, 10, [some (.ref 0), some (.int v1), some (.int v2)], [], (197, i, (zRF b), l)) = zev sc (79, zcs v2 56 [((0 : Int32), 36), ((1 : Int32), 46)], [some (.ref 0), some (.int v1), some (.int v2)], [], (197, i, (zRF b), l)) := by
  refine (ze_iload_n 11 zm79 dX9_beast_10 rfl rfl).trans ?_
  exact ze_lookup zm79 dX9_beast_11 (by decide) (sw_79_11 _)
theorem b79_36 (sc : zScr) (v1 : Int32) (v2 : Int32) (i : Nat → Nat → Int32) (b : Bool) (l : Nat → Nat → Int64) (h1 : vp_in v1 6) : zev sc (79, 36, [some (.ref 0), some (.int v1), some (.int v2)], [], (197, i, (zRF b), l)) = some (.int (i 9 v1.toNatClampNeg), (197, i, (zRF b), l)) := by
  refine (ze_aload_n 37 zm79 dX9_beast_36 rfl rfl).trans ?_
  refine (ze_getR 40 zm79 dX9_beast_37 f9_19 k0_9 t9_1 (rr0_1 b) rfl).trans ?_
  refine (ze_getR 43 zm79 dX9_beast_40 f9_133 k3_4 t4_9 (rr3_9 b) rfl).trans ?_
  refine (ze_iload_n 44 zm79 dX9_beast_43 rfl rfl).trans ?_
  refine (ze_iaload (t := v1.toNatClampNeg) 45 zm79 dX9_beast_44 k9_100 n9 h1 rfl rfl).trans ?_
  exact ze_ireturn zm79 dX9_beast_45 rfl
theorem b79_46 (sc : zScr) (v1 : Int32) (v2 : Int32) (i : Nat → Nat → Int32) (b : Bool) (l : Nat → Nat → Int64) (h1 : vp_in v1 6) : zev sc (79, 46, [some (.ref 0), some (.int v1), some (.int v2)], [], (197, i, (zRF b), l)) = some (.int (i 20 v1.toNatClampNeg), (197, i, (zRF b), l)) := by
  refine (ze_aload_n 47 zm79 dX9_beast_46 rfl rfl).trans ?_
  refine (ze_getR 50 zm79 dX9_beast_47 f9_29 k0_9 t9_3 (rr0_3 b) rfl).trans ?_
  refine (ze_getR 53 zm79 dX9_beast_50 f9_136 k19_7 t7_0 (rr19_0 b) rfl).trans ?_
  refine (ze_iload_n 54 zm79 dX9_beast_53 rfl rfl).trans ?_
  refine (ze_iaload (t := v1.toNatClampNeg) 55 zm79 dX9_beast_54 k20_100 n20 h1 rfl rfl).trans ?_
  exact ze_ireturn zm79 dX9_beast_55 rfl
theorem b79_56 (sc : zScr) (v1 : Int32) (v2 : Int32) (i : Nat → Nat → Int32) (b : Bool) (l : Nat → Nat → Int64) : zev sc (79, 56, [some (.ref 0), some (.int v1), some (.int v2)], [], (197, i, (zRF b), l)) = some (.int (-1 : Int32), (197, i, (zRF b), l)) := by
  refine (ze_iconst 57 zm79 dX9_beast_56 ci_m1 rfl).trans ?_
  exact ze_ireturn zm79 dX9_beast_57 rfl
/-! HarpFences.sound (II)I: method 80 -/
theorem b80_0 (sc : zScr) (v1 : Int32) (v2 : Int32) (i : Nat → Nat → Int32) (b : Bool) (l : Nat → Nat → Int64) : zev sc (80, 0, [some (.ref 0), some (.int v1), some (.int v2)], [], (197, i, (zRF b), l)) = (zev sc (108, 0, [some (.ref 0), some (.int v1)], [], (197, i, (zRF b), l))).bind (fun x => zev sc (80, 5, [some (.ref 0), some (.int v1), some (.int v2)], [x.1], x.2)) := by
  refine (ze_aload_n 1 zm80 dX9_sound_0 rfl rfl).trans ?_
  refine (ze_iload_n 2 zm80 dX9_sound_1 rfl rfl).trans ?_
  exact ze_virtI (as := [.int v1]) (rest := []) 5 zm80 dX9_sound_2 r9_120 zm108 rfl rfl k0_9 rfl rfl rfl rfl
theorem b80_5 (sc : zScr) (v1 : Int32) (v2 : Int32) (s0 : Int32) (i : Nat → Nat → Int32) (b : Bool) (l : Nat → Nat → Int64) : zev sc (80, 5, [some (.ref 0), some (.int v1), some (.int v2)], [.int s0], (197, i, (zRF b), l)) = if s0 = 0 then zev sc (80, 28, [some (.ref 0), some (.int v1), some (.int v2)], [], (197, i, (zRF b), l)) else zev sc (80, 8, [some (.ref 0), some (.int v1), some (.int v2)], [], (197, i, (zRF b), l)) := by
  exact ze_if_eq 28 8 zm80 dX9_sound_5 (by decide) rfl
theorem b80_8 (sc : zScr) (v1 : Int32) (v2 : Int32) (i : Nat → Nat → Int32) (b : Bool) (l : Nat → Nat → Int64) : zev sc (80, 8, [some (.ref 0), some (.int v1), some (.int v2)], [], (197, i, (zRF b), l)) = (zev sc (107, 0, [some (.ref 0), some (.int v2)], [], (197, i, (zRF b), l))).bind (fun x => zev sc (80, 13, [some (.ref 0), some (.int v1), some (.int v2)], [x.1], x.2)) := by
  refine (ze_aload_n 9 zm80 dX9_sound_8 rfl rfl).trans ?_
  refine (ze_iload_n 10 zm80 dX9_sound_9 rfl rfl).trans ?_
  exact ze_virtI (as := [.int v2]) (rest := []) 13 zm80 dX9_sound_10 r9_101 zm107 rfl rfl k0_9 rfl rfl rfl rfl
theorem b80_13 (sc : zScr) (v1 : Int32) (v2 : Int32) (s0 : Int32) (i : Nat → Nat → Int32) (b : Bool) (l : Nat → Nat → Int64) : zev sc (80, 13, [some (.ref 0), some (.int v1), some (.int v2)], [.int s0], (197, i, (zRF b), l)) = if s0 = 0 then zev sc (80, 28, [some (.ref 0), some (.int v1), some (.int v2)], [], (197, i, (zRF b), l)) else zev sc (80, 16, [some (.ref 0), some (.int v1), some (.int v2)], [], (197, i, (zRF b), l)) := by
  exact ze_if_eq 28 16 zm80 dX9_sound_13 (by decide) rfl
theorem b80_16 (sc : zScr) (v1 : Int32) (v2 : Int32) (i : Nat → Nat → Int32) (b : Bool) (l : Nat → Nat → Int64) : zev sc (80, 16, [some (.ref 0), some (.int v1), some (.int v2)], [], (197, i, (zRF b), l)) = (zev sc (15, 0, [some (.ref 23), some (.int v1), some (.int v2)], [], (197, i, (zRF b), l))).bind (fun x => zev sc (80, 25, [some (.ref 0), some (.int v1), some (.int v2)], [x.1], x.2)) := by
  refine (ze_aload_n 17 zm80 dX9_sound_16 rfl rfl).trans ?_
  refine (ze_getR 20 zm80 dX9_sound_17 f9_38 k0_9 t9_4 (rr0_4 b) rfl).trans ?_
  refine (ze_iload_n 21 zm80 dX9_sound_20 rfl rfl).trans ?_
  refine (ze_iload_n 22 zm80 dX9_sound_21 rfl rfl).trans ?_
  exact ze_virtI (as := [.int v1, .int v2]) (rest := []) 25 zm80 dX9_sound_22 r9_139 zm15 rfl rfl k23_1 rfl rfl rfl rfl
theorem b80_25 (sc : zScr) (v1 : Int32) (v2 : Int32) (s0 : Int32) (i : Nat → Nat → Int32) (b : Bool) (l : Nat → Nat → Int64) : zev sc (80, 25, [some (.ref 0), some (.int v1), some (.int v2)], [.int s0], (197, i, (zRF b), l)) = zev sc (80, 29, [some (.ref 0), some (.int v1), some (.int v2)], [.int s0], (197, i, (zRF b), l)) := by
  exact ze_goto 29 zm80 dX9_sound_25 (by decide)
theorem b80_28 (sc : zScr) (v1 : Int32) (v2 : Int32) (i : Nat → Nat → Int32) (b : Bool) (l : Nat → Nat → Int64) : zev sc (80, 28, [some (.ref 0), some (.int v1), some (.int v2)], [], (197, i, (zRF b), l)) = zev sc (80, 29, [some (.ref 0), some (.int v1), some (.int v2)], [.int (-1 : Int32)], (197, i, (zRF b), l)) := by
  refine (ze_iconst 29 zm80 dX9_sound_28 ci_m1 rfl).trans ?_
  rfl
theorem b80_29 (sc : zScr) (v1 : Int32) (v2 : Int32) (s0 : Int32) (i : Nat → Nat → Int32) (b : Bool) (l : Nat → Nat → Int64) : zev sc (80, 29, [some (.ref 0), some (.int v1), some (.int v2)], [.int s0], (197, i, (zRF b), l)) = some (.int s0, (197, i, (zRF b), l)) := by
  exact ze_ireturn zm80 dX9_sound_29 rfl
/-! HarpFences.goes (II)I: method 81 -/
theorem b81_0 (sc : zScr) (v1 : Int32) (v2 : Int32) (i : Nat → Nat → Int32) (b : Bool) (l : Nat → Nat → Int64) : zev sc (81, 0, [some (.ref 0), some (.int v1), some (.int v2), none, none], [], (197, i, (zRF b), l)) = (zev sc (109, 0, [some (.ref 0), some (.int v1)], [], (197, i, (zRF b), l))).bind (fun x => zev sc (81, 5, [some (.ref 0), some (.int v1), some (.int v2), none, none], [x.1], x.2)) := by
  refine (ze_aload_n 1 zm81 dX9_goes_0 rfl rfl).trans ?_
  refine (ze_iload_n 2 zm81 dX9_goes_1 rfl rfl).trans ?_
  exact ze_virtI (as := [.int v1]) (rest := []) 5 zm81 dX9_goes_2 r9_130 zm109 rfl rfl k0_9 rfl rfl rfl rfl
theorem b81_5 (sc : zScr) (v1 : Int32) (v2 : Int32) (s0 : Int32) (i : Nat → Nat → Int32) (b : Bool) (l : Nat → Nat → Int64) : zev sc (81, 5, [some (.ref 0), some (.int v1), some (.int v2), none, none], [.int s0], (197, i, (zRF b), l)) = if s0 = 0 then zev sc (81, 16, [some (.ref 0), some (.int v1), some (.int v2), none, none], [], (197, i, (zRF b), l)) else zev sc (81, 8, [some (.ref 0), some (.int v1), some (.int v2), none, none], [], (197, i, (zRF b), l)) := by
  exact ze_if_eq 16 8 zm81 dX9_goes_5 (by decide) rfl
theorem b81_8 (sc : zScr) (v1 : Int32) (v2 : Int32) (i : Nat → Nat → Int32) (b : Bool) (l : Nat → Nat → Int64) : zev sc (81, 8, [some (.ref 0), some (.int v1), some (.int v2), none, none], [], (197, i, (zRF b), l)) = (zev sc (107, 0, [some (.ref 0), some (.int v2)], [], (197, i, (zRF b), l))).bind (fun x => zev sc (81, 13, [some (.ref 0), some (.int v1), some (.int v2), none, none], [x.1], x.2)) := by
  refine (ze_aload_n 9 zm81 dX9_goes_8 rfl rfl).trans ?_
  refine (ze_iload_n 10 zm81 dX9_goes_9 rfl rfl).trans ?_
  exact ze_virtI (as := [.int v2]) (rest := []) 13 zm81 dX9_goes_10 r9_101 zm107 rfl rfl k0_9 rfl rfl rfl rfl
theorem b81_13 (sc : zScr) (v1 : Int32) (v2 : Int32) (s0 : Int32) (i : Nat → Nat → Int32) (b : Bool) (l : Nat → Nat → Int64) : zev sc (81, 13, [some (.ref 0), some (.int v1), some (.int v2), none, none], [.int s0], (197, i, (zRF b), l)) = if s0 = 0 then zev sc (81, 16, [some (.ref 0), some (.int v1), some (.int v2), none, none], [], (197, i, (zRF b), l)) else zev sc (81, 18, [some (.ref 0), some (.int v1), some (.int v2), none, none], [], (197, i, (zRF b), l)) := by
  exact ze_if_ne 18 16 zm81 dX9_goes_13 (by decide) rfl
theorem b81_16 (sc : zScr) (v1 : Int32) (v2 : Int32) (i : Nat → Nat → Int32) (b : Bool) (l : Nat → Nat → Int64) : zev sc (81, 16, [some (.ref 0), some (.int v1), some (.int v2), none, none], [], (197, i, (zRF b), l)) = some (.int (-1 : Int32), (197, i, (zRF b), l)) := by
  refine (ze_iconst 17 zm81 dX9_goes_16 ci_m1 rfl).trans ?_
  exact ze_ireturn zm81 dX9_goes_17 rfl
theorem b81_18 (sc : zScr) (v1 : Int32) (v2 : Int32) (i : Nat → Nat → Int32) (b : Bool) (l : Nat → Nat → Int64) (h1 : vp_in v1 6) : zev sc (81, 18, [some (.ref 0), some (.int v1), some (.int v2), none, none], [], (197, i, (zRF b), l)) = (zev sc (35, 0, [some (.ref 3), some (.int v2), some (.int (i 20 v1.toNatClampNeg))], [], (197, i, (zRF b), l))).bind (fun x => zev sc (81, 37, [some (.ref 0), some (.int v1), some (.int v2), some (.int (i 20 v1.toNatClampNeg)), none], [x.1], x.2)) := by
  refine (ze_aload_n 19 zm81 dX9_goes_18 rfl rfl).trans ?_
  refine (ze_getR 22 zm81 dX9_goes_19 f9_29 k0_9 t9_3 (rr0_3 b) rfl).trans ?_
  refine (ze_getR 25 zm81 dX9_goes_22 f9_136 k19_7 t7_0 (rr19_0 b) rfl).trans ?_
  refine (ze_iload_n 26 zm81 dX9_goes_25 rfl rfl).trans ?_
  refine (ze_iaload (t := v1.toNatClampNeg) 27 zm81 dX9_goes_26 k20_100 n20 h1 rfl rfl).trans ?_
  refine (ze_istore_n (A := 99) (ls' := [some (.ref 0), some (.int v1), some (.int v2), some (.int (i 20 v1.toNatClampNeg)), none]) 28 zm81 dX9_goes_27 za81 rfl rfl rfl rfl rfl).trans ?_
  refine (ze_aload_n 29 zm81 dX9_goes_28 rfl rfl).trans ?_
  refine (ze_getR 32 zm81 dX9_goes_29 f9_19 k0_9 t9_1 (rr0_1 b) rfl).trans ?_
  refine (ze_iload_n 33 zm81 dX9_goes_32 rfl rfl).trans ?_
  refine (ze_iload_n 34 zm81 dX9_goes_33 rfl rfl).trans ?_
  exact ze_virtI (as := [.int v2, .int (i 20 v1.toNatClampNeg)]) (rest := []) 37 zm81 dX9_goes_34 r9_143 zm35 rfl rfl k3_4 rfl rfl rfl rfl
theorem b81_37 (sc : zScr) (v1 : Int32) (v2 : Int32) (v3 : Int32) (s0 : Int32) (i : Nat → Nat → Int32) (b : Bool) (l : Nat → Nat → Int64) : zev sc (81, 37, [some (.ref 0), some (.int v1), some (.int v2), some (.int v3), none], [.int s0], (197, i, (zRF b), l)) = if s0 = 0 then zev sc (81, 40, [some (.ref 0), some (.int v1), some (.int v2), some (.int v3), none], [], (197, i, (zRF b), l)) else zev sc (81, 43, [some (.ref 0), some (.int v1), some (.int v2), some (.int v3), none], [], (197, i, (zRF b), l)) := by
  exact ze_if_ne 43 40 zm81 dX9_goes_37 (by decide) rfl
theorem b81_40 (sc : zScr) (v1 : Int32) (v2 : Int32) (v3 : Int32) (i : Nat → Nat → Int32) (b : Bool) (l : Nat → Nat → Int64) : zev sc (81, 40, [some (.ref 0), some (.int v1), some (.int v2), some (.int v3), none], [], (197, i, (zRF b), l)) = some (.int (-2 : Int32), (197, i, (zRF b), l)) := by
  refine (ze_bipush 42 zm81 dX9_goes_40 cb_m2 rfl).trans ?_
  exact ze_ireturn zm81 dX9_goes_42 rfl
theorem b81_43 (sc : zScr) (v1 : Int32) (v2 : Int32) (v3 : Int32) (i : Nat → Nat → Int32) (b : Bool) (l : Nat → Nat → Int64) (h1 : vp_in v1 6) : zev sc (81, 43, [some (.ref 0), some (.int v1), some (.int v2), some (.int v3), none], [], (197, i, (zRF b), l)) = (zev sc (15, 0, [some (.ref 23), some (.int (i 9 v1.toNatClampNeg)), some (.int v2)], [], (197, i, (zRF b), l))).bind (fun x => zev sc (81, 60, [some (.ref 0), some (.int v1), some (.int v2), some (.int v3), none], [x.1], x.2)) := by
  refine (ze_aload_n 44 zm81 dX9_goes_43 rfl rfl).trans ?_
  refine (ze_getR 47 zm81 dX9_goes_44 f9_38 k0_9 t9_4 (rr0_4 b) rfl).trans ?_
  refine (ze_aload_n 48 zm81 dX9_goes_47 rfl rfl).trans ?_
  refine (ze_getR 51 zm81 dX9_goes_48 f9_19 k0_9 t9_1 (rr0_1 b) rfl).trans ?_
  refine (ze_getR 54 zm81 dX9_goes_51 f9_133 k3_4 t4_9 (rr3_9 b) rfl).trans ?_
  refine (ze_iload_n 55 zm81 dX9_goes_54 rfl rfl).trans ?_
  refine (ze_iaload (t := v1.toNatClampNeg) 56 zm81 dX9_goes_55 k9_100 n9 h1 rfl rfl).trans ?_
  refine (ze_iload_n 57 zm81 dX9_goes_56 rfl rfl).trans ?_
  exact ze_virtI (as := [.int (i 9 v1.toNatClampNeg), .int v2]) (rest := []) 60 zm81 dX9_goes_57 r9_139 zm15 rfl rfl k23_1 rfl rfl rfl rfl
theorem b81_60 (sc : zScr) (v1 : Int32) (v2 : Int32) (v3 : Int32) (s0 : Int32) (i : Nat → Nat → Int32) (b : Bool) (l : Nat → Nat → Int64) : zev sc (81, 60, [some (.ref 0), some (.int v1), some (.int v2), some (.int v3), none], [.int s0], (197, i, (zRF b), l)) = (zev sc (39, 0, [some (.ref 24), some (.ref 19)], [], (197, i, (zRF b), l))).bind (fun x => zev sc (81, 73, [some (.ref 0), some (.int v1), some (.int v2), some (.int v3), some (.int s0)], [], x.2)) := by
  refine (ze_istore (A := 99) (ls' := [some (.ref 0), some (.int v1), some (.int v2), some (.int v3), some (.int s0)]) 62 zm81 dX9_goes_60 za81 rfl rfl rfl rfl rfl).trans ?_
  refine (ze_aload_n 63 zm81 dX9_goes_62 rfl rfl).trans ?_
  refine (ze_getR 66 zm81 dX9_goes_63 f9_45 k0_9 t9_5 (rr0_5 b) rfl).trans ?_
  refine (ze_aload_n 67 zm81 dX9_goes_66 rfl rfl).trans ?_
  refine (ze_getR 70 zm81 dX9_goes_67 f9_29 k0_9 t9_3 (rr0_3 b) rfl).trans ?_
  exact ze_virtV (as := [.ref 19]) (rest := []) 73 zm81 dX9_goes_70 r9_147 zm39 rfl rfl k24_5 rfl rfl rfl rfl
theorem b81_73 (sc : zScr) (v1 : Int32) (v2 : Int32) (v3 : Int32) (v4 : Int32) (i : Nat → Nat → Int32) (b : Bool) (l : Nat → Nat → Int64) : zev sc (81, 73, [some (.ref 0), some (.int v1), some (.int v2), some (.int v3), some (.int v4)], [], (197, i, (zRF b), l)) = (zev sc (36, 0, [some (.ref 3), some (.int v2), some (.int v3)], [], (197, i, (zRF b), l))).bind (fun x => zev sc (81, 90, [some (.ref 0), some (.int v1), some (.int v2), some (.int v3), some (.int v4)], [x.1, .int v1, .ref 20], x.2)) := by
  refine (ze_aload_n 74 zm81 dX9_goes_73 rfl rfl).trans ?_
  refine (ze_getR 77 zm81 dX9_goes_74 f9_29 k0_9 t9_3 (rr0_3 b) rfl).trans ?_
  refine (ze_getR 80 zm81 dX9_goes_77 f9_136 k19_7 t7_0 (rr19_0 b) rfl).trans ?_
  refine (ze_iload_n 81 zm81 dX9_goes_80 rfl rfl).trans ?_
  refine (ze_aload_n 82 zm81 dX9_goes_81 rfl rfl).trans ?_
  refine (ze_getR 85 zm81 dX9_goes_82 f9_19 k0_9 t9_1 (rr0_1 b) rfl).trans ?_
  refine (ze_iload_n 86 zm81 dX9_goes_85 rfl rfl).trans ?_
  refine (ze_iload_n 87 zm81 dX9_goes_86 rfl rfl).trans ?_
  exact ze_virtI (as := [.int v2, .int v3]) (rest := [.int v1, .ref 20]) 90 zm81 dX9_goes_87 r9_151 zm36 rfl rfl k3_4 rfl rfl rfl rfl
theorem b81_90 (sc : zScr) (v1 : Int32) (v2 : Int32) (v3 : Int32) (v4 : Int32) (s0 : Int32) (s1 : Int32) (i : Nat → Nat → Int32) (b : Bool) (l : Nat → Nat → Int64) (h1 : vp_in s1 6) : zev sc (81, 90, [some (.ref 0), some (.int v1), some (.int v2), some (.int v3), some (.int v4)], [.int s0, .int s1, .ref 20], (197, i, (zRF b), l)) = if v4 ≤ 0 then zev sc (81, 105, [some (.ref 0), some (.int v1), some (.int v2), some (.int v3), some (.int v4)], [], (197, (zU i 20 s1.toNatClampNeg s0), (zRF b), l)) else zev sc (81, 96, [some (.ref 0), some (.int v1), some (.int v2), some (.int v3), some (.int v4)], [], (197, (zU i 20 s1.toNatClampNeg s0), (zRF b), l)) := by
  refine (ze_iastore (t := s1.toNatClampNeg) 91 zm81 dX9_goes_90 k20_100 n20 h1 rfl rfl).trans ?_
  refine (ze_iload 93 zm81 dX9_goes_91 rfl rfl).trans ?_
  exact ze_if_le 105 96 zm81 dX9_goes_93 (by decide) rfl
theorem b81_96 (sc : zScr) (v1 : Int32) (v2 : Int32) (v3 : Int32) (v4 : Int32) (i : Nat → Nat → Int32) (b : Bool) (l : Nat → Nat → Int64) : zev sc (81, 96, [some (.ref 0), some (.int v1), some (.int v2), some (.int v3), some (.int v4)], [], (197, i, (zRF b), l)) = (zev sc (57, 0, [some (.ref 19), some (.int v4)], [], (197, i, (zRF b), l))).bind (fun x => zev sc (81, 105, [some (.ref 0), some (.int v1), some (.int v2), some (.int v3), some (.int v4)], [], x.2)) := by
  refine (ze_aload_n 97 zm81 dX9_goes_96 rfl rfl).trans ?_
  refine (ze_getR 100 zm81 dX9_goes_97 f9_29 k0_9 t9_3 (rr0_3 b) rfl).trans ?_
  refine (ze_iload 102 zm81 dX9_goes_100 rfl rfl).trans ?_
  exact ze_virtV (as := [.int v4]) (rest := []) 105 zm81 dX9_goes_102 r9_154 zm57 rfl rfl k19_7 rfl rfl rfl rfl
theorem b81_105 (sc : zScr) (v1 : Int32) (v2 : Int32) (v3 : Int32) (v4 : Int32) (i : Nat → Nat → Int32) (b : Bool) (l : Nat → Nat → Int64) : zev sc (81, 105, [some (.ref 0), some (.int v1), some (.int v2), some (.int v3), some (.int v4)], [], (197, i, (zRF b), l)) = some (.int v4, (197, i, (zRF b), l)) := by
  refine (ze_iload 107 zm81 dX9_goes_105 rfl rfl).trans ?_
  exact ze_ireturn zm81 dX9_goes_107 rfl
/-! HarpFences.cuts (II)I: method 82 -/
theorem b82_0 (sc : zScr) (v1 : Int32) (v2 : Int32) (i : Nat → Nat → Int32) (b : Bool) (l : Nat → Nat → Int64) : zev sc (82, 0, [some (.ref 0), some (.int v1), some (.int v2)], [], (197, i, (zRF b), l)) = (zev sc (107, 0, [some (.ref 0), some (.int v1)], [], (197, i, (zRF b), l))).bind (fun x => zev sc (82, 5, [some (.ref 0), some (.int v1), some (.int v2)], [x.1], x.2)) := by
  refine (ze_aload_n 1 zm82 dX9_cuts_0 rfl rfl).trans ?_
  refine (ze_iload_n 2 zm82 dX9_cuts_1 rfl rfl).trans ?_
  exact ze_virtI (as := [.int v1]) (rest := []) 5 zm82 dX9_cuts_2 r9_101 zm107 rfl rfl k0_9 rfl rfl rfl rfl
theorem b82_5 (sc : zScr) (v1 : Int32) (v2 : Int32) (s0 : Int32) (i : Nat → Nat → Int32) (b : Bool) (l : Nat → Nat → Int64) : zev sc (82, 5, [some (.ref 0), some (.int v1), some (.int v2)], [.int s0], (197, i, (zRF b), l)) = if s0 = 0 then zev sc (82, 15, [some (.ref 0), some (.int v1), some (.int v2)], [], (197, i, (zRF b), l)) else zev sc (82, 8, [some (.ref 0), some (.int v1), some (.int v2)], [], (197, i, (zRF b), l)) := by
  exact ze_if_eq 15 8 zm82 dX9_cuts_5 (by decide) rfl
theorem b82_8 (sc : zScr) (v1 : Int32) (v2 : Int32) (i : Nat → Nat → Int32) (b : Bool) (l : Nat → Nat → Int64) : zev sc (82, 8, [some (.ref 0), some (.int v1), some (.int v2)], [], (197, i, (zRF b), l)) = (zev sc (111, 0, [some (.int v2)], [], (197, i, (zRF b), l))).bind (fun x => zev sc (82, 12, [some (.ref 0), some (.int v1), some (.int v2)], [x.1], x.2)) := by
  refine (ze_iload_n 9 zm82 dX9_cuts_8 rfl rfl).trans ?_
  exact ze_statI (as := [.int v2]) (rest := []) 12 zm82 dX9_cuts_9 r9_158 zm111 rfl rfl rfl rfl rfl rfl
theorem b82_12 (sc : zScr) (v1 : Int32) (v2 : Int32) (s0 : Int32) (i : Nat → Nat → Int32) (b : Bool) (l : Nat → Nat → Int64) : zev sc (82, 12, [some (.ref 0), some (.int v1), some (.int v2)], [.int s0], (197, i, (zRF b), l)) = if s0 = 0 then zev sc (82, 15, [some (.ref 0), some (.int v1), some (.int v2)], [], (197, i, (zRF b), l)) else zev sc (82, 17, [some (.ref 0), some (.int v1), some (.int v2)], [], (197, i, (zRF b), l)) := by
  exact ze_if_ne 17 15 zm82 dX9_cuts_12 (by decide) rfl
theorem b82_15 (sc : zScr) (v1 : Int32) (v2 : Int32) (i : Nat → Nat → Int32) (b : Bool) (l : Nat → Nat → Int64) : zev sc (82, 15, [some (.ref 0), some (.int v1), some (.int v2)], [], (197, i, (zRF b), l)) = some (.int (-1 : Int32), (197, i, (zRF b), l)) := by
  refine (ze_iconst 16 zm82 dX9_cuts_15 ci_m1 rfl).trans ?_
  exact ze_ireturn zm82 dX9_cuts_16 rfl
theorem b82_17 (sc : zScr) (v1 : Int32) (v2 : Int32) (i : Nat → Nat → Int32) (b : Bool) (l : Nat → Nat → Int64) : zev sc (82, 17, [some (.ref 0), some (.int v1), some (.int v2)], [], (197, i, (zRF b), l)) = if (((i 19 4) >>> (v1 &&& 31)) &&& (1 : Int32)) = v2 then zev sc (82, 32, [some (.ref 0), some (.int v1), some (.int v2)], [], (197, i, (zRF b), l)) else zev sc (82, 35, [some (.ref 0), some (.int v1), some (.int v2)], [], (197, i, (zRF b), l)) := by
  refine (ze_aload_n 18 zm82 dX9_cuts_17 rfl rfl).trans ?_
  refine (ze_getR 21 zm82 dX9_cuts_18 f9_29 k0_9 t9_3 (rr0_3 b) rfl).trans ?_
  refine (ze_getI 24 zm82 dX9_cuts_21 f9_114 k19_7 (Or.inl t7_4) rfl).trans ?_
  refine (ze_iload_n 25 zm82 dX9_cuts_24 rfl rfl).trans ?_
  refine (ze_ishr 26 zm82 dX9_cuts_25 rfl).trans ?_
  refine (ze_iconst 27 zm82 dX9_cuts_26 ci_1 rfl).trans ?_
  refine (ze_iand 28 zm82 dX9_cuts_27 rfl).trans ?_
  refine (ze_iload_n 29 zm82 dX9_cuts_28 rfl rfl).trans ?_
  exact ze_icmp_ne 35 32 zm82 dX9_cuts_29 (by decide) rfl
theorem b82_32 (sc : zScr) (v1 : Int32) (v2 : Int32) (i : Nat → Nat → Int32) (b : Bool) (l : Nat → Nat → Int64) : zev sc (82, 32, [some (.ref 0), some (.int v1), some (.int v2)], [], (197, i, (zRF b), l)) = some (.int (-2 : Int32), (197, i, (zRF b), l)) := by
  refine (ze_bipush 34 zm82 dX9_cuts_32 cb_m2 rfl).trans ?_
  exact ze_ireturn zm82 dX9_cuts_34 rfl
theorem b82_35 (sc : zScr) (v1 : Int32) (v2 : Int32) (i : Nat → Nat → Int32) (b : Bool) (l : Nat → Nat → Int64) : zev sc (82, 35, [some (.ref 0), some (.int v1), some (.int v2)], [], (197, i, (zRF b), l)) = (zev sc (39, 0, [some (.ref 24), some (.ref 19)], [], (197, i, (zRF b), l))).bind (fun x => zev sc (82, 46, [some (.ref 0), some (.int v1), some (.int v2)], [], x.2)) := by
  refine (ze_aload_n 36 zm82 dX9_cuts_35 rfl rfl).trans ?_
  refine (ze_getR 39 zm82 dX9_cuts_36 f9_45 k0_9 t9_5 (rr0_5 b) rfl).trans ?_
  refine (ze_aload_n 40 zm82 dX9_cuts_39 rfl rfl).trans ?_
  refine (ze_getR 43 zm82 dX9_cuts_40 f9_29 k0_9 t9_3 (rr0_3 b) rfl).trans ?_
  exact ze_virtV (as := [.ref 19]) (rest := []) 46 zm82 dX9_cuts_43 r9_147 zm39 rfl rfl k24_5 rfl rfl rfl rfl
theorem b82_46 (sc : zScr) (v1 : Int32) (v2 : Int32) (i : Nat → Nat → Int32) (b : Bool) (l : Nat → Nat → Int64) : zev sc (82, 46, [some (.ref 0), some (.int v1), some (.int v2)], [], (197, i, (zRF b), l)) = (zev sc (184, 0, [some (.int ((zU i 19 4 ((i 19 4) ^^^ ((1 : Int32) <<< (v1 &&& 31)))) 19 4))], [], (197, (zU i 19 4 ((i 19 4) ^^^ ((1 : Int32) <<< (v1 &&& 31)))), (zRF b), l))).bind (fun x => zev sc (82, 71, [some (.ref 0), some (.int v1), some (.int v2)], [x.1], x.2)) := by
  refine (ze_aload_n 47 zm82 dX9_cuts_46 rfl rfl).trans ?_
  refine (ze_getR 50 zm82 dX9_cuts_47 f9_29 k0_9 t9_3 (rr0_3 b) rfl).trans ?_
  refine (ze_dup 51 zm82 dX9_cuts_50 rfl rfl).trans ?_
  refine (ze_getI 54 zm82 dX9_cuts_51 f9_114 k19_7 (Or.inl t7_4) rfl).trans ?_
  refine (ze_iconst 55 zm82 dX9_cuts_54 ci_1 rfl).trans ?_
  refine (ze_iload_n 56 zm82 dX9_cuts_55 rfl rfl).trans ?_
  refine (ze_ishl 57 zm82 dX9_cuts_56 rfl).trans ?_
  refine (ze_ixor 58 zm82 dX9_cuts_57 rfl).trans ?_
  refine (ze_putI 61 zm82 dX9_cuts_58 f9_114 k19_7 (Or.inl fn7_4) t7_4 rfl).trans ?_
  refine (ze_aload_n 62 zm82 dX9_cuts_61 rfl rfl).trans ?_
  refine (ze_getR 65 zm82 dX9_cuts_62 f9_29 k0_9 t9_3 (rr0_3 b) rfl).trans ?_
  refine (ze_getI 68 zm82 dX9_cuts_65 f9_114 k19_7 (Or.inl t7_4) rfl).trans ?_
  exact ze_statI (as := [.int ((zU i 19 4 ((i 19 4) ^^^ ((1 : Int32) <<< (v1 &&& 31)))) 19 4)]) (rest := []) 71 zm82 dX9_cuts_68 r9_161 zm184 rfl rfl rfl rfl rfl rfl
theorem b82_71 (sc : zScr) (v1 : Int32) (v2 : Int32) (s0 : Int32) (i : Nat → Nat → Int32) (b : Bool) (l : Nat → Nat → Int64) : zev sc (82, 71, [some (.ref 0), some (.int v1), some (.int v2)], [.int s0], (197, i, (zRF b), l)) = some (.int s0, (197, i, (zRF b), l)) := by
  exact ze_ireturn zm82 dX9_cuts_71 rfl
/-! HarpFences.tunes (II)I: method 83 -/
theorem b83_0 (sc : zScr) (v1 : Int32) (v2 : Int32) (i : Nat → Nat → Int32) (b : Bool) (l : Nat → Nat → Int64) : zev sc (83, 0, [some (.ref 0), some (.int v1), some (.int v2), none], [], (197, i, (zRF b), l)) = (zev sc (107, 0, [some (.ref 0), some (.int v1)], [], (197, i, (zRF b), l))).bind (fun x => zev sc (83, 5, [some (.ref 0), some (.int v1), some (.int v2), none], [x.1], x.2)) := by
  refine (ze_aload_n 1 zm83 dX9_tunes_0 rfl rfl).trans ?_
  refine (ze_iload_n 2 zm83 dX9_tunes_1 rfl rfl).trans ?_
  exact ze_virtI (as := [.int v1]) (rest := []) 5 zm83 dX9_tunes_2 r9_101 zm107 rfl rfl k0_9 rfl rfl rfl rfl
theorem b83_5 (sc : zScr) (v1 : Int32) (v2 : Int32) (s0 : Int32) (i : Nat → Nat → Int32) (b : Bool) (l : Nat → Nat → Int64) : zev sc (83, 5, [some (.ref 0), some (.int v1), some (.int v2), none], [.int s0], (197, i, (zRF b), l)) = if s0 = 0 then zev sc (83, 19, [some (.ref 0), some (.int v1), some (.int v2), none], [], (197, i, (zRF b), l)) else zev sc (83, 8, [some (.ref 0), some (.int v1), some (.int v2), none], [], (197, i, (zRF b), l)) := by
  exact ze_if_eq 19 8 zm83 dX9_tunes_5 (by decide) rfl
theorem b83_8 (sc : zScr) (v1 : Int32) (v2 : Int32) (i : Nat → Nat → Int32) (b : Bool) (l : Nat → Nat → Int64) : zev sc (83, 8, [some (.ref 0), some (.int v1), some (.int v2), none], [], (197, i, (zRF b), l)) = if v2 < (1 : Int32) then zev sc (83, 19, [some (.ref 0), some (.int v1), some (.int v2), none], [], (197, i, (zRF b), l)) else zev sc (83, 13, [some (.ref 0), some (.int v1), some (.int v2), none], [], (197, i, (zRF b), l)) := by
  refine (ze_iload_n 9 zm83 dX9_tunes_8 rfl rfl).trans ?_
  refine (ze_iconst 10 zm83 dX9_tunes_9 ci_1 rfl).trans ?_
  exact ze_icmp_lt 19 13 zm83 dX9_tunes_10 (by decide) rfl
theorem b83_13 (sc : zScr) (v1 : Int32) (v2 : Int32) (i : Nat → Nat → Int32) (b : Bool) (l : Nat → Nat → Int64) : zev sc (83, 13, [some (.ref 0), some (.int v1), some (.int v2), none], [], (197, i, (zRF b), l)) = if v2 ≤ (40 : Int32) then zev sc (83, 21, [some (.ref 0), some (.int v1), some (.int v2), none], [], (197, i, (zRF b), l)) else zev sc (83, 19, [some (.ref 0), some (.int v1), some (.int v2), none], [], (197, i, (zRF b), l)) := by
  refine (ze_iload_n 14 zm83 dX9_tunes_13 rfl rfl).trans ?_
  refine (ze_bipush 16 zm83 dX9_tunes_14 cb_40 rfl).trans ?_
  exact ze_icmp_le 21 19 zm83 dX9_tunes_16 (by decide) rfl
theorem b83_19 (sc : zScr) (v1 : Int32) (v2 : Int32) (i : Nat → Nat → Int32) (b : Bool) (l : Nat → Nat → Int64) : zev sc (83, 19, [some (.ref 0), some (.int v1), some (.int v2), none], [], (197, i, (zRF b), l)) = some (.int (-1 : Int32), (197, i, (zRF b), l)) := by
  refine (ze_iconst 20 zm83 dX9_tunes_19 ci_m1 rfl).trans ?_
  exact ze_ireturn zm83 dX9_tunes_20 rfl
theorem b83_21 (sc : zScr) (v1 : Int32) (v2 : Int32) (i : Nat → Nat → Int32) (b : Bool) (l : Nat → Nat → Int64) (h1 : vp_in v1 8) : zev sc (83, 21, [some (.ref 0), some (.int v1), some (.int v2), none], [], (197, i, (zRF b), l)) = if (i 21 v1.toNatClampNeg) = 0 then zev sc (83, 40, [some (.ref 0), some (.int v1), some (.int v2), some (.int (i 21 v1.toNatClampNeg))], [], (197, i, (zRF b), l)) else zev sc (83, 35, [some (.ref 0), some (.int v1), some (.int v2), some (.int (i 21 v1.toNatClampNeg))], [], (197, i, (zRF b), l)) := by
  refine (ze_aload_n 22 zm83 dX9_tunes_21 rfl rfl).trans ?_
  refine (ze_getR 25 zm83 dX9_tunes_22 f9_29 k0_9 t9_3 (rr0_3 b) rfl).trans ?_
  refine (ze_getR 28 zm83 dX9_tunes_25 f9_111 k19_7 t7_1 (rr19_1 b) rfl).trans ?_
  refine (ze_iload_n 29 zm83 dX9_tunes_28 rfl rfl).trans ?_
  refine (ze_iaload (t := v1.toNatClampNeg) 30 zm83 dX9_tunes_29 k21_100 n21 h1 rfl rfl).trans ?_
  refine (ze_istore_n (A := 99) (ls' := [some (.ref 0), some (.int v1), some (.int v2), some (.int (i 21 v1.toNatClampNeg))]) 31 zm83 dX9_tunes_30 za83 rfl rfl rfl rfl rfl).trans ?_
  refine (ze_iload_n 32 zm83 dX9_tunes_31 rfl rfl).trans ?_
  exact ze_if_eq 40 35 zm83 dX9_tunes_32 (by decide) rfl
theorem b83_35 (sc : zScr) (v1 : Int32) (v2 : Int32) (v3 : Int32) (i : Nat → Nat → Int32) (b : Bool) (l : Nat → Nat → Int64) : zev sc (83, 35, [some (.ref 0), some (.int v1), some (.int v2), some (.int v3)], [], (197, i, (zRF b), l)) = if v3 = v2 then zev sc (83, 40, [some (.ref 0), some (.int v1), some (.int v2), some (.int v3)], [], (197, i, (zRF b), l)) else zev sc (83, 43, [some (.ref 0), some (.int v1), some (.int v2), some (.int v3)], [], (197, i, (zRF b), l)) := by
  refine (ze_iload_n 36 zm83 dX9_tunes_35 rfl rfl).trans ?_
  refine (ze_iload_n 37 zm83 dX9_tunes_36 rfl rfl).trans ?_
  exact ze_icmp_ne 43 40 zm83 dX9_tunes_37 (by decide) rfl
theorem b83_40 (sc : zScr) (v1 : Int32) (v2 : Int32) (v3 : Int32) (i : Nat → Nat → Int32) (b : Bool) (l : Nat → Nat → Int64) : zev sc (83, 40, [some (.ref 0), some (.int v1), some (.int v2), some (.int v3)], [], (197, i, (zRF b), l)) = some (.int (-2 : Int32), (197, i, (zRF b), l)) := by
  refine (ze_bipush 42 zm83 dX9_tunes_40 cb_m2 rfl).trans ?_
  exact ze_ireturn zm83 dX9_tunes_42 rfl
theorem b83_43 (sc : zScr) (v1 : Int32) (v2 : Int32) (v3 : Int32) (i : Nat → Nat → Int32) (b : Bool) (l : Nat → Nat → Int64) : zev sc (83, 43, [some (.ref 0), some (.int v1), some (.int v2), some (.int v3)], [], (197, i, (zRF b), l)) = (zev sc (39, 0, [some (.ref 24), some (.ref 19)], [], (197, i, (zRF b), l))).bind (fun x => zev sc (83, 54, [some (.ref 0), some (.int v1), some (.int v2), some (.int v3)], [], x.2)) := by
  refine (ze_aload_n 44 zm83 dX9_tunes_43 rfl rfl).trans ?_
  refine (ze_getR 47 zm83 dX9_tunes_44 f9_45 k0_9 t9_5 (rr0_5 b) rfl).trans ?_
  refine (ze_aload_n 48 zm83 dX9_tunes_47 rfl rfl).trans ?_
  refine (ze_getR 51 zm83 dX9_tunes_48 f9_29 k0_9 t9_3 (rr0_3 b) rfl).trans ?_
  exact ze_virtV (as := [.ref 19]) (rest := []) 54 zm83 dX9_tunes_51 r9_147 zm39 rfl rfl k24_5 rfl rfl rfl rfl
theorem b83_54 (sc : zScr) (v1 : Int32) (v2 : Int32) (v3 : Int32) (i : Nat → Nat → Int32) (b : Bool) (l : Nat → Nat → Int64) (h1 : vp_in v1 8) : zev sc (83, 54, [some (.ref 0), some (.int v1), some (.int v2), some (.int v3)], [], (197, i, (zRF b), l)) = some (.int v3, (197, (zU i 21 v1.toNatClampNeg v2), (zRF b), l)) := by
  refine (ze_aload_n 55 zm83 dX9_tunes_54 rfl rfl).trans ?_
  refine (ze_getR 58 zm83 dX9_tunes_55 f9_29 k0_9 t9_3 (rr0_3 b) rfl).trans ?_
  refine (ze_getR 61 zm83 dX9_tunes_58 f9_111 k19_7 t7_1 (rr19_1 b) rfl).trans ?_
  refine (ze_iload_n 62 zm83 dX9_tunes_61 rfl rfl).trans ?_
  refine (ze_iload_n 63 zm83 dX9_tunes_62 rfl rfl).trans ?_
  refine (ze_iastore (t := v1.toNatClampNeg) 64 zm83 dX9_tunes_63 k21_100 n21 h1 rfl rfl).trans ?_
  refine (ze_iload_n 65 zm83 dX9_tunes_64 rfl rfl).trans ?_
  exact ze_ireturn zm83 dX9_tunes_65 rfl
/-! HarpFences.lays (I)I: method 84 -/
theorem b84_0 (sc : zScr) (v1 : Int32) (i : Nat → Nat → Int32) (b : Bool) (l : Nat → Nat → Int64) : zev sc (84, 0, [some (.ref 0), some (.int v1), none], [], (197, i, (zRF b), l)) = (zev sc (111, 0, [some (.int v1)], [], (197, i, (zRF b), l))).bind (fun x => zev sc (84, 4, [some (.ref 0), some (.int v1), none], [x.1], x.2)) := by
  refine (ze_iload_n 1 zm84 dX9_lays_0 rfl rfl).trans ?_
  exact ze_statI (as := [.int v1]) (rest := []) 4 zm84 dX9_lays_1 r9_158 zm111 rfl rfl rfl rfl rfl rfl
theorem b84_4 (sc : zScr) (v1 : Int32) (s0 : Int32) (i : Nat → Nat → Int32) (b : Bool) (l : Nat → Nat → Int64) : zev sc (84, 4, [some (.ref 0), some (.int v1), none], [.int s0], (197, i, (zRF b), l)) = if s0 = 0 then zev sc (84, 7, [some (.ref 0), some (.int v1), none], [], (197, i, (zRF b), l)) else zev sc (84, 9, [some (.ref 0), some (.int v1), none], [], (197, i, (zRF b), l)) := by
  exact ze_if_ne 9 7 zm84 dX9_lays_4 (by decide) rfl
theorem b84_7 (sc : zScr) (v1 : Int32) (i : Nat → Nat → Int32) (b : Bool) (l : Nat → Nat → Int64) : zev sc (84, 7, [some (.ref 0), some (.int v1), none], [], (197, i, (zRF b), l)) = some (.int (-1 : Int32), (197, i, (zRF b), l)) := by
  refine (ze_iconst 8 zm84 dX9_lays_7 ci_m1 rfl).trans ?_
  exact ze_ireturn zm84 dX9_lays_8 rfl
theorem b84_9 (sc : zScr) (v1 : Int32) (i : Nat → Nat → Int32) (b : Bool) (l : Nat → Nat → Int64) : zev sc (84, 9, [some (.ref 0), some (.int v1), none], [], (197, i, (zRF b), l)) = (zev sc (39, 0, [some (.ref 24), some (.ref 19)], [], (197, i, (zRF b), l))).bind (fun x => zev sc (84, 20, [some (.ref 0), some (.int v1), none], [], x.2)) := by
  refine (ze_aload_n 10 zm84 dX9_lays_9 rfl rfl).trans ?_
  refine (ze_getR 13 zm84 dX9_lays_10 f9_45 k0_9 t9_5 (rr0_5 b) rfl).trans ?_
  refine (ze_aload_n 14 zm84 dX9_lays_13 rfl rfl).trans ?_
  refine (ze_getR 17 zm84 dX9_lays_14 f9_29 k0_9 t9_3 (rr0_3 b) rfl).trans ?_
  exact ze_virtV (as := [.ref 19]) (rest := []) 20 zm84 dX9_lays_17 r9_147 zm39 rfl rfl k24_5 rfl rfl rfl rfl
theorem b84_20 (sc : zScr) (v1 : Int32) (i : Nat → Nat → Int32) (b : Bool) (l : Nat → Nat → Int64) : zev sc (84, 20, [some (.ref 0), some (.int v1), none], [], (197, i, (zRF b), l)) = if v1 = (1 : Int32) then zev sc (84, 37, [some (.ref 0), some (.int v1), some (.int (i 19 5))], [.ref 19], (197, i, (zRF b), l)) else zev sc (84, 51, [some (.ref 0), some (.int v1), some (.int (i 19 5))], [.ref 19], (197, i, (zRF b), l)) := by
  refine (ze_aload_n 21 zm84 dX9_lays_20 rfl rfl).trans ?_
  refine (ze_getR 24 zm84 dX9_lays_21 f9_29 k0_9 t9_3 (rr0_3 b) rfl).trans ?_
  refine (ze_getI 27 zm84 dX9_lays_24 f9_117 k19_7 (Or.inl t7_5) rfl).trans ?_
  refine (ze_istore_n (A := 99) (ls' := [some (.ref 0), some (.int v1), some (.int (i 19 5))]) 28 zm84 dX9_lays_27 za84 rfl rfl rfl rfl rfl).trans ?_
  refine (ze_aload_n 29 zm84 dX9_lays_28 rfl rfl).trans ?_
  refine (ze_getR 32 zm84 dX9_lays_29 f9_29 k0_9 t9_3 (rr0_3 b) rfl).trans ?_
  refine (ze_iload_n 33 zm84 dX9_lays_32 rfl rfl).trans ?_
  refine (ze_iconst 34 zm84 dX9_lays_33 ci_1 rfl).trans ?_
  exact ze_icmp_ne 51 37 zm84 dX9_lays_34 (by decide) rfl
theorem b84_37 (sc : zScr) (v1 : Int32) (v2 : Int32) (i : Nat → Nat → Int32) (b : Bool) (l : Nat → Nat → Int64) : zev sc (84, 37, [some (.ref 0), some (.int v1), some (.int v2)], [.ref 19], (197, i, (zRF b), l)) = zev sc (84, 52, [some (.ref 0), some (.int v1), some (.int v2)], [.int (((1 : Int32) <<< ((i 3 1) &&& 31)) - (1 : Int32)), .ref 19], (197, i, (zRF b), l)) := by
  refine (ze_iconst 38 zm84 dX9_lays_37 ci_1 rfl).trans ?_
  refine (ze_aload_n 39 zm84 dX9_lays_38 rfl rfl).trans ?_
  refine (ze_getR 42 zm84 dX9_lays_39 f9_19 k0_9 t9_1 (rr0_1 b) rfl).trans ?_
  refine (ze_getI 45 zm84 dX9_lays_42 f9_167 k3_4 (Or.inl t4_1) rfl).trans ?_
  refine (ze_ishl 46 zm84 dX9_lays_45 rfl).trans ?_
  refine (ze_iconst 47 zm84 dX9_lays_46 ci_1 rfl).trans ?_
  refine (ze_isub 48 zm84 dX9_lays_47 rfl).trans ?_
  exact ze_goto 52 zm84 dX9_lays_48 (by decide)
theorem b84_51 (sc : zScr) (v1 : Int32) (v2 : Int32) (i : Nat → Nat → Int32) (b : Bool) (l : Nat → Nat → Int64) : zev sc (84, 51, [some (.ref 0), some (.int v1), some (.int v2)], [.ref 19], (197, i, (zRF b), l)) = zev sc (84, 52, [some (.ref 0), some (.int v1), some (.int v2)], [.int (0 : Int32), .ref 19], (197, i, (zRF b), l)) := by
  refine (ze_iconst 52 zm84 dX9_lays_51 ci_0 rfl).trans ?_
  rfl
theorem b84_52 (sc : zScr) (v1 : Int32) (v2 : Int32) (s0 : Int32) (i : Nat → Nat → Int32) (b : Bool) (l : Nat → Nat → Int64) : zev sc (84, 52, [some (.ref 0), some (.int v1), some (.int v2)], [.int s0, .ref 19], (197, i, (zRF b), l)) = (zev sc (184, 0, [some (.int (v2 ^^^ ((zU i 19 5 s0) 19 5)))], [], (197, (zU i 19 5 s0), (zRF b), l))).bind (fun x => zev sc (84, 67, [some (.ref 0), some (.int v1), some (.int v2)], [x.1], x.2)) := by
  refine (ze_putI 55 zm84 dX9_lays_52 f9_117 k19_7 (Or.inl fn7_5) t7_5 rfl).trans ?_
  refine (ze_iload_n 56 zm84 dX9_lays_55 rfl rfl).trans ?_
  refine (ze_aload_n 57 zm84 dX9_lays_56 rfl rfl).trans ?_
  refine (ze_getR 60 zm84 dX9_lays_57 f9_29 k0_9 t9_3 (rr0_3 b) rfl).trans ?_
  refine (ze_getI 63 zm84 dX9_lays_60 f9_117 k19_7 (Or.inl t7_5) rfl).trans ?_
  refine (ze_ixor 64 zm84 dX9_lays_63 rfl).trans ?_
  exact ze_statI (as := [.int (v2 ^^^ ((zU i 19 5 s0) 19 5))]) (rest := []) 67 zm84 dX9_lays_64 r9_161 zm184 rfl rfl rfl rfl rfl rfl
theorem b84_67 (sc : zScr) (v1 : Int32) (v2 : Int32) (s0 : Int32) (i : Nat → Nat → Int32) (b : Bool) (l : Nat → Nat → Int64) : zev sc (84, 67, [some (.ref 0), some (.int v1), some (.int v2)], [.int s0], (197, i, (zRF b), l)) = some (.int s0, (197, i, (zRF b), l)) := by
  exact ze_ireturn zm84 dX9_lays_67 rfl
/-! HarpFences.rains (I)I: method 85 -/
theorem b85_0 (sc : zScr) (v1 : Int32) (i : Nat → Nat → Int32) (b : Bool) (l : Nat → Nat → Int64) : zev sc (85, 0, [some (.ref 0), some (.int v1), none], [], (197, i, (zRF b), l)) = if v1 < (-9 : Int32) then zev sc (85, 16, [some (.ref 0), some (.int v1), none], [], (197, i, (zRF b), l)) else zev sc (85, 6, [some (.ref 0), some (.int v1), none], [], (197, i, (zRF b), l)) := by
  refine (ze_iload_n 1 zm85 dX9_rains_0 rfl rfl).trans ?_
  refine (ze_bipush 3 zm85 dX9_rains_1 cb_m9 rfl).trans ?_
  exact ze_icmp_lt 16 6 zm85 dX9_rains_3 (by decide) rfl
theorem b85_6 (sc : zScr) (v1 : Int32) (i : Nat → Nat → Int32) (b : Bool) (l : Nat → Nat → Int64) : zev sc (85, 6, [some (.ref 0), some (.int v1), none], [], (197, i, (zRF b), l)) = if (9 : Int32) < v1 then zev sc (85, 16, [some (.ref 0), some (.int v1), none], [], (197, i, (zRF b), l)) else zev sc (85, 12, [some (.ref 0), some (.int v1), none], [], (197, i, (zRF b), l)) := by
  refine (ze_iload_n 7 zm85 dX9_rains_6 rfl rfl).trans ?_
  refine (ze_bipush 9 zm85 dX9_rains_7 cb_9 rfl).trans ?_
  exact ze_icmp_gt 16 12 zm85 dX9_rains_9 (by decide) rfl
theorem b85_12 (sc : zScr) (v1 : Int32) (i : Nat → Nat → Int32) (b : Bool) (l : Nat → Nat → Int64) : zev sc (85, 12, [some (.ref 0), some (.int v1), none], [], (197, i, (zRF b), l)) = if v1 = 0 then zev sc (85, 16, [some (.ref 0), some (.int v1), none], [], (197, i, (zRF b), l)) else zev sc (85, 18, [some (.ref 0), some (.int v1), none], [], (197, i, (zRF b), l)) := by
  refine (ze_iload_n 13 zm85 dX9_rains_12 rfl rfl).trans ?_
  exact ze_if_ne 18 16 zm85 dX9_rains_13 (by decide) rfl
theorem b85_16 (sc : zScr) (v1 : Int32) (i : Nat → Nat → Int32) (b : Bool) (l : Nat → Nat → Int64) : zev sc (85, 16, [some (.ref 0), some (.int v1), none], [], (197, i, (zRF b), l)) = some (.int (-1 : Int32), (197, i, (zRF b), l)) := by
  refine (ze_iconst 17 zm85 dX9_rains_16 ci_m1 rfl).trans ?_
  exact ze_ireturn zm85 dX9_rains_17 rfl
theorem b85_18 (sc : zScr) (v1 : Int32) (i : Nat → Nat → Int32) (b : Bool) (l : Nat → Nat → Int64) : zev sc (85, 18, [some (.ref 0), some (.int v1), none], [], (197, i, (zRF b), l)) = if ((i 19 6) + v1) < 0 then zev sc (85, 38, [some (.ref 0), some (.int v1), some (.int ((i 19 6) + v1))], [], (197, i, (zRF b), l)) else zev sc (85, 32, [some (.ref 0), some (.int v1), some (.int ((i 19 6) + v1))], [], (197, i, (zRF b), l)) := by
  refine (ze_aload_n 19 zm85 dX9_rains_18 rfl rfl).trans ?_
  refine (ze_getR 22 zm85 dX9_rains_19 f9_29 k0_9 t9_3 (rr0_3 b) rfl).trans ?_
  refine (ze_getI 25 zm85 dX9_rains_22 f9_170 k19_7 (Or.inl t7_6) rfl).trans ?_
  refine (ze_iload_n 26 zm85 dX9_rains_25 rfl rfl).trans ?_
  refine (ze_iadd 27 zm85 dX9_rains_26 rfl).trans ?_
  refine (ze_istore_n (A := 99) (ls' := [some (.ref 0), some (.int v1), some (.int ((i 19 6) + v1))]) 28 zm85 dX9_rains_27 za85 rfl rfl rfl rfl rfl).trans ?_
  refine (ze_iload_n 29 zm85 dX9_rains_28 rfl rfl).trans ?_
  exact ze_if_lt 38 32 zm85 dX9_rains_29 (by decide) rfl
theorem b85_32 (sc : zScr) (v1 : Int32) (v2 : Int32) (i : Nat → Nat → Int32) (b : Bool) (l : Nat → Nat → Int64) : zev sc (85, 32, [some (.ref 0), some (.int v1), some (.int v2)], [], (197, i, (zRF b), l)) = if v2 ≤ (9 : Int32) then zev sc (85, 41, [some (.ref 0), some (.int v1), some (.int v2)], [], (197, i, (zRF b), l)) else zev sc (85, 38, [some (.ref 0), some (.int v1), some (.int v2)], [], (197, i, (zRF b), l)) := by
  refine (ze_iload_n 33 zm85 dX9_rains_32 rfl rfl).trans ?_
  refine (ze_bipush 35 zm85 dX9_rains_33 cb_9 rfl).trans ?_
  exact ze_icmp_le 41 38 zm85 dX9_rains_35 (by decide) rfl
theorem b85_38 (sc : zScr) (v1 : Int32) (v2 : Int32) (i : Nat → Nat → Int32) (b : Bool) (l : Nat → Nat → Int64) : zev sc (85, 38, [some (.ref 0), some (.int v1), some (.int v2)], [], (197, i, (zRF b), l)) = some (.int (-2 : Int32), (197, i, (zRF b), l)) := by
  refine (ze_bipush 40 zm85 dX9_rains_38 cb_m2 rfl).trans ?_
  exact ze_ireturn zm85 dX9_rains_40 rfl
theorem b85_41 (sc : zScr) (v1 : Int32) (v2 : Int32) (i : Nat → Nat → Int32) (b : Bool) (l : Nat → Nat → Int64) : zev sc (85, 41, [some (.ref 0), some (.int v1), some (.int v2)], [], (197, i, (zRF b), l)) = (zev sc (39, 0, [some (.ref 24), some (.ref 19)], [], (197, i, (zRF b), l))).bind (fun x => zev sc (85, 52, [some (.ref 0), some (.int v1), some (.int v2)], [], x.2)) := by
  refine (ze_aload_n 42 zm85 dX9_rains_41 rfl rfl).trans ?_
  refine (ze_getR 45 zm85 dX9_rains_42 f9_45 k0_9 t9_5 (rr0_5 b) rfl).trans ?_
  refine (ze_aload_n 46 zm85 dX9_rains_45 rfl rfl).trans ?_
  refine (ze_getR 49 zm85 dX9_rains_46 f9_29 k0_9 t9_3 (rr0_3 b) rfl).trans ?_
  exact ze_virtV (as := [.ref 19]) (rest := []) 52 zm85 dX9_rains_49 r9_147 zm39 rfl rfl k24_5 rfl rfl rfl rfl
theorem b85_52 (sc : zScr) (v1 : Int32) (v2 : Int32) (i : Nat → Nat → Int32) (b : Bool) (l : Nat → Nat → Int64) : zev sc (85, 52, [some (.ref 0), some (.int v1), some (.int v2)], [], (197, i, (zRF b), l)) = some (.int v2, (197, (zU i 19 6 v2), (zRF b), l)) := by
  refine (ze_aload_n 53 zm85 dX9_rains_52 rfl rfl).trans ?_
  refine (ze_getR 56 zm85 dX9_rains_53 f9_29 k0_9 t9_3 (rr0_3 b) rfl).trans ?_
  refine (ze_iload_n 57 zm85 dX9_rains_56 rfl rfl).trans ?_
  refine (ze_putI 60 zm85 dX9_rains_57 f9_170 k19_7 (Or.inl fn7_6) t7_6 rfl).trans ?_
  refine (ze_iload_n 61 zm85 dX9_rains_60 rfl rfl).trans ?_
  exact ze_ireturn zm85 dX9_rains_61 rfl
/-! HarpFences.undo ()I: method 86 -/
theorem b86_0 (sc : zScr) (i : Nat → Nat → Int32) (b : Bool) (l : Nat → Nat → Int64) : zev sc (86, 0, [some (.ref 0)], [], (197, i, (zRF b), l)) = if (i 24 2) = 0 then zev sc (86, 10, [some (.ref 0)], [], (197, i, (zRF b), l)) else zev sc (86, 13, [some (.ref 0)], [], (197, i, (zRF b), l)) := by
  refine (ze_aload_n 1 zm86 dX9_undo_0 rfl rfl).trans ?_
  refine (ze_getR 4 zm86 dX9_undo_1 f9_45 k0_9 t9_5 (rr0_5 b) rfl).trans ?_
  refine (ze_getI 7 zm86 dX9_undo_4 f9_173 k24_5 (Or.inl t5_2) rfl).trans ?_
  exact ze_if_ne 13 10 zm86 dX9_undo_7 (by decide) rfl
theorem b86_10 (sc : zScr) (i : Nat → Nat → Int32) (b : Bool) (l : Nat → Nat → Int64) : zev sc (86, 10, [some (.ref 0)], [], (197, i, (zRF b), l)) = some (.int (-2 : Int32), (197, i, (zRF b), l)) := by
  refine (ze_bipush 12 zm86 dX9_undo_10 cb_m2 rfl).trans ?_
  exact ze_ireturn zm86 dX9_undo_12 rfl
theorem b86_13 (sc : zScr) (i : Nat → Nat → Int32) (b : Bool) (l : Nat → Nat → Int64) : zev sc (86, 13, [some (.ref 0)], [], (197, i, (zRF b), l)) = (zev sc (40, 0, [some (.ref 24), some (.ref 19)], [], (197, i, (zRF b), l))).bind (fun x => zev sc (86, 24, [some (.ref 0)], [], x.2)) := by
  refine (ze_aload_n 14 zm86 dX9_undo_13 rfl rfl).trans ?_
  refine (ze_getR 17 zm86 dX9_undo_14 f9_45 k0_9 t9_5 (rr0_5 b) rfl).trans ?_
  refine (ze_aload_n 18 zm86 dX9_undo_17 rfl rfl).trans ?_
  refine (ze_getR 21 zm86 dX9_undo_18 f9_29 k0_9 t9_3 (rr0_3 b) rfl).trans ?_
  exact ze_virtV (as := [.ref 19]) (rest := []) 24 zm86 dX9_undo_21 r9_176 zm40 rfl rfl k24_5 rfl rfl rfl rfl
theorem b86_24 (sc : zScr) (i : Nat → Nat → Int32) (b : Bool) (l : Nat → Nat → Int64) : zev sc (86, 24, [some (.ref 0)], [], (197, i, (zRF b), l)) = some (.int (i 24 2), (197, i, (zRF b), l)) := by
  refine (ze_aload_n 25 zm86 dX9_undo_24 rfl rfl).trans ?_
  refine (ze_getR 28 zm86 dX9_undo_25 f9_45 k0_9 t9_5 (rr0_5 b) rfl).trans ?_
  refine (ze_getI 31 zm86 dX9_undo_28 f9_173 k24_5 (Or.inl t5_2) rfl).trans ?_
  exact ze_ireturn zm86 dX9_undo_31 rfl
/-! HarpFences.now (I)I: method 87 -/
theorem b87_0 (sc : zScr) (v1 : Int32) (i : Nat → Nat → Int32) (b : Bool) (l : Nat → Nat → Int64) : zev sc (87, 0, [some (.ref 0), some (.int v1)], [], (197, i, (zRF b), l)) = zev sc (87, zcs v1 100 [((0 : Int32), 44), ((1 : Int32), 52), ((2 : Int32), 60), ((3 : Int32), 68), ((4 : Int32), 76), ((5 : Int32), 84), ((6 : Int32), 92)], [some (.ref 0), some (.int v1)], [], (197, i, (zRF b), l)) := by
  refine (ze_iload_n 1 zm87 dX9_now_0 rfl rfl).trans ?_
  exact ze_table zm87 dX9_now_1 (sw_87_1 _)
theorem b87_44 (sc : zScr) (v1 : Int32) (i : Nat → Nat → Int32) (b : Bool) (l : Nat → Nat → Int64) : zev sc (87, 44, [some (.ref 0), some (.int v1)], [], (197, i, (zRF b), l)) = some (.int (i 19 6), (197, i, (zRF b), l)) := by
  refine (ze_aload_n 45 zm87 dX9_now_44 rfl rfl).trans ?_
  refine (ze_getR 48 zm87 dX9_now_45 f9_29 k0_9 t9_3 (rr0_3 b) rfl).trans ?_
  refine (ze_getI 51 zm87 dX9_now_48 f9_170 k19_7 (Or.inl t7_6) rfl).trans ?_
  exact ze_ireturn zm87 dX9_now_51 rfl
theorem b87_52 (sc : zScr) (v1 : Int32) (i : Nat → Nat → Int32) (b : Bool) (l : Nat → Nat → Int64) : zev sc (87, 52, [some (.ref 0), some (.int v1)], [], (197, i, (zRF b), l)) = some (.int (i 19 4), (197, i, (zRF b), l)) := by
  refine (ze_aload_n 53 zm87 dX9_now_52 rfl rfl).trans ?_
  refine (ze_getR 56 zm87 dX9_now_53 f9_29 k0_9 t9_3 (rr0_3 b) rfl).trans ?_
  refine (ze_getI 59 zm87 dX9_now_56 f9_114 k19_7 (Or.inl t7_4) rfl).trans ?_
  exact ze_ireturn zm87 dX9_now_59 rfl
theorem b87_60 (sc : zScr) (v1 : Int32) (i : Nat → Nat → Int32) (b : Bool) (l : Nat → Nat → Int64) : zev sc (87, 60, [some (.ref 0), some (.int v1)], [], (197, i, (zRF b), l)) = some (.int (i 19 5), (197, i, (zRF b), l)) := by
  refine (ze_aload_n 61 zm87 dX9_now_60 rfl rfl).trans ?_
  refine (ze_getR 64 zm87 dX9_now_61 f9_29 k0_9 t9_3 (rr0_3 b) rfl).trans ?_
  refine (ze_getI 67 zm87 dX9_now_64 f9_117 k19_7 (Or.inl t7_5) rfl).trans ?_
  exact ze_ireturn zm87 dX9_now_67 rfl
theorem b87_68 (sc : zScr) (v1 : Int32) (i : Nat → Nat → Int32) (b : Bool) (l : Nat → Nat → Int64) : zev sc (87, 68, [some (.ref 0), some (.int v1)], [], (197, i, (zRF b), l)) = some (.int (i 19 3), (197, i, (zRF b), l)) := by
  refine (ze_aload_n 69 zm87 dX9_now_68 rfl rfl).trans ?_
  refine (ze_getR 72 zm87 dX9_now_69 f9_29 k0_9 t9_3 (rr0_3 b) rfl).trans ?_
  refine (ze_getI 75 zm87 dX9_now_72 f9_179 k19_7 (Or.inl t7_3) rfl).trans ?_
  exact ze_ireturn zm87 dX9_now_75 rfl
theorem b87_76 (sc : zScr) (v1 : Int32) (i : Nat → Nat → Int32) (b : Bool) (l : Nat → Nat → Int64) : zev sc (87, 76, [some (.ref 0), some (.int v1)], [], (197, i, (zRF b), l)) = (zev sc (1, 0, [some (.ref 75), none, none], [], (197, i, (zRF b), l))).bind (fun x => zev sc (87, 83, [some (.ref 0), some (.int v1)], [x.1], x.2)) := by
  refine (ze_aload_n 77 zm87 dX9_now_76 rfl rfl).trans ?_
  refine (ze_getR 80 zm87 dX9_now_77 f9_74 k0_9 t9_9 (rr0_9 b) rfl).trans ?_
  exact ze_virtI (as := []) (rest := []) 83 zm87 dX9_now_80 r9_182 zm1 rfl rfl k75_0 rfl rfl rfl rfl
theorem b87_83 (sc : zScr) (v1 : Int32) (s0 : Int32) (i : Nat → Nat → Int32) (b : Bool) (l : Nat → Nat → Int64) : zev sc (87, 83, [some (.ref 0), some (.int v1)], [.int s0], (197, i, (zRF b), l)) = some (.int s0, (197, i, (zRF b), l)) := by
  exact ze_ireturn zm87 dX9_now_83 rfl
theorem b87_84 (sc : zScr) (v1 : Int32) (i : Nat → Nat → Int32) (b : Bool) (l : Nat → Nat → Int64) : zev sc (87, 84, [some (.ref 0), some (.int v1)], [], (197, i, (zRF b), l)) = (zev sc (2, 0, [some (.ref 75)], [], (197, i, (zRF b), l))).bind (fun x => zev sc (87, 91, [some (.ref 0), some (.int v1)], [x.1], x.2)) := by
  refine (ze_aload_n 85 zm87 dX9_now_84 rfl rfl).trans ?_
  refine (ze_getR 88 zm87 dX9_now_85 f9_74 k0_9 t9_9 (rr0_9 b) rfl).trans ?_
  exact ze_virtI (as := []) (rest := []) 91 zm87 dX9_now_88 r9_186 zm2 rfl rfl k75_0 rfl rfl rfl rfl
theorem b87_91 (sc : zScr) (v1 : Int32) (s0 : Int32) (i : Nat → Nat → Int32) (b : Bool) (l : Nat → Nat → Int64) : zev sc (87, 91, [some (.ref 0), some (.int v1)], [.int s0], (197, i, (zRF b), l)) = some (.int s0, (197, i, (zRF b), l)) := by
  exact ze_ireturn zm87 dX9_now_91 rfl
theorem b87_92 (sc : zScr) (v1 : Int32) (i : Nat → Nat → Int32) (b : Bool) (l : Nat → Nat → Int64) : zev sc (87, 92, [some (.ref 0), some (.int v1)], [], (197, i, (zRF b), l)) = (zev sc (3, 0, [some (.ref 75), none], [], (197, i, (zRF b), l))).bind (fun x => zev sc (87, 99, [some (.ref 0), some (.int v1)], [x.1], x.2)) := by
  refine (ze_aload_n 93 zm87 dX9_now_92 rfl rfl).trans ?_
  refine (ze_getR 96 zm87 dX9_now_93 f9_74 k0_9 t9_9 (rr0_9 b) rfl).trans ?_
  exact ze_virtI (as := []) (rest := []) 99 zm87 dX9_now_96 r9_189 zm3 rfl rfl k75_0 rfl rfl rfl rfl
theorem b87_99 (sc : zScr) (v1 : Int32) (s0 : Int32) (i : Nat → Nat → Int32) (b : Bool) (l : Nat → Nat → Int64) : zev sc (87, 99, [some (.ref 0), some (.int v1)], [.int s0], (197, i, (zRF b), l)) = some (.int s0, (197, i, (zRF b), l)) := by
  exact ze_ireturn zm87 dX9_now_99 rfl
theorem b87_100 (sc : zScr) (v1 : Int32) (i : Nat → Nat → Int32) (b : Bool) (l : Nat → Nat → Int64) : zev sc (87, 100, [some (.ref 0), some (.int v1)], [], (197, i, (zRF b), l)) = some (.int (-1 : Int32), (197, i, (zRF b), l)) := by
  refine (ze_iconst 101 zm87 dX9_now_100 ci_m1 rfl).trans ?_
  exact ze_ireturn zm87 dX9_now_101 rfl
/-! HarpFences.song (I)I: method 88 -/
theorem b88_0 (sc : zScr) (v1 : Int32) (i : Nat → Nat → Int32) (b : Bool) (l : Nat → Nat → Int64) : zev sc (88, 0, [some (.ref 0), some (.int v1)], [], (197, i, (zRF b), l)) = if v1 < 0 then zev sc (88, 10, [some (.ref 0), some (.int v1)], [], (197, i, (zRF b), l)) else zev sc (88, 4, [some (.ref 0), some (.int v1)], [], (197, i, (zRF b), l)) := by
  refine (ze_iload_n 1 zm88 dX9_song_0 rfl rfl).trans ?_
  exact ze_if_lt 10 4 zm88 dX9_song_1 (by decide) rfl
theorem b88_4 (sc : zScr) (v1 : Int32) (i : Nat → Nat → Int32) (b : Bool) (l : Nat → Nat → Int64) : zev sc (88, 4, [some (.ref 0), some (.int v1)], [], (197, i, (zRF b), l)) = if v1 < (12 : Int32) then zev sc (88, 12, [some (.ref 0), some (.int v1)], [], (197, i, (zRF b), l)) else zev sc (88, 10, [some (.ref 0), some (.int v1)], [], (197, i, (zRF b), l)) := by
  refine (ze_iload_n 5 zm88 dX9_song_4 rfl rfl).trans ?_
  refine (ze_bipush 7 zm88 dX9_song_5 cb_12 rfl).trans ?_
  exact ze_icmp_lt 12 10 zm88 dX9_song_7 (by decide) rfl
theorem b88_10 (sc : zScr) (v1 : Int32) (i : Nat → Nat → Int32) (b : Bool) (l : Nat → Nat → Int64) : zev sc (88, 10, [some (.ref 0), some (.int v1)], [], (197, i, (zRF b), l)) = some (.int (-1 : Int32), (197, i, (zRF b), l)) := by
  refine (ze_iconst 11 zm88 dX9_song_10 ci_m1 rfl).trans ?_
  exact ze_ireturn zm88 dX9_song_11 rfl
theorem b88_12 (sc : zScr) (v1 : Int32) (i : Nat → Nat → Int32) (b : Bool) (l : Nat → Nat → Int64) : zev sc (88, 12, [some (.ref 0), some (.int v1)], [], (197, i, (zRF b), l)) = if (i 19 3) ≤ v1 then zev sc (88, 35, [some (.ref 0), some (.int v1)], [], (197, i, (zRF b), l)) else zev sc (88, 23, [some (.ref 0), some (.int v1)], [], (197, i, (zRF b), l)) := by
  refine (ze_iload_n 13 zm88 dX9_song_12 rfl rfl).trans ?_
  refine (ze_aload_n 14 zm88 dX9_song_13 rfl rfl).trans ?_
  refine (ze_getR 17 zm88 dX9_song_14 f9_29 k0_9 t9_3 (rr0_3 b) rfl).trans ?_
  refine (ze_getI 20 zm88 dX9_song_17 f9_179 k19_7 (Or.inl t7_3) rfl).trans ?_
  exact ze_icmp_ge 35 23 zm88 dX9_song_20 (by decide) rfl
theorem b88_23 (sc : zScr) (v1 : Int32) (i : Nat → Nat → Int32) (b : Bool) (l : Nat → Nat → Int64) (h1 : vp_in v1 12) : zev sc (88, 23, [some (.ref 0), some (.int v1)], [], (197, i, (zRF b), l)) = zev sc (88, 37, [some (.ref 0), some (.int v1)], [.int (i 22 v1.toNatClampNeg)], (197, i, (zRF b), l)) := by
  refine (ze_aload_n 24 zm88 dX9_song_23 rfl rfl).trans ?_
  refine (ze_getR 27 zm88 dX9_song_24 f9_29 k0_9 t9_3 (rr0_3 b) rfl).trans ?_
  refine (ze_getR 30 zm88 dX9_song_27 f9_192 k19_7 t7_2 (rr19_2 b) rfl).trans ?_
  refine (ze_iload_n 31 zm88 dX9_song_30 rfl rfl).trans ?_
  refine (ze_iaload (t := v1.toNatClampNeg) 32 zm88 dX9_song_31 k22_100 n22 h1 rfl rfl).trans ?_
  exact ze_goto 37 zm88 dX9_song_32 (by decide)
theorem b88_35 (sc : zScr) (v1 : Int32) (i : Nat → Nat → Int32) (b : Bool) (l : Nat → Nat → Int64) : zev sc (88, 35, [some (.ref 0), some (.int v1)], [], (197, i, (zRF b), l)) = zev sc (88, 37, [some (.ref 0), some (.int v1)], [.int (-9 : Int32)], (197, i, (zRF b), l)) := by
  refine (ze_bipush 37 zm88 dX9_song_35 cb_m9 rfl).trans ?_
  rfl
theorem b88_37 (sc : zScr) (v1 : Int32) (s0 : Int32) (i : Nat → Nat → Int32) (b : Bool) (l : Nat → Nat → Int64) : zev sc (88, 37, [some (.ref 0), some (.int v1)], [.int s0], (197, i, (zRF b), l)) = some (.int s0, (197, i, (zRF b), l)) := by
  exact ze_ireturn zm88 dX9_song_37 rfl
/-! HarpFences.who (I)I: method 89 -/
theorem b89_0 (sc : zScr) (v1 : Int32) (i : Nat → Nat → Int32) (b : Bool) (l : Nat → Nat → Int64) : zev sc (89, 0, [some (.ref 0), some (.int v1)], [], (197, i, (zRF b), l)) = if v1 < 0 then zev sc (89, 10, [some (.ref 0), some (.int v1)], [], (197, i, (zRF b), l)) else zev sc (89, 4, [some (.ref 0), some (.int v1)], [], (197, i, (zRF b), l)) := by
  refine (ze_iload_n 1 zm89 dX9_who_0 rfl rfl).trans ?_
  exact ze_if_lt 10 4 zm89 dX9_who_1 (by decide) rfl
theorem b89_4 (sc : zScr) (v1 : Int32) (i : Nat → Nat → Int32) (b : Bool) (l : Nat → Nat → Int64) : zev sc (89, 4, [some (.ref 0), some (.int v1)], [], (197, i, (zRF b), l)) = if v1 ≤ (43 : Int32) then zev sc (89, 14, [some (.ref 0), some (.int v1)], [], (197, i, (zRF b), l)) else zev sc (89, 10, [some (.ref 0), some (.int v1)], [], (197, i, (zRF b), l)) := by
  refine (ze_iload_n 5 zm89 dX9_who_4 rfl rfl).trans ?_
  refine (ze_bipush 7 zm89 dX9_who_5 cb_43 rfl).trans ?_
  exact ze_icmp_le 14 10 zm89 dX9_who_7 (by decide) rfl
theorem b89_10 (sc : zScr) (v1 : Int32) (i : Nat → Nat → Int32) (b : Bool) (l : Nat → Nat → Int64) : zev sc (89, 10, [some (.ref 0), some (.int v1)], [], (197, i, (zRF b), l)) = zev sc (89, 22, [some (.ref 0), some (.int v1)], [.int (-1 : Int32)], (197, i, (zRF b), l)) := by
  refine (ze_iconst 11 zm89 dX9_who_10 ci_m1 rfl).trans ?_
  exact ze_goto 22 zm89 dX9_who_11 (by decide)
theorem b89_14 (sc : zScr) (v1 : Int32) (i : Nat → Nat → Int32) (b : Bool) (l : Nat → Nat → Int64) : zev sc (89, 14, [some (.ref 0), some (.int v1)], [], (197, i, (zRF b), l)) = (zev sc (18, 0, [some (.ref 23), some (.int v1), none, none, none], [], (197, i, (zRF b), l))).bind (fun x => zev sc (89, 22, [some (.ref 0), some (.int v1)], [x.1], x.2)) := by
  refine (ze_aload_n 15 zm89 dX9_who_14 rfl rfl).trans ?_
  refine (ze_getR 18 zm89 dX9_who_15 f9_38 k0_9 t9_4 (rr0_4 b) rfl).trans ?_
  refine (ze_iload_n 19 zm89 dX9_who_18 rfl rfl).trans ?_
  exact ze_virtI (as := [.int v1]) (rest := []) 22 zm89 dX9_who_19 r9_195 zm18 rfl rfl k23_1 rfl rfl rfl rfl
theorem b89_22 (sc : zScr) (v1 : Int32) (s0 : Int32) (i : Nat → Nat → Int32) (b : Bool) (l : Nat → Nat → Int64) : zev sc (89, 22, [some (.ref 0), some (.int v1)], [.int s0], (197, i, (zRF b), l)) = some (.int s0, (197, i, (zRF b), l)) := by
  exact ze_ireturn zm89 dX9_who_22 rfl
/-! HarpFences.hears (I)I: method 90 -/
theorem b90_0 (sc : zScr) (v1 : Int32) (i : Nat → Nat → Int32) (b : Bool) (l : Nat → Nat → Int64) : zev sc (90, 0, [some (.ref 0), some (.int v1)], [], (197, i, (zRF b), l)) = if v1 < (1 : Int32) then zev sc (90, 11, [some (.ref 0), some (.int v1)], [], (197, i, (zRF b), l)) else zev sc (90, 5, [some (.ref 0), some (.int v1)], [], (197, i, (zRF b), l)) := by
  refine (ze_iload_n 1 zm90 dX9_hears_0 rfl rfl).trans ?_
  refine (ze_iconst 2 zm90 dX9_hears_1 ci_1 rfl).trans ?_
  exact ze_icmp_lt 11 5 zm90 dX9_hears_2 (by decide) rfl
theorem b90_5 (sc : zScr) (v1 : Int32) (i : Nat → Nat → Int32) (b : Bool) (l : Nat → Nat → Int64) : zev sc (90, 5, [some (.ref 0), some (.int v1)], [], (197, i, (zRF b), l)) = if v1 ≤ (43 : Int32) then zev sc (90, 13, [some (.ref 0), some (.int v1)], [], (197, i, (zRF b), l)) else zev sc (90, 11, [some (.ref 0), some (.int v1)], [], (197, i, (zRF b), l)) := by
  refine (ze_iload_n 6 zm90 dX9_hears_5 rfl rfl).trans ?_
  refine (ze_bipush 8 zm90 dX9_hears_6 cb_43 rfl).trans ?_
  exact ze_icmp_le 13 11 zm90 dX9_hears_8 (by decide) rfl
theorem b90_11 (sc : zScr) (v1 : Int32) (i : Nat → Nat → Int32) (b : Bool) (l : Nat → Nat → Int64) : zev sc (90, 11, [some (.ref 0), some (.int v1)], [], (197, i, (zRF b), l)) = some (.int (-1 : Int32), (197, i, (zRF b), l)) := by
  refine (ze_iconst 12 zm90 dX9_hears_11 ci_m1 rfl).trans ?_
  exact ze_ireturn zm90 dX9_hears_12 rfl
theorem b90_13 (sc : zScr) (v1 : Int32) (i : Nat → Nat → Int32) (b : Bool) (l : Nat → Nat → Int64) : zev sc (90, 13, [some (.ref 0), some (.int v1)], [], (197, i, (zRF b), l)) = (zev sc (20, 0, [some (.ref 67), some (.int v1)], [], (197, i, (zRF b), l))).bind (fun x => zev sc (90, 21, [some (.ref 0), some (.int v1)], [x.1], x.2)) := by
  refine (ze_aload_n 14 zm90 dX9_hears_13 rfl rfl).trans ?_
  refine (ze_getR 17 zm90 dX9_hears_14 f9_60 k0_9 t9_7 (rr0_7 b) rfl).trans ?_
  refine (ze_iload_n 18 zm90 dX9_hears_17 rfl rfl).trans ?_
  exact ze_virtI (as := [.int v1]) (rest := []) 21 zm90 dX9_hears_18 r9_198 zm20 rfl rfl k67_2 rfl rfl rfl rfl
theorem b90_21 (sc : zScr) (v1 : Int32) (s0 : Int32) (i : Nat → Nat → Int32) (b : Bool) (l : Nat → Nat → Int64) : zev sc (90, 21, [some (.ref 0), some (.int v1)], [.int s0], (197, i, (zRF b), l)) = if s0 = 0 then zev sc (90, 34, [some (.ref 0), some (.int v1)], [], (197, i, (zRF b), l)) else zev sc (90, 24, [some (.ref 0), some (.int v1)], [], (197, i, (zRF b), l)) := by
  exact ze_if_eq 34 24 zm90 dX9_hears_21 (by decide) rfl
theorem b90_24 (sc : zScr) (v1 : Int32) (i : Nat → Nat → Int32) (b : Bool) (l : Nat → Nat → Int64) : zev sc (90, 24, [some (.ref 0), some (.int v1)], [], (197, i, (zRF b), l)) = zev sc (90, 36, [some (.ref 0), some (.int v1)], [.int (i 67 6)], (197, i, (zRF b), l)) := by
  refine (ze_aload_n 25 zm90 dX9_hears_24 rfl rfl).trans ?_
  refine (ze_getR 28 zm90 dX9_hears_25 f9_60 k0_9 t9_7 (rr0_7 b) rfl).trans ?_
  refine (ze_getI 31 zm90 dX9_hears_28 f9_199 k67_2 (Or.inl t2_6) rfl).trans ?_
  exact ze_goto 36 zm90 dX9_hears_31 (by decide)
theorem b90_34 (sc : zScr) (v1 : Int32) (i : Nat → Nat → Int32) (b : Bool) (l : Nat → Nat → Int64) : zev sc (90, 34, [some (.ref 0), some (.int v1)], [], (197, i, (zRF b), l)) = zev sc (90, 36, [some (.ref 0), some (.int v1)], [.int (-3 : Int32)], (197, i, (zRF b), l)) := by
  refine (ze_bipush 36 zm90 dX9_hears_34 cb_m3 rfl).trans ?_
  rfl
theorem b90_36 (sc : zScr) (v1 : Int32) (s0 : Int32) (i : Nat → Nat → Int32) (b : Bool) (l : Nat → Nat → Int64) : zev sc (90, 36, [some (.ref 0), some (.int v1)], [.int s0], (197, i, (zRF b), l)) = some (.int s0, (197, i, (zRF b), l)) := by
  exact ze_ireturn zm90 dX9_hears_36 rfl
/-! HarpFences.forget ()I: method 91 -/
theorem b91_0 (sc : zScr) (i : Nat → Nat → Int32) (b : Bool) (l : Nat → Nat → Int64) : zev sc (91, 0, [some (.ref 0), none], [], (197, i, (zRF b), l)) = some (.int (i 67 6), (197, (zU i 67 6 (0 : Int32)), (zRF b), l)) := by
  refine (ze_aload_n 1 zm91 dX9_forget_0 rfl rfl).trans ?_
  refine (ze_getR 4 zm91 dX9_forget_1 f9_60 k0_9 t9_7 (rr0_7 b) rfl).trans ?_
  refine (ze_getI 7 zm91 dX9_forget_4 f9_199 k67_2 (Or.inl t2_6) rfl).trans ?_
  refine (ze_istore_n (A := 99) (ls' := [some (.ref 0), some (.int (i 67 6))]) 8 zm91 dX9_forget_7 za91 rfl rfl rfl rfl rfl).trans ?_
  refine (ze_aload_n 9 zm91 dX9_forget_8 rfl rfl).trans ?_
  refine (ze_getR 12 zm91 dX9_forget_9 f9_60 k0_9 t9_7 (rr0_7 b) rfl).trans ?_
  refine (ze_iconst 13 zm91 dX9_forget_12 ci_0 rfl).trans ?_
  refine (ze_putI 16 zm91 dX9_forget_13 f9_199 k67_2 (Or.inl fn2_6) t2_6 rfl).trans ?_
  refine (ze_iload_n 17 zm91 dX9_forget_16 rfl rfl).trans ?_
  exact ze_ireturn zm91 dX9_forget_17 rfl
/-! HarpFences.ways (II)I: method 92 -/
theorem b92_0 (sc : zScr) (v1 : Int32) (v2 : Int32) (i : Nat → Nat → Int32) (b : Bool) (l : Nat → Nat → Int64) : zev sc (92, 0, [some (.ref 0), some (.int v1), some (.int v2)], [], (197, i, (zRF b), l)) = (zev sc (108, 0, [some (.ref 0), some (.int v1)], [], (197, i, (zRF b), l))).bind (fun x => zev sc (92, 5, [some (.ref 0), some (.int v1), some (.int v2)], [x.1], x.2)) := by
  refine (ze_aload_n 1 zm92 dX9_ways_0 rfl rfl).trans ?_
  refine (ze_iload_n 2 zm92 dX9_ways_1 rfl rfl).trans ?_
  exact ze_virtI (as := [.int v1]) (rest := []) 5 zm92 dX9_ways_2 r9_120 zm108 rfl rfl k0_9 rfl rfl rfl rfl
theorem b92_5 (sc : zScr) (v1 : Int32) (v2 : Int32) (s0 : Int32) (i : Nat → Nat → Int32) (b : Bool) (l : Nat → Nat → Int64) : zev sc (92, 5, [some (.ref 0), some (.int v1), some (.int v2)], [.int s0], (197, i, (zRF b), l)) = if s0 = 0 then zev sc (92, 28, [some (.ref 0), some (.int v1), some (.int v2)], [], (197, i, (zRF b), l)) else zev sc (92, 8, [some (.ref 0), some (.int v1), some (.int v2)], [], (197, i, (zRF b), l)) := by
  exact ze_if_eq 28 8 zm92 dX9_ways_5 (by decide) rfl
theorem b92_8 (sc : zScr) (v1 : Int32) (v2 : Int32) (i : Nat → Nat → Int32) (b : Bool) (l : Nat → Nat → Int64) : zev sc (92, 8, [some (.ref 0), some (.int v1), some (.int v2)], [], (197, i, (zRF b), l)) = (zev sc (106, 0, [some (.ref 0), some (.int v2)], [], (197, i, (zRF b), l))).bind (fun x => zev sc (92, 13, [some (.ref 0), some (.int v1), some (.int v2)], [x.1], x.2)) := by
  refine (ze_aload_n 9 zm92 dX9_ways_8 rfl rfl).trans ?_
  refine (ze_iload_n 10 zm92 dX9_ways_9 rfl rfl).trans ?_
  exact ze_virtI (as := [.int v2]) (rest := []) 13 zm92 dX9_ways_10 r9_202 zm106 rfl rfl k0_9 rfl rfl rfl rfl
theorem b92_13 (sc : zScr) (v1 : Int32) (v2 : Int32) (s0 : Int32) (i : Nat → Nat → Int32) (b : Bool) (l : Nat → Nat → Int64) : zev sc (92, 13, [some (.ref 0), some (.int v1), some (.int v2)], [.int s0], (197, i, (zRF b), l)) = if s0 = 0 then zev sc (92, 28, [some (.ref 0), some (.int v1), some (.int v2)], [], (197, i, (zRF b), l)) else zev sc (92, 16, [some (.ref 0), some (.int v1), some (.int v2)], [], (197, i, (zRF b), l)) := by
  exact ze_if_eq 28 16 zm92 dX9_ways_13 (by decide) rfl
theorem b92_16 (sc : zScr) (v1 : Int32) (v2 : Int32) (i : Nat → Nat → Int32) (b : Bool) (l : Nat → Nat → Int64) : zev sc (92, 16, [some (.ref 0), some (.int v1), some (.int v2)], [], (197, i, (zRF b), l)) = (zev sc (21, 0, [some (.ref 67), some (.int v1), some (.int v2), none, none], [], (197, i, (zRF b), l))).bind (fun x => zev sc (92, 25, [some (.ref 0), some (.int v1), some (.int v2)], [x.1], x.2)) := by
  refine (ze_aload_n 17 zm92 dX9_ways_16 rfl rfl).trans ?_
  refine (ze_getR 20 zm92 dX9_ways_17 f9_60 k0_9 t9_7 (rr0_7 b) rfl).trans ?_
  refine (ze_iload_n 21 zm92 dX9_ways_20 rfl rfl).trans ?_
  refine (ze_iload_n 22 zm92 dX9_ways_21 rfl rfl).trans ?_
  exact ze_virtI (as := [.int v1, .int v2]) (rest := []) 25 zm92 dX9_ways_22 r9_205 zm21 rfl rfl k67_2 rfl rfl rfl rfl
theorem b92_25 (sc : zScr) (v1 : Int32) (v2 : Int32) (s0 : Int32) (i : Nat → Nat → Int32) (b : Bool) (l : Nat → Nat → Int64) : zev sc (92, 25, [some (.ref 0), some (.int v1), some (.int v2)], [.int s0], (197, i, (zRF b), l)) = zev sc (92, 29, [some (.ref 0), some (.int v1), some (.int v2)], [.int s0], (197, i, (zRF b), l)) := by
  exact ze_goto 29 zm92 dX9_ways_25 (by decide)
theorem b92_28 (sc : zScr) (v1 : Int32) (v2 : Int32) (i : Nat → Nat → Int32) (b : Bool) (l : Nat → Nat → Int64) : zev sc (92, 28, [some (.ref 0), some (.int v1), some (.int v2)], [], (197, i, (zRF b), l)) = zev sc (92, 29, [some (.ref 0), some (.int v1), some (.int v2)], [.int (-1 : Int32)], (197, i, (zRF b), l)) := by
  refine (ze_iconst 29 zm92 dX9_ways_28 ci_m1 rfl).trans ?_
  rfl
theorem b92_29 (sc : zScr) (v1 : Int32) (v2 : Int32) (s0 : Int32) (i : Nat → Nat → Int32) (b : Bool) (l : Nat → Nat → Int64) : zev sc (92, 29, [some (.ref 0), some (.int v1), some (.int v2)], [.int s0], (197, i, (zRF b), l)) = some (.int s0, (197, i, (zRF b), l)) := by
  exact ze_ireturn zm92 dX9_ways_29 rfl
/-! HarpFences.ends (I)I: method 93 -/
theorem b93_0 (sc : zScr) (v1 : Int32) (i : Nat → Nat → Int32) (b : Bool) (l : Nat → Nat → Int64) : zev sc (93, 0, [some (.ref 0), some (.int v1)], [], (197, i, (zRF b), l)) = (zev sc (108, 0, [some (.ref 0), some (.int v1)], [], (197, i, (zRF b), l))).bind (fun x => zev sc (93, 5, [some (.ref 0), some (.int v1)], [x.1], x.2)) := by
  refine (ze_aload_n 1 zm93 dX9_ends_0 rfl rfl).trans ?_
  refine (ze_iload_n 2 zm93 dX9_ends_1 rfl rfl).trans ?_
  exact ze_virtI (as := [.int v1]) (rest := []) 5 zm93 dX9_ends_2 r9_120 zm108 rfl rfl k0_9 rfl rfl rfl rfl
theorem b93_5 (sc : zScr) (v1 : Int32) (s0 : Int32) (i : Nat → Nat → Int32) (b : Bool) (l : Nat → Nat → Int64) : zev sc (93, 5, [some (.ref 0), some (.int v1)], [.int s0], (197, i, (zRF b), l)) = if s0 = 0 then zev sc (93, 19, [some (.ref 0), some (.int v1)], [], (197, i, (zRF b), l)) else zev sc (93, 8, [some (.ref 0), some (.int v1)], [], (197, i, (zRF b), l)) := by
  exact ze_if_eq 19 8 zm93 dX9_ends_5 (by decide) rfl
theorem b93_8 (sc : zScr) (v1 : Int32) (i : Nat → Nat → Int32) (b : Bool) (l : Nat → Nat → Int64) : zev sc (93, 8, [some (.ref 0), some (.int v1)], [], (197, i, (zRF b), l)) = (zev sc (23, 0, [some (.ref 67), some (.int v1), none, none], [], (197, i, (zRF b), l))).bind (fun x => zev sc (93, 16, [some (.ref 0), some (.int v1)], [x.1], x.2)) := by
  refine (ze_aload_n 9 zm93 dX9_ends_8 rfl rfl).trans ?_
  refine (ze_getR 12 zm93 dX9_ends_9 f9_60 k0_9 t9_7 (rr0_7 b) rfl).trans ?_
  refine (ze_iload_n 13 zm93 dX9_ends_12 rfl rfl).trans ?_
  exact ze_virtI (as := [.int v1]) (rest := []) 16 zm93 dX9_ends_13 r9_208 zm23 rfl rfl k67_2 rfl rfl rfl rfl
theorem b93_16 (sc : zScr) (v1 : Int32) (s0 : Int32) (i : Nat → Nat → Int32) (b : Bool) (l : Nat → Nat → Int64) : zev sc (93, 16, [some (.ref 0), some (.int v1)], [.int s0], (197, i, (zRF b), l)) = zev sc (93, 20, [some (.ref 0), some (.int v1)], [.int s0], (197, i, (zRF b), l)) := by
  exact ze_goto 20 zm93 dX9_ends_16 (by decide)
theorem b93_19 (sc : zScr) (v1 : Int32) (i : Nat → Nat → Int32) (b : Bool) (l : Nat → Nat → Int64) : zev sc (93, 19, [some (.ref 0), some (.int v1)], [], (197, i, (zRF b), l)) = zev sc (93, 20, [some (.ref 0), some (.int v1)], [.int (-1 : Int32)], (197, i, (zRF b), l)) := by
  refine (ze_iconst 20 zm93 dX9_ends_19 ci_m1 rfl).trans ?_
  rfl
theorem b93_20 (sc : zScr) (v1 : Int32) (s0 : Int32) (i : Nat → Nat → Int32) (b : Bool) (l : Nat → Nat → Int64) : zev sc (93, 20, [some (.ref 0), some (.int v1)], [.int s0], (197, i, (zRF b), l)) = some (.int s0, (197, i, (zRF b), l)) := by
  exact ze_ireturn zm93 dX9_ends_20 rfl
/-! HarpFences.can ()I: method 94 -/
theorem b94_0 (sc : zScr) (i : Nat → Nat → Int32) (b : Bool) (l : Nat → Nat → Int64) : zev sc (94, 0, [some (.ref 0)], [], (197, i, (zRF b), l)) = (zev sc (25, 0, [some (.ref 67), none, none], [], (197, i, (zRF b), l))).bind (fun x => zev sc (94, 7, [some (.ref 0)], [x.1], x.2)) := by
  refine (ze_aload_n 1 zm94 dX9_can_0 rfl rfl).trans ?_
  refine (ze_getR 4 zm94 dX9_can_1 f9_60 k0_9 t9_7 (rr0_7 b) rfl).trans ?_
  exact ze_virtI (as := []) (rest := []) 7 zm94 dX9_can_4 r9_211 zm25 rfl rfl k67_2 rfl rfl rfl rfl
theorem b94_7 (sc : zScr) (s0 : Int32) (i : Nat → Nat → Int32) (b : Bool) (l : Nat → Nat → Int64) : zev sc (94, 7, [some (.ref 0)], [.int s0], (197, i, (zRF b), l)) = some (.int s0, (197, i, (zRF b), l)) := by
  exact ze_ireturn zm94 dX9_can_7 rfl
/-! HarpFences.ask ()I: method 95 -/
theorem b95_0 (sc : zScr) (i : Nat → Nat → Int32) (b : Bool) (l : Nat → Nat → Int64) : zev sc (95, 0, [some (.ref 0)], [], (197, i, (zRF b), l)) = (zev sc (26, 0, [some (.ref 67), none, none, none, none], [], (197, i, (zRF b), l))).bind (fun x => zev sc (95, 7, [some (.ref 0)], [x.1], x.2)) := by
  refine (ze_aload_n 1 zm95 dX9_ask_0 rfl rfl).trans ?_
  refine (ze_getR 4 zm95 dX9_ask_1 f9_60 k0_9 t9_7 (rr0_7 b) rfl).trans ?_
  exact ze_virtI (as := []) (rest := []) 7 zm95 dX9_ask_4 r9_214 zm26 rfl rfl k67_2 rfl rfl rfl rfl
theorem b95_7 (sc : zScr) (s0 : Int32) (i : Nat → Nat → Int32) (b : Bool) (l : Nat → Nat → Int64) : zev sc (95, 7, [some (.ref 0)], [.int s0], (197, i, (zRF b), l)) = some (.int s0, (197, i, (zRF b), l)) := by
  exact ze_ireturn zm95 dX9_ask_7 rfl
/-! HarpFences.quiet (IIII)I: method 96 -/
theorem b96_0 (sc : zScr) (v1 : Int32) (v2 : Int32) (v3 : Int32) (v4 : Int32) (i : Nat → Nat → Int32) (b : Bool) (l : Nat → Nat → Int64) : zev sc (96, 0, [some (.ref 0), some (.int v1), some (.int v2), some (.int v3), some (.int v4)], [], (197, i, (zRF b), l)) = (zev sc (108, 0, [some (.ref 0), some (.int v1)], [], (197, i, (zRF b), l))).bind (fun x => zev sc (96, 5, [some (.ref 0), some (.int v1), some (.int v2), some (.int v3), some (.int v4)], [x.1], x.2)) := by
  refine (ze_aload_n 1 zm96 dX9_quiet_0 rfl rfl).trans ?_
  refine (ze_iload_n 2 zm96 dX9_quiet_1 rfl rfl).trans ?_
  exact ze_virtI (as := [.int v1]) (rest := []) 5 zm96 dX9_quiet_2 r9_120 zm108 rfl rfl k0_9 rfl rfl rfl rfl
theorem b96_5 (sc : zScr) (v1 : Int32) (v2 : Int32) (v3 : Int32) (v4 : Int32) (s0 : Int32) (i : Nat → Nat → Int32) (b : Bool) (l : Nat → Nat → Int64) : zev sc (96, 5, [some (.ref 0), some (.int v1), some (.int v2), some (.int v3), some (.int v4)], [.int s0], (197, i, (zRF b), l)) = if s0 = 0 then zev sc (96, 24, [some (.ref 0), some (.int v1), some (.int v2), some (.int v3), some (.int v4)], [], (197, i, (zRF b), l)) else zev sc (96, 8, [some (.ref 0), some (.int v1), some (.int v2), some (.int v3), some (.int v4)], [], (197, i, (zRF b), l)) := by
  exact ze_if_eq 24 8 zm96 dX9_quiet_5 (by decide) rfl
theorem b96_8 (sc : zScr) (v1 : Int32) (v2 : Int32) (v3 : Int32) (v4 : Int32) (i : Nat → Nat → Int32) (b : Bool) (l : Nat → Nat → Int64) : zev sc (96, 8, [some (.ref 0), some (.int v1), some (.int v2), some (.int v3), some (.int v4)], [], (197, i, (zRF b), l)) = (zev sc (106, 0, [some (.ref 0), some (.int v2)], [], (197, i, (zRF b), l))).bind (fun x => zev sc (96, 13, [some (.ref 0), some (.int v1), some (.int v2), some (.int v3), some (.int v4)], [x.1], x.2)) := by
  refine (ze_aload_n 9 zm96 dX9_quiet_8 rfl rfl).trans ?_
  refine (ze_iload_n 10 zm96 dX9_quiet_9 rfl rfl).trans ?_
  exact ze_virtI (as := [.int v2]) (rest := []) 13 zm96 dX9_quiet_10 r9_202 zm106 rfl rfl k0_9 rfl rfl rfl rfl
theorem b96_13 (sc : zScr) (v1 : Int32) (v2 : Int32) (v3 : Int32) (v4 : Int32) (s0 : Int32) (i : Nat → Nat → Int32) (b : Bool) (l : Nat → Nat → Int64) : zev sc (96, 13, [some (.ref 0), some (.int v1), some (.int v2), some (.int v3), some (.int v4)], [.int s0], (197, i, (zRF b), l)) = if s0 = 0 then zev sc (96, 24, [some (.ref 0), some (.int v1), some (.int v2), some (.int v3), some (.int v4)], [], (197, i, (zRF b), l)) else zev sc (96, 16, [some (.ref 0), some (.int v1), some (.int v2), some (.int v3), some (.int v4)], [], (197, i, (zRF b), l)) := by
  exact ze_if_eq 24 16 zm96 dX9_quiet_13 (by decide) rfl
theorem b96_16 (sc : zScr) (v1 : Int32) (v2 : Int32) (v3 : Int32) (v4 : Int32) (i : Nat → Nat → Int32) (b : Bool) (l : Nat → Nat → Int64) : zev sc (96, 16, [some (.ref 0), some (.int v1), some (.int v2), some (.int v3), some (.int v4)], [], (197, i, (zRF b), l)) = (zev sc (106, 0, [some (.ref 0), some (.int v3)], [], (197, i, (zRF b), l))).bind (fun x => zev sc (96, 21, [some (.ref 0), some (.int v1), some (.int v2), some (.int v3), some (.int v4)], [x.1], x.2)) := by
  refine (ze_aload_n 17 zm96 dX9_quiet_16 rfl rfl).trans ?_
  refine (ze_iload_n 18 zm96 dX9_quiet_17 rfl rfl).trans ?_
  exact ze_virtI (as := [.int v3]) (rest := []) 21 zm96 dX9_quiet_18 r9_202 zm106 rfl rfl k0_9 rfl rfl rfl rfl
theorem b96_21 (sc : zScr) (v1 : Int32) (v2 : Int32) (v3 : Int32) (v4 : Int32) (s0 : Int32) (i : Nat → Nat → Int32) (b : Bool) (l : Nat → Nat → Int64) : zev sc (96, 21, [some (.ref 0), some (.int v1), some (.int v2), some (.int v3), some (.int v4)], [.int s0], (197, i, (zRF b), l)) = if s0 = 0 then zev sc (96, 24, [some (.ref 0), some (.int v1), some (.int v2), some (.int v3), some (.int v4)], [], (197, i, (zRF b), l)) else zev sc (96, 26, [some (.ref 0), some (.int v1), some (.int v2), some (.int v3), some (.int v4)], [], (197, i, (zRF b), l)) := by
  exact ze_if_ne 26 24 zm96 dX9_quiet_21 (by decide) rfl
theorem b96_24 (sc : zScr) (v1 : Int32) (v2 : Int32) (v3 : Int32) (v4 : Int32) (i : Nat → Nat → Int32) (b : Bool) (l : Nat → Nat → Int64) : zev sc (96, 24, [some (.ref 0), some (.int v1), some (.int v2), some (.int v3), some (.int v4)], [], (197, i, (zRF b), l)) = some (.int (-1 : Int32), (197, i, (zRF b), l)) := by
  refine (ze_iconst 25 zm96 dX9_quiet_24 ci_m1 rfl).trans ?_
  exact ze_ireturn zm96 dX9_quiet_25 rfl
theorem b96_26 (sc : zScr) (v1 : Int32) (v2 : Int32) (v3 : Int32) (v4 : Int32) (i : Nat → Nat → Int32) (b : Bool) (l : Nat → Nat → Int64) : zev sc (96, 26, [some (.ref 0), some (.int v1), some (.int v2), some (.int v3), some (.int v4)], [], (197, i, (zRF b), l)) = zev sc (96, zcs v4 89 [((0 : Int32), 56), ((1 : Int32), 67), ((2 : Int32), 78)], [some (.ref 0), some (.int v1), some (.int v2), some (.int v3), some (.int v4)], [], (197, i, (zRF b), l)) := by
  refine (ze_iload 28 zm96 dX9_quiet_26 rfl rfl).trans ?_
  exact ze_table zm96 dX9_quiet_28 (sw_96_28 _)
theorem b96_56 (sc : zScr) (v1 : Int32) (v2 : Int32) (v3 : Int32) (v4 : Int32) (i : Nat → Nat → Int32) (b : Bool) (l : Nat → Nat → Int64) : zev sc (96, 56, [some (.ref 0), some (.int v1), some (.int v2), some (.int v3), some (.int v4)], [], (197, i, (zRF b), l)) = (zev sc (43, 0, [some (.ref 72), some (.int v1), some (.int v2), some (.int v3)], [], (197, i, (zRF b), l))).bind (fun x => zev sc (96, 66, [some (.ref 0), some (.int v1), some (.int v2), some (.int v3), some (.int v4)], [x.1], x.2)) := by
  refine (ze_aload_n 57 zm96 dX9_quiet_56 rfl rfl).trans ?_
  refine (ze_getR 60 zm96 dX9_quiet_57 f9_67 k0_9 t9_8 (rr0_8 b) rfl).trans ?_
  refine (ze_iload_n 61 zm96 dX9_quiet_60 rfl rfl).trans ?_
  refine (ze_iload_n 62 zm96 dX9_quiet_61 rfl rfl).trans ?_
  refine (ze_iload_n 63 zm96 dX9_quiet_62 rfl rfl).trans ?_
  exact ze_virtI (as := [.int v1, .int v2, .int v3]) (rest := []) 66 zm96 dX9_quiet_63 r9_217 zm43 rfl rfl k72_6 rfl rfl rfl rfl
theorem b96_66 (sc : zScr) (v1 : Int32) (v2 : Int32) (v3 : Int32) (v4 : Int32) (s0 : Int32) (i : Nat → Nat → Int32) (b : Bool) (l : Nat → Nat → Int64) : zev sc (96, 66, [some (.ref 0), some (.int v1), some (.int v2), some (.int v3), some (.int v4)], [.int s0], (197, i, (zRF b), l)) = some (.int s0, (197, i, (zRF b), l)) := by
  exact ze_ireturn zm96 dX9_quiet_66 rfl
theorem b96_67 (sc : zScr) (v1 : Int32) (v2 : Int32) (v3 : Int32) (v4 : Int32) (i : Nat → Nat → Int32) (b : Bool) (l : Nat → Nat → Int64) : zev sc (96, 67, [some (.ref 0), some (.int v1), some (.int v2), some (.int v3), some (.int v4)], [], (197, i, (zRF b), l)) = (zev sc (44, 0, [some (.ref 72), some (.int v1), some (.int v2), some (.int v3)], [], (197, i, (zRF b), l))).bind (fun x => zev sc (96, 77, [some (.ref 0), some (.int v1), some (.int v2), some (.int v3), some (.int v4)], [x.1], x.2)) := by
  refine (ze_aload_n 68 zm96 dX9_quiet_67 rfl rfl).trans ?_
  refine (ze_getR 71 zm96 dX9_quiet_68 f9_67 k0_9 t9_8 (rr0_8 b) rfl).trans ?_
  refine (ze_iload_n 72 zm96 dX9_quiet_71 rfl rfl).trans ?_
  refine (ze_iload_n 73 zm96 dX9_quiet_72 rfl rfl).trans ?_
  refine (ze_iload_n 74 zm96 dX9_quiet_73 rfl rfl).trans ?_
  exact ze_virtI (as := [.int v1, .int v2, .int v3]) (rest := []) 77 zm96 dX9_quiet_74 r9_221 zm44 rfl rfl k72_6 rfl rfl rfl rfl
theorem b96_77 (sc : zScr) (v1 : Int32) (v2 : Int32) (v3 : Int32) (v4 : Int32) (s0 : Int32) (i : Nat → Nat → Int32) (b : Bool) (l : Nat → Nat → Int64) : zev sc (96, 77, [some (.ref 0), some (.int v1), some (.int v2), some (.int v3), some (.int v4)], [.int s0], (197, i, (zRF b), l)) = some (.int s0, (197, i, (zRF b), l)) := by
  exact ze_ireturn zm96 dX9_quiet_77 rfl
theorem b96_78 (sc : zScr) (v1 : Int32) (v2 : Int32) (v3 : Int32) (v4 : Int32) (i : Nat → Nat → Int32) (b : Bool) (l : Nat → Nat → Int64) : zev sc (96, 78, [some (.ref 0), some (.int v1), some (.int v2), some (.int v3), some (.int v4)], [], (197, i, (zRF b), l)) = (zev sc (45, 0, [some (.ref 72), some (.int v1), some (.int v2), some (.int v3), none], [], (197, i, (zRF b), l))).bind (fun x => zev sc (96, 88, [some (.ref 0), some (.int v1), some (.int v2), some (.int v3), some (.int v4)], [x.1], x.2)) := by
  refine (ze_aload_n 79 zm96 dX9_quiet_78 rfl rfl).trans ?_
  refine (ze_getR 82 zm96 dX9_quiet_79 f9_67 k0_9 t9_8 (rr0_8 b) rfl).trans ?_
  refine (ze_iload_n 83 zm96 dX9_quiet_82 rfl rfl).trans ?_
  refine (ze_iload_n 84 zm96 dX9_quiet_83 rfl rfl).trans ?_
  refine (ze_iload_n 85 zm96 dX9_quiet_84 rfl rfl).trans ?_
  exact ze_virtI (as := [.int v1, .int v2, .int v3]) (rest := []) 88 zm96 dX9_quiet_85 r9_224 zm45 rfl rfl k72_6 rfl rfl rfl rfl
theorem b96_88 (sc : zScr) (v1 : Int32) (v2 : Int32) (v3 : Int32) (v4 : Int32) (s0 : Int32) (i : Nat → Nat → Int32) (b : Bool) (l : Nat → Nat → Int64) : zev sc (96, 88, [some (.ref 0), some (.int v1), some (.int v2), some (.int v3), some (.int v4)], [.int s0], (197, i, (zRF b), l)) = some (.int s0, (197, i, (zRF b), l)) := by
  exact ze_ireturn zm96 dX9_quiet_88 rfl
theorem b96_89 (sc : zScr) (v1 : Int32) (v2 : Int32) (v3 : Int32) (v4 : Int32) (i : Nat → Nat → Int32) (b : Bool) (l : Nat → Nat → Int64) : zev sc (96, 89, [some (.ref 0), some (.int v1), some (.int v2), some (.int v3), some (.int v4)], [], (197, i, (zRF b), l)) = some (.int (-1 : Int32), (197, i, (zRF b), l)) := by
  refine (ze_iconst 90 zm96 dX9_quiet_89 ci_m1 rfl).trans ?_
  exact ze_ireturn zm96 dX9_quiet_90 rfl
/-! HarpFences.fifths (I)I: method 97 -/
theorem b97_0 (sc : zScr) (v1 : Int32) (i : Nat → Nat → Int32) (b : Bool) (l : Nat → Nat → Int64) : zev sc (97, 0, [some (.ref 0), some (.int v1)], [], (197, i, (zRF b), l)) = (zev sc (106, 0, [some (.ref 0), some (.int v1)], [], (197, i, (zRF b), l))).bind (fun x => zev sc (97, 5, [some (.ref 0), some (.int v1)], [x.1], x.2)) := by
  refine (ze_aload_n 1 zm97 dX9_fifths_0 rfl rfl).trans ?_
  refine (ze_iload_n 2 zm97 dX9_fifths_1 rfl rfl).trans ?_
  exact ze_virtI (as := [.int v1]) (rest := []) 5 zm97 dX9_fifths_2 r9_202 zm106 rfl rfl k0_9 rfl rfl rfl rfl
theorem b97_5 (sc : zScr) (v1 : Int32) (s0 : Int32) (i : Nat → Nat → Int32) (b : Bool) (l : Nat → Nat → Int64) : zev sc (97, 5, [some (.ref 0), some (.int v1)], [.int s0], (197, i, (zRF b), l)) = if s0 = 0 then zev sc (97, 19, [some (.ref 0), some (.int v1)], [], (197, i, (zRF b), l)) else zev sc (97, 8, [some (.ref 0), some (.int v1)], [], (197, i, (zRF b), l)) := by
  exact ze_if_eq 19 8 zm97 dX9_fifths_5 (by decide) rfl
theorem b97_8 (sc : zScr) (v1 : Int32) (i : Nat → Nat → Int32) (b : Bool) (l : Nat → Nat → Int64) : zev sc (97, 8, [some (.ref 0), some (.int v1)], [], (197, i, (zRF b), l)) = (zev sc (16, 0, [some (.ref 23), some (.int v1), none, none, none], [], (197, i, (zRF b), l))).bind (fun x => zev sc (97, 16, [some (.ref 0), some (.int v1)], [x.1], x.2)) := by
  refine (ze_aload_n 9 zm97 dX9_fifths_8 rfl rfl).trans ?_
  refine (ze_getR 12 zm97 dX9_fifths_9 f9_38 k0_9 t9_4 (rr0_4 b) rfl).trans ?_
  refine (ze_iload_n 13 zm97 dX9_fifths_12 rfl rfl).trans ?_
  exact ze_virtI (as := [.int v1]) (rest := []) 16 zm97 dX9_fifths_13 r9_227 zm16 rfl rfl k23_1 rfl rfl rfl rfl
theorem b97_16 (sc : zScr) (v1 : Int32) (s0 : Int32) (i : Nat → Nat → Int32) (b : Bool) (l : Nat → Nat → Int64) : zev sc (97, 16, [some (.ref 0), some (.int v1)], [.int s0], (197, i, (zRF b), l)) = zev sc (97, 20, [some (.ref 0), some (.int v1)], [.int s0], (197, i, (zRF b), l)) := by
  exact ze_goto 20 zm97 dX9_fifths_16 (by decide)
theorem b97_19 (sc : zScr) (v1 : Int32) (i : Nat → Nat → Int32) (b : Bool) (l : Nat → Nat → Int64) : zev sc (97, 19, [some (.ref 0), some (.int v1)], [], (197, i, (zRF b), l)) = zev sc (97, 20, [some (.ref 0), some (.int v1)], [.int (-1 : Int32)], (197, i, (zRF b), l)) := by
  refine (ze_iconst 20 zm97 dX9_fifths_19 ci_m1 rfl).trans ?_
  rfl
theorem b97_20 (sc : zScr) (v1 : Int32) (s0 : Int32) (i : Nat → Nat → Int32) (b : Bool) (l : Nat → Nat → Int64) : zev sc (97, 20, [some (.ref 0), some (.int v1)], [.int s0], (197, i, (zRF b), l)) = some (.int s0, (197, i, (zRF b), l)) := by
  exact ze_ireturn zm97 dX9_fifths_20 rfl
/-! HarpFences.herd (I)I: method 98 -/
theorem b98_0 (sc : zScr) (v1 : Int32) (i : Nat → Nat → Int32) (b : Bool) (l : Nat → Nat → Int64) : zev sc (98, 0, [some (.ref 0), some (.int v1)], [], (197, i, (zRF b), l)) = if v1 = (-1 : Int32) then zev sc (98, 15, [some (.ref 0), some (.int v1)], [], (197, i, (zRF b), l)) else zev sc (98, 5, [some (.ref 0), some (.int v1)], [], (197, i, (zRF b), l)) := by
  refine (ze_iload_n 1 zm98 dX9_herd_0 rfl rfl).trans ?_
  refine (ze_iconst 2 zm98 dX9_herd_1 ci_m1 rfl).trans ?_
  exact ze_icmp_eq 15 5 zm98 dX9_herd_2 (by decide) rfl
theorem b98_5 (sc : zScr) (v1 : Int32) (i : Nat → Nat → Int32) (b : Bool) (l : Nat → Nat → Int64) : zev sc (98, 5, [some (.ref 0), some (.int v1)], [], (197, i, (zRF b), l)) = (zev sc (109, 0, [some (.ref 0), some (.int v1)], [], (197, i, (zRF b), l))).bind (fun x => zev sc (98, 10, [some (.ref 0), some (.int v1)], [x.1], x.2)) := by
  refine (ze_aload_n 6 zm98 dX9_herd_5 rfl rfl).trans ?_
  refine (ze_iload_n 7 zm98 dX9_herd_6 rfl rfl).trans ?_
  exact ze_virtI (as := [.int v1]) (rest := []) 10 zm98 dX9_herd_7 r9_130 zm109 rfl rfl k0_9 rfl rfl rfl rfl
theorem b98_10 (sc : zScr) (v1 : Int32) (s0 : Int32) (i : Nat → Nat → Int32) (b : Bool) (l : Nat → Nat → Int64) : zev sc (98, 10, [some (.ref 0), some (.int v1)], [.int s0], (197, i, (zRF b), l)) = if s0 = 0 then zev sc (98, 13, [some (.ref 0), some (.int v1)], [], (197, i, (zRF b), l)) else zev sc (98, 15, [some (.ref 0), some (.int v1)], [], (197, i, (zRF b), l)) := by
  exact ze_if_ne 15 13 zm98 dX9_herd_10 (by decide) rfl
theorem b98_13 (sc : zScr) (v1 : Int32) (i : Nat → Nat → Int32) (b : Bool) (l : Nat → Nat → Int64) : zev sc (98, 13, [some (.ref 0), some (.int v1)], [], (197, i, (zRF b), l)) = some (.int (-1 : Int32), (197, i, (zRF b), l)) := by
  refine (ze_iconst 14 zm98 dX9_herd_13 ci_m1 rfl).trans ?_
  exact ze_ireturn zm98 dX9_herd_14 rfl
theorem b98_15 (sc : zScr) (v1 : Int32) (i : Nat → Nat → Int32) (b : Bool) (l : Nat → Nat → Int64) : zev sc (98, 15, [some (.ref 0), some (.int v1)], [], (197, i, (zRF b), l)) = if (i 3 8) ≤ (i 3 0) then zev sc (98, 35, [some (.ref 0), some (.int v1)], [], (197, i, (zRF b), l)) else zev sc (98, 32, [some (.ref 0), some (.int v1)], [], (197, i, (zRF b), l)) := by
  refine (ze_aload_n 16 zm98 dX9_herd_15 rfl rfl).trans ?_
  refine (ze_getR 19 zm98 dX9_herd_16 f9_19 k0_9 t9_1 (rr0_1 b) rfl).trans ?_
  refine (ze_getI 22 zm98 dX9_herd_19 f9_230 k3_4 (Or.inl t4_8) rfl).trans ?_
  refine (ze_aload_n 23 zm98 dX9_herd_22 rfl rfl).trans ?_
  refine (ze_getR 26 zm98 dX9_herd_23 f9_19 k0_9 t9_1 (rr0_1 b) rfl).trans ?_
  refine (ze_getI 29 zm98 dX9_herd_26 f9_233 k3_4 (Or.inl t4_0) rfl).trans ?_
  exact ze_icmp_le 35 32 zm98 dX9_herd_29 (by decide) rfl
theorem b98_32 (sc : zScr) (v1 : Int32) (i : Nat → Nat → Int32) (b : Bool) (l : Nat → Nat → Int64) : zev sc (98, 32, [some (.ref 0), some (.int v1)], [], (197, i, (zRF b), l)) = some (.int (-9 : Int32), (197, i, (zRF b), l)) := by
  refine (ze_bipush 34 zm98 dX9_herd_32 cb_m9 rfl).trans ?_
  exact ze_ireturn zm98 dX9_herd_34 rfl
theorem b98_35 (sc : zScr) (v1 : Int32) (i : Nat → Nat → Int32) (b : Bool) (l : Nat → Nat → Int64) : zev sc (98, 35, [some (.ref 0), some (.int v1)], [], (197, i, (zRF b), l)) = if v1 = (-1 : Int32) then zev sc (98, 40, [some (.ref 0), some (.int v1)], [], (197, i, (zRF b), l)) else zev sc (98, 50, [some (.ref 0), some (.int v1)], [], (197, i, (zRF b), l)) := by
  refine (ze_iload_n 36 zm98 dX9_herd_35 rfl rfl).trans ?_
  refine (ze_iconst 37 zm98 dX9_herd_36 ci_m1 rfl).trans ?_
  exact ze_icmp_ne 50 40 zm98 dX9_herd_37 (by decide) rfl
theorem b98_40 (sc : zScr) (v1 : Int32) (i : Nat → Nat → Int32) (b : Bool) (l : Nat → Nat → Int64) : zev sc (98, 40, [some (.ref 0), some (.int v1)], [], (197, i, (zRF b), l)) = (zev sc (8, 0, [some (.ref 75)], [], (197, i, (zRF b), l))).bind (fun x => zev sc (98, 47, [some (.ref 0), some (.int v1)], [x.1], x.2)) := by
  refine (ze_aload_n 41 zm98 dX9_herd_40 rfl rfl).trans ?_
  refine (ze_getR 44 zm98 dX9_herd_41 f9_74 k0_9 t9_9 (rr0_9 b) rfl).trans ?_
  exact ze_virtI (as := []) (rest := []) 47 zm98 dX9_herd_44 r9_236 zm8 rfl rfl k75_0 rfl rfl rfl rfl
theorem b98_47 (sc : zScr) (v1 : Int32) (s0 : Int32) (i : Nat → Nat → Int32) (b : Bool) (l : Nat → Nat → Int64) : zev sc (98, 47, [some (.ref 0), some (.int v1)], [.int s0], (197, i, (zRF b), l)) = zev sc (98, 58, [some (.ref 0), some (.int v1)], [.int s0], (197, i, (zRF b), l)) := by
  exact ze_goto 58 zm98 dX9_herd_47 (by decide)
theorem b98_50 (sc : zScr) (v1 : Int32) (i : Nat → Nat → Int32) (b : Bool) (l : Nat → Nat → Int64) : zev sc (98, 50, [some (.ref 0), some (.int v1)], [], (197, i, (zRF b), l)) = (zev sc (9, 0, [some (.ref 75), some (.int v1), none, none, none], [], (197, i, (zRF b), l))).bind (fun x => zev sc (98, 58, [some (.ref 0), some (.int v1)], [x.1], x.2)) := by
  refine (ze_aload_n 51 zm98 dX9_herd_50 rfl rfl).trans ?_
  refine (ze_getR 54 zm98 dX9_herd_51 f9_74 k0_9 t9_9 (rr0_9 b) rfl).trans ?_
  refine (ze_iload_n 55 zm98 dX9_herd_54 rfl rfl).trans ?_
  exact ze_virtI (as := [.int v1]) (rest := []) 58 zm98 dX9_herd_55 r9_239 zm9 rfl rfl k75_0 rfl rfl rfl rfl
theorem b98_58 (sc : zScr) (v1 : Int32) (s0 : Int32) (i : Nat → Nat → Int32) (b : Bool) (l : Nat → Nat → Int64) : zev sc (98, 58, [some (.ref 0), some (.int v1)], [.int s0], (197, i, (zRF b), l)) = some (.int s0, (197, i, (zRF b), l)) := by
  exact ze_ireturn zm98 dX9_herd_58 rfl
/-! HarpFences.frost (IIIIII)I: method 99 -/
theorem b99_0 (sc : zScr) (v1 : Int32) (v2 : Int32) (v3 : Int32) (v4 : Int32) (v5 : Int32) (v6 : Int32) (i : Nat → Nat → Int32) (b : Bool) (l : Nat → Nat → Int64) : zev sc (99, 0, [some (.ref 0), some (.int v1), some (.int v2), some (.int v3), some (.int v4), some (.int v5), some (.int v6), none, none, none], [], (197, i, (zRF b), l)) = (zev sc (108, 0, [some (.ref 0), some (.int v1)], [], (197, i, (zRF b), l))).bind (fun x => zev sc (99, 5, [some (.ref 0), some (.int v1), some (.int v2), some (.int v3), some (.int v4), some (.int v5), some (.int v6), none, none, none], [x.1], x.2)) := by
  refine (ze_aload_n 1 zm99 dX9_frost_0 rfl rfl).trans ?_
  refine (ze_iload_n 2 zm99 dX9_frost_1 rfl rfl).trans ?_
  exact ze_virtI (as := [.int v1]) (rest := []) 5 zm99 dX9_frost_2 r9_120 zm108 rfl rfl k0_9 rfl rfl rfl rfl
theorem b99_5 (sc : zScr) (v1 : Int32) (v2 : Int32) (v3 : Int32) (v4 : Int32) (v5 : Int32) (v6 : Int32) (s0 : Int32) (i : Nat → Nat → Int32) (b : Bool) (l : Nat → Nat → Int64) : zev sc (99, 5, [some (.ref 0), some (.int v1), some (.int v2), some (.int v3), some (.int v4), some (.int v5), some (.int v6), none, none, none], [.int s0], (197, i, (zRF b), l)) = if s0 = 0 then zev sc (99, 32, [some (.ref 0), some (.int v1), some (.int v2), some (.int v3), some (.int v4), some (.int v5), some (.int v6), none, none, none], [], (197, i, (zRF b), l)) else zev sc (99, 8, [some (.ref 0), some (.int v1), some (.int v2), some (.int v3), some (.int v4), some (.int v5), some (.int v6), none, none, none], [], (197, i, (zRF b), l)) := by
  exact ze_if_eq 32 8 zm99 dX9_frost_5 (by decide) rfl
theorem b99_8 (sc : zScr) (v1 : Int32) (v2 : Int32) (v3 : Int32) (v4 : Int32) (v5 : Int32) (v6 : Int32) (i : Nat → Nat → Int32) (b : Bool) (l : Nat → Nat → Int64) : zev sc (99, 8, [some (.ref 0), some (.int v1), some (.int v2), some (.int v3), some (.int v4), some (.int v5), some (.int v6), none, none, none], [], (197, i, (zRF b), l)) = (zev sc (106, 0, [some (.ref 0), some (.int v2)], [], (197, i, (zRF b), l))).bind (fun x => zev sc (99, 13, [some (.ref 0), some (.int v1), some (.int v2), some (.int v3), some (.int v4), some (.int v5), some (.int v6), none, none, none], [x.1], x.2)) := by
  refine (ze_aload_n 9 zm99 dX9_frost_8 rfl rfl).trans ?_
  refine (ze_iload_n 10 zm99 dX9_frost_9 rfl rfl).trans ?_
  exact ze_virtI (as := [.int v2]) (rest := []) 13 zm99 dX9_frost_10 r9_202 zm106 rfl rfl k0_9 rfl rfl rfl rfl
theorem b99_13 (sc : zScr) (v1 : Int32) (v2 : Int32) (v3 : Int32) (v4 : Int32) (v5 : Int32) (v6 : Int32) (s0 : Int32) (i : Nat → Nat → Int32) (b : Bool) (l : Nat → Nat → Int64) : zev sc (99, 13, [some (.ref 0), some (.int v1), some (.int v2), some (.int v3), some (.int v4), some (.int v5), some (.int v6), none, none, none], [.int s0], (197, i, (zRF b), l)) = if s0 = 0 then zev sc (99, 32, [some (.ref 0), some (.int v1), some (.int v2), some (.int v3), some (.int v4), some (.int v5), some (.int v6), none, none, none], [], (197, i, (zRF b), l)) else zev sc (99, 16, [some (.ref 0), some (.int v1), some (.int v2), some (.int v3), some (.int v4), some (.int v5), some (.int v6), none, none, none], [], (197, i, (zRF b), l)) := by
  exact ze_if_eq 32 16 zm99 dX9_frost_13 (by decide) rfl
theorem b99_16 (sc : zScr) (v1 : Int32) (v2 : Int32) (v3 : Int32) (v4 : Int32) (v5 : Int32) (v6 : Int32) (i : Nat → Nat → Int32) (b : Bool) (l : Nat → Nat → Int64) : zev sc (99, 16, [some (.ref 0), some (.int v1), some (.int v2), some (.int v3), some (.int v4), some (.int v5), some (.int v6), none, none, none], [], (197, i, (zRF b), l)) = (zev sc (106, 0, [some (.ref 0), some (.int v3)], [], (197, i, (zRF b), l))).bind (fun x => zev sc (99, 21, [some (.ref 0), some (.int v1), some (.int v2), some (.int v3), some (.int v4), some (.int v5), some (.int v6), none, none, none], [x.1], x.2)) := by
  refine (ze_aload_n 17 zm99 dX9_frost_16 rfl rfl).trans ?_
  refine (ze_iload_n 18 zm99 dX9_frost_17 rfl rfl).trans ?_
  exact ze_virtI (as := [.int v3]) (rest := []) 21 zm99 dX9_frost_18 r9_202 zm106 rfl rfl k0_9 rfl rfl rfl rfl
theorem b99_21 (sc : zScr) (v1 : Int32) (v2 : Int32) (v3 : Int32) (v4 : Int32) (v5 : Int32) (v6 : Int32) (s0 : Int32) (i : Nat → Nat → Int32) (b : Bool) (l : Nat → Nat → Int64) : zev sc (99, 21, [some (.ref 0), some (.int v1), some (.int v2), some (.int v3), some (.int v4), some (.int v5), some (.int v6), none, none, none], [.int s0], (197, i, (zRF b), l)) = if s0 = 0 then zev sc (99, 32, [some (.ref 0), some (.int v1), some (.int v2), some (.int v3), some (.int v4), some (.int v5), some (.int v6), none, none, none], [], (197, i, (zRF b), l)) else zev sc (99, 24, [some (.ref 0), some (.int v1), some (.int v2), some (.int v3), some (.int v4), some (.int v5), some (.int v6), none, none, none], [], (197, i, (zRF b), l)) := by
  exact ze_if_eq 32 24 zm99 dX9_frost_21 (by decide) rfl
theorem b99_24 (sc : zScr) (v1 : Int32) (v2 : Int32) (v3 : Int32) (v4 : Int32) (v5 : Int32) (v6 : Int32) (i : Nat → Nat → Int32) (b : Bool) (l : Nat → Nat → Int64) : zev sc (99, 24, [some (.ref 0), some (.int v1), some (.int v2), some (.int v3), some (.int v4), some (.int v5), some (.int v6), none, none, none], [], (197, i, (zRF b), l)) = (zev sc (111, 0, [some (.int v6)], [], (197, i, (zRF b), l))).bind (fun x => zev sc (99, 29, [some (.ref 0), some (.int v1), some (.int v2), some (.int v3), some (.int v4), some (.int v5), some (.int v6), none, none, none], [x.1], x.2)) := by
  refine (ze_iload 26 zm99 dX9_frost_24 rfl rfl).trans ?_
  exact ze_statI (as := [.int v6]) (rest := []) 29 zm99 dX9_frost_26 r9_158 zm111 rfl rfl rfl rfl rfl rfl
theorem b99_29 (sc : zScr) (v1 : Int32) (v2 : Int32) (v3 : Int32) (v4 : Int32) (v5 : Int32) (v6 : Int32) (s0 : Int32) (i : Nat → Nat → Int32) (b : Bool) (l : Nat → Nat → Int64) : zev sc (99, 29, [some (.ref 0), some (.int v1), some (.int v2), some (.int v3), some (.int v4), some (.int v5), some (.int v6), none, none, none], [.int s0], (197, i, (zRF b), l)) = if s0 = 0 then zev sc (99, 32, [some (.ref 0), some (.int v1), some (.int v2), some (.int v3), some (.int v4), some (.int v5), some (.int v6), none, none, none], [], (197, i, (zRF b), l)) else zev sc (99, 34, [some (.ref 0), some (.int v1), some (.int v2), some (.int v3), some (.int v4), some (.int v5), some (.int v6), none, none, none], [], (197, i, (zRF b), l)) := by
  exact ze_if_ne 34 32 zm99 dX9_frost_29 (by decide) rfl
theorem b99_32 (sc : zScr) (v1 : Int32) (v2 : Int32) (v3 : Int32) (v4 : Int32) (v5 : Int32) (v6 : Int32) (i : Nat → Nat → Int32) (b : Bool) (l : Nat → Nat → Int64) : zev sc (99, 32, [some (.ref 0), some (.int v1), some (.int v2), some (.int v3), some (.int v4), some (.int v5), some (.int v6), none, none, none], [], (197, i, (zRF b), l)) = some (.int (-1 : Int32), (197, i, (zRF b), l)) := by
  refine (ze_iconst 33 zm99 dX9_frost_32 ci_m1 rfl).trans ?_
  exact ze_ireturn zm99 dX9_frost_33 rfl
theorem b99_34 (sc : zScr) (v1 : Int32) (v2 : Int32) (v3 : Int32) (v4 : Int32) (v5 : Int32) (v6 : Int32) (i : Nat → Nat → Int32) (b : Bool) (l : Nat → Nat → Int64) : zev sc (99, 34, [some (.ref 0), some (.int v1), some (.int v2), some (.int v3), some (.int v4), some (.int v5), some (.int v6), none, none, none], [], (197, i, (zRF b), l)) = if v4 < 0 then zev sc (99, 58, [some (.ref 0), some (.int v1), some (.int v2), some (.int v3), some (.int v4), some (.int v5), some (.int v6), none, none, none], [], (197, i, (zRF b), l)) else zev sc (99, 39, [some (.ref 0), some (.int v1), some (.int v2), some (.int v3), some (.int v4), some (.int v5), some (.int v6), none, none, none], [], (197, i, (zRF b), l)) := by
  refine (ze_iload 36 zm99 dX9_frost_34 rfl rfl).trans ?_
  exact ze_if_lt 58 39 zm99 dX9_frost_36 (by decide) rfl
theorem b99_39 (sc : zScr) (v1 : Int32) (v2 : Int32) (v3 : Int32) (v4 : Int32) (v5 : Int32) (v6 : Int32) (i : Nat → Nat → Int32) (b : Bool) (l : Nat → Nat → Int64) : zev sc (99, 39, [some (.ref 0), some (.int v1), some (.int v2), some (.int v3), some (.int v4), some (.int v5), some (.int v6), none, none, none], [], (197, i, (zRF b), l)) = if (40 : Int32) < v4 then zev sc (99, 58, [some (.ref 0), some (.int v1), some (.int v2), some (.int v3), some (.int v4), some (.int v5), some (.int v6), none, none, none], [], (197, i, (zRF b), l)) else zev sc (99, 46, [some (.ref 0), some (.int v1), some (.int v2), some (.int v3), some (.int v4), some (.int v5), some (.int v6), none, none, none], [], (197, i, (zRF b), l)) := by
  refine (ze_iload 41 zm99 dX9_frost_39 rfl rfl).trans ?_
  refine (ze_bipush 43 zm99 dX9_frost_41 cb_40 rfl).trans ?_
  exact ze_icmp_gt 58 46 zm99 dX9_frost_43 (by decide) rfl
theorem b99_46 (sc : zScr) (v1 : Int32) (v2 : Int32) (v3 : Int32) (v4 : Int32) (v5 : Int32) (v6 : Int32) (i : Nat → Nat → Int32) (b : Bool) (l : Nat → Nat → Int64) : zev sc (99, 46, [some (.ref 0), some (.int v1), some (.int v2), some (.int v3), some (.int v4), some (.int v5), some (.int v6), none, none, none], [], (197, i, (zRF b), l)) = if v5 < 0 then zev sc (99, 58, [some (.ref 0), some (.int v1), some (.int v2), some (.int v3), some (.int v4), some (.int v5), some (.int v6), none, none, none], [], (197, i, (zRF b), l)) else zev sc (99, 51, [some (.ref 0), some (.int v1), some (.int v2), some (.int v3), some (.int v4), some (.int v5), some (.int v6), none, none, none], [], (197, i, (zRF b), l)) := by
  refine (ze_iload 48 zm99 dX9_frost_46 rfl rfl).trans ?_
  exact ze_if_lt 58 51 zm99 dX9_frost_48 (by decide) rfl
theorem b99_51 (sc : zScr) (v1 : Int32) (v2 : Int32) (v3 : Int32) (v4 : Int32) (v5 : Int32) (v6 : Int32) (i : Nat → Nat → Int32) (b : Bool) (l : Nat → Nat → Int64) : zev sc (99, 51, [some (.ref 0), some (.int v1), some (.int v2), some (.int v3), some (.int v4), some (.int v5), some (.int v6), none, none, none], [], (197, i, (zRF b), l)) = if v5 ≤ (10 : Int32) then zev sc (99, 60, [some (.ref 0), some (.int v1), some (.int v2), some (.int v3), some (.int v4), some (.int v5), some (.int v6), none, none, none], [], (197, i, (zRF b), l)) else zev sc (99, 58, [some (.ref 0), some (.int v1), some (.int v2), some (.int v3), some (.int v4), some (.int v5), some (.int v6), none, none, none], [], (197, i, (zRF b), l)) := by
  refine (ze_iload 53 zm99 dX9_frost_51 rfl rfl).trans ?_
  refine (ze_bipush 55 zm99 dX9_frost_53 cb_10 rfl).trans ?_
  exact ze_icmp_le 60 58 zm99 dX9_frost_55 (by decide) rfl
theorem b99_58 (sc : zScr) (v1 : Int32) (v2 : Int32) (v3 : Int32) (v4 : Int32) (v5 : Int32) (v6 : Int32) (i : Nat → Nat → Int32) (b : Bool) (l : Nat → Nat → Int64) : zev sc (99, 58, [some (.ref 0), some (.int v1), some (.int v2), some (.int v3), some (.int v4), some (.int v5), some (.int v6), none, none, none], [], (197, i, (zRF b), l)) = some (.int (-1 : Int32), (197, i, (zRF b), l)) := by
  refine (ze_iconst 59 zm99 dX9_frost_58 ci_m1 rfl).trans ?_
  exact ze_ireturn zm99 dX9_frost_59 rfl
theorem b99_60 (sc : zScr) (v1 : Int32) (v2 : Int32) (v3 : Int32) (v4 : Int32) (v5 : Int32) (v6 : Int32) (i : Nat → Nat → Int32) (b : Bool) (l : Nat → Nat → Int64) : zev sc (99, 60, [some (.ref 0), some (.int v1), some (.int v2), some (.int v3), some (.int v4), some (.int v5), some (.int v6), none, none, none], [], (197, i, (zRF b), l)) = (zev sc (48, 0, [some (.ref 72), some (.int v1), some (.int v4), none], [], (197, i, (zRF b), l))).bind (fun x => zev sc (99, 70, [some (.ref 0), some (.int v1), some (.int v2), some (.int v3), some (.int v4), some (.int v5), some (.int v6), none, none, none], [x.1], x.2)) := by
  refine (ze_aload_n 61 zm99 dX9_frost_60 rfl rfl).trans ?_
  refine (ze_getR 64 zm99 dX9_frost_61 f9_67 k0_9 t9_8 (rr0_8 b) rfl).trans ?_
  refine (ze_iload_n 65 zm99 dX9_frost_64 rfl rfl).trans ?_
  refine (ze_iload 67 zm99 dX9_frost_65 rfl rfl).trans ?_
  exact ze_virtI (as := [.int v1, .int v4]) (rest := []) 70 zm99 dX9_frost_67 r9_242 zm48 rfl rfl k72_6 rfl rfl rfl rfl
theorem b99_70 (sc : zScr) (v1 : Int32) (v2 : Int32) (v3 : Int32) (v4 : Int32) (v5 : Int32) (v6 : Int32) (s0 : Int32) (i : Nat → Nat → Int32) (b : Bool) (l : Nat → Nat → Int64) : zev sc (99, 70, [some (.ref 0), some (.int v1), some (.int v2), some (.int v3), some (.int v4), some (.int v5), some (.int v6), none, none, none], [.int s0], (197, i, (zRF b), l)) = (zev sc (49, 0, [some (.ref 72), some (.int v2), some (.int v3), some (.int v5), none, none, none, none], [], (197, i, (zRF b), l))).bind (fun x => zev sc (99, 83, [some (.ref 0), some (.int v1), some (.int v2), some (.int v3), some (.int v4), some (.int v5), some (.int v6), some (.int s0), none, none], [x.1], x.2)) := by
  refine (ze_istore (A := 99) (ls' := [some (.ref 0), some (.int v1), some (.int v2), some (.int v3), some (.int v4), some (.int v5), some (.int v6), some (.int s0), none, none]) 72 zm99 dX9_frost_70 za99 rfl rfl rfl rfl rfl).trans ?_
  refine (ze_aload_n 73 zm99 dX9_frost_72 rfl rfl).trans ?_
  refine (ze_getR 76 zm99 dX9_frost_73 f9_67 k0_9 t9_8 (rr0_8 b) rfl).trans ?_
  refine (ze_iload_n 77 zm99 dX9_frost_76 rfl rfl).trans ?_
  refine (ze_iload_n 78 zm99 dX9_frost_77 rfl rfl).trans ?_
  refine (ze_iload 80 zm99 dX9_frost_78 rfl rfl).trans ?_
  exact ze_virtI (as := [.int v2, .int v3, .int v5]) (rest := []) 83 zm99 dX9_frost_80 r9_245 zm49 rfl rfl k72_6 rfl rfl rfl rfl
theorem b99_83 (sc : zScr) (v1 : Int32) (v2 : Int32) (v3 : Int32) (v4 : Int32) (v5 : Int32) (v6 : Int32) (v7 : Int32) (s0 : Int32) (i : Nat → Nat → Int32) (b : Bool) (l : Nat → Nat → Int64) : zev sc (99, 83, [some (.ref 0), some (.int v1), some (.int v2), some (.int v3), some (.int v4), some (.int v5), some (.int v6), some (.int v7), none, none], [.int s0], (197, i, (zRF b), l)) = (zev sc (53, 0, [some (.int s0), some (.int v7), none, none, none, none], [], (197, i, (zRF b), l))).bind (fun x => zev sc (99, 93, [some (.ref 0), some (.int v1), some (.int v2), some (.int v3), some (.int v4), some (.int v5), some (.int v6), some (.int v7), some (.int s0), none], [x.1, .int (1 : Int32)], x.2)) := by
  refine (ze_istore (A := 99) (ls' := [some (.ref 0), some (.int v1), some (.int v2), some (.int v3), some (.int v4), some (.int v5), some (.int v6), some (.int v7), some (.int s0), none]) 85 zm99 dX9_frost_83 za99 rfl rfl rfl rfl rfl).trans ?_
  refine (ze_iconst 86 zm99 dX9_frost_85 ci_1 rfl).trans ?_
  refine (ze_iload 88 zm99 dX9_frost_86 rfl rfl).trans ?_
  refine (ze_iload 90 zm99 dX9_frost_88 rfl rfl).trans ?_
  exact ze_statI (as := [.int s0, .int v7]) (rest := [.int (1 : Int32)]) 93 zm99 dX9_frost_90 r9_248 zm53 rfl rfl rfl rfl rfl rfl
theorem b99_93 (sc : zScr) (v1 : Int32) (v2 : Int32) (v3 : Int32) (v4 : Int32) (v5 : Int32) (v6 : Int32) (v7 : Int32) (v8 : Int32) (s0 : Int32) (s1 : Int32) (i : Nat → Nat → Int32) (b : Bool) (l : Nat → Nat → Int64) : zev sc (99, 93, [some (.ref 0), some (.int v1), some (.int v2), some (.int v3), some (.int v4), some (.int v5), some (.int v6), some (.int v7), some (.int v8), none], [.int s0, .int s1], (197, i, (zRF b), l)) = if v6 = 0 then zev sc (99, 103, [some (.ref 0), some (.int v1), some (.int v2), some (.int v3), some (.int v4), some (.int v5), some (.int v6), some (.int v7), some (.int v8), some (.int (if s1 < s0 then s0 else s1))], [], (197, i, (zRF b), l)) else zev sc (99, 108, [some (.ref 0), some (.int v1), some (.int v2), some (.int v3), some (.int v4), some (.int v5), some (.int v6), some (.int v7), some (.int v8), some (.int (if s1 < s0 then s0 else s1))], [], (197, i, (zRF b), l)) := by
  refine (ze_max 96 zm99 dX9_frost_93 r9_251 rfl rfl).trans ?_
  refine (ze_istore (A := 99) (ls' := [some (.ref 0), some (.int v1), some (.int v2), some (.int v3), some (.int v4), some (.int v5), some (.int v6), some (.int v7), some (.int v8), some (.int (if s1 < s0 then s0 else s1))]) 98 zm99 dX9_frost_96 za99 rfl rfl rfl rfl rfl).trans ?_
  refine (ze_iload 100 zm99 dX9_frost_98 rfl rfl).trans ?_
  exact ze_if_ne 108 103 zm99 dX9_frost_100 (by decide) rfl
theorem b99_103 (sc : zScr) (v1 : Int32) (v2 : Int32) (v3 : Int32) (v4 : Int32) (v5 : Int32) (v6 : Int32) (v7 : Int32) (v8 : Int32) (v9 : Int32) (i : Nat → Nat → Int32) (b : Bool) (l : Nat → Nat → Int64) : zev sc (99, 103, [some (.ref 0), some (.int v1), some (.int v2), some (.int v3), some (.int v4), some (.int v5), some (.int v6), some (.int v7), some (.int v8), some (.int v9)], [], (197, i, (zRF b), l)) = zev sc (99, 110, [some (.ref 0), some (.int v1), some (.int v2), some (.int v3), some (.int v4), some (.int v5), some (.int v6), some (.int v7), some (.int v8), some (.int v9)], [.int v8], (197, i, (zRF b), l)) := by
  refine (ze_iload 105 zm99 dX9_frost_103 rfl rfl).trans ?_
  exact ze_goto 110 zm99 dX9_frost_105 (by decide)
theorem b99_108 (sc : zScr) (v1 : Int32) (v2 : Int32) (v3 : Int32) (v4 : Int32) (v5 : Int32) (v6 : Int32) (v7 : Int32) (v8 : Int32) (v9 : Int32) (i : Nat → Nat → Int32) (b : Bool) (l : Nat → Nat → Int64) : zev sc (99, 108, [some (.ref 0), some (.int v1), some (.int v2), some (.int v3), some (.int v4), some (.int v5), some (.int v6), some (.int v7), some (.int v8), some (.int v9)], [], (197, i, (zRF b), l)) = zev sc (99, 110, [some (.ref 0), some (.int v1), some (.int v2), some (.int v3), some (.int v4), some (.int v5), some (.int v6), some (.int v7), some (.int v8), some (.int v9)], [.int v7], (197, i, (zRF b), l)) := by
  refine (ze_iload 110 zm99 dX9_frost_108 rfl rfl).trans ?_
  rfl
theorem b99_110 (sc : zScr) (v1 : Int32) (v2 : Int32) (v3 : Int32) (v4 : Int32) (v5 : Int32) (v6 : Int32) (v7 : Int32) (v8 : Int32) (v9 : Int32) (s0 : Int32) (i : Nat → Nat → Int32) (b : Bool) (l : Nat → Nat → Int64) (h1 : ¬ v9 = 0) : zev sc (99, 110, [some (.ref 0), some (.int v1), some (.int v2), some (.int v3), some (.int v4), some (.int v5), some (.int v6), some (.int v7), some (.int v8), some (.int v9)], [.int s0], (197, i, (zRF b), l)) = some (.int (s0 / v9), (197, i, (zRF b), l)) := by
  refine (ze_iload 112 zm99 dX9_frost_110 rfl rfl).trans ?_
  refine (ze_idiv 113 zm99 dX9_frost_112 h1 rfl).trans ?_
  exact ze_ireturn zm99 dX9_frost_113 rfl
/-! HarpFences.mark (II)I: method 100 -/
theorem b100_0 (sc : zScr) (v1 : Int32) (v2 : Int32) (i : Nat → Nat → Int32) (b : Bool) (l : Nat → Nat → Int64) : zev sc (100, 0, [some (.ref 0), some (.int v1), some (.int v2)], [], (197, i, (zRF b), l)) = (zev sc (107, 0, [some (.ref 0), some (.int v2)], [], (197, i, (zRF b), l))).bind (fun x => zev sc (100, 5, [some (.ref 0), some (.int v1), some (.int v2)], [x.1], x.2)) := by
  refine (ze_aload_n 1 zm100 dX9_mark_0 rfl rfl).trans ?_
  refine (ze_iload_n 2 zm100 dX9_mark_1 rfl rfl).trans ?_
  exact ze_virtI (as := [.int v2]) (rest := []) 5 zm100 dX9_mark_2 r9_101 zm107 rfl rfl k0_9 rfl rfl rfl rfl
theorem b100_5 (sc : zScr) (v1 : Int32) (v2 : Int32) (s0 : Int32) (i : Nat → Nat → Int32) (b : Bool) (l : Nat → Nat → Int64) : zev sc (100, 5, [some (.ref 0), some (.int v1), some (.int v2)], [.int s0], (197, i, (zRF b), l)) = if s0 = 0 then zev sc (100, 8, [some (.ref 0), some (.int v1), some (.int v2)], [], (197, i, (zRF b), l)) else zev sc (100, 11, [some (.ref 0), some (.int v1), some (.int v2)], [], (197, i, (zRF b), l)) := by
  exact ze_if_ne 11 8 zm100 dX9_mark_5 (by decide) rfl
theorem b100_8 (sc : zScr) (v1 : Int32) (v2 : Int32) (i : Nat → Nat → Int32) (b : Bool) (l : Nat → Nat → Int64) : zev sc (100, 8, [some (.ref 0), some (.int v1), some (.int v2)], [], (197, i, (zRF b), l)) = some (.int (-1000000 : Int32), (197, i, (zRF b), l)) := by
  refine (ze_ldc 10 zm100 dX9_mark_8 zi_9_123 rfl).trans ?_
  exact ze_ireturn zm100 dX9_mark_10 rfl
theorem b100_11 (sc : zScr) (v1 : Int32) (v2 : Int32) (i : Nat → Nat → Int32) (b : Bool) (l : Nat → Nat → Int64) : zev sc (100, 11, [some (.ref 0), some (.int v1), some (.int v2)], [], (197, i, (zRF b), l)) = zev sc (100, zcs v1 88 [((0 : Int32), 52), ((1 : Int32), 58), ((2 : Int32), 64), ((3 : Int32), 70), ((4 : Int32), 76), ((5 : Int32), 82)], [some (.ref 0), some (.int v1), some (.int v2)], [], (197, i, (zRF b), l)) := by
  refine (ze_iload_n 12 zm100 dX9_mark_11 rfl rfl).trans ?_
  exact ze_table zm100 dX9_mark_12 (sw_100_12 _)
theorem b100_52 (sc : zScr) (v1 : Int32) (v2 : Int32) (i : Nat → Nat → Int32) (b : Bool) (l : Nat → Nat → Int64) : zev sc (100, 52, [some (.ref 0), some (.int v1), some (.int v2)], [], (197, i, (zRF b), l)) = (zev sc (112, 0, [some (.ref 0), some (.int v2)], [], (197, i, (zRF b), l))).bind (fun x => zev sc (100, 57, [some (.ref 0), some (.int v1), some (.int v2)], [x.1], x.2)) := by
  refine (ze_aload_n 53 zm100 dX9_mark_52 rfl rfl).trans ?_
  refine (ze_iload_n 54 zm100 dX9_mark_53 rfl rfl).trans ?_
  exact ze_virtI (as := [.int v2]) (rest := []) 57 zm100 dX9_mark_54 r9_256 zm112 rfl rfl k0_9 rfl rfl rfl rfl
theorem b100_57 (sc : zScr) (v1 : Int32) (v2 : Int32) (s0 : Int32) (i : Nat → Nat → Int32) (b : Bool) (l : Nat → Nat → Int64) : zev sc (100, 57, [some (.ref 0), some (.int v1), some (.int v2)], [.int s0], (197, i, (zRF b), l)) = some (.int s0, (197, i, (zRF b), l)) := by
  exact ze_ireturn zm100 dX9_mark_57 rfl
theorem b100_58 (sc : zScr) (v1 : Int32) (v2 : Int32) (i : Nat → Nat → Int32) (b : Bool) (l : Nat → Nat → Int64) : zev sc (100, 58, [some (.ref 0), some (.int v1), some (.int v2)], [], (197, i, (zRF b), l)) = (zev sc (113, 0, [some (.ref 0), some (.int v2)], [], (197, i, (zRF b), l))).bind (fun x => zev sc (100, 63, [some (.ref 0), some (.int v1), some (.int v2)], [x.1], x.2)) := by
  refine (ze_aload_n 59 zm100 dX9_mark_58 rfl rfl).trans ?_
  refine (ze_iload_n 60 zm100 dX9_mark_59 rfl rfl).trans ?_
  exact ze_virtI (as := [.int v2]) (rest := []) 63 zm100 dX9_mark_60 r9_259 zm113 rfl rfl k0_9 rfl rfl rfl rfl
theorem b100_63 (sc : zScr) (v1 : Int32) (v2 : Int32) (s0 : Int32) (i : Nat → Nat → Int32) (b : Bool) (l : Nat → Nat → Int64) : zev sc (100, 63, [some (.ref 0), some (.int v1), some (.int v2)], [.int s0], (197, i, (zRF b), l)) = some (.int s0, (197, i, (zRF b), l)) := by
  exact ze_ireturn zm100 dX9_mark_63 rfl
theorem b100_64 (sc : zScr) (v1 : Int32) (v2 : Int32) (i : Nat → Nat → Int32) (b : Bool) (l : Nat → Nat → Int64) : zev sc (100, 64, [some (.ref 0), some (.int v1), some (.int v2)], [], (197, i, (zRF b), l)) = (zev sc (114, 0, [some (.ref 0), some (.int v2)], [], (197, i, (zRF b), l))).bind (fun x => zev sc (100, 69, [some (.ref 0), some (.int v1), some (.int v2)], [x.1], x.2)) := by
  refine (ze_aload_n 65 zm100 dX9_mark_64 rfl rfl).trans ?_
  refine (ze_iload_n 66 zm100 dX9_mark_65 rfl rfl).trans ?_
  exact ze_virtI (as := [.int v2]) (rest := []) 69 zm100 dX9_mark_66 r9_262 zm114 rfl rfl k0_9 rfl rfl rfl rfl
theorem b100_69 (sc : zScr) (v1 : Int32) (v2 : Int32) (s0 : Int32) (i : Nat → Nat → Int32) (b : Bool) (l : Nat → Nat → Int64) : zev sc (100, 69, [some (.ref 0), some (.int v1), some (.int v2)], [.int s0], (197, i, (zRF b), l)) = some (.int s0, (197, i, (zRF b), l)) := by
  exact ze_ireturn zm100 dX9_mark_69 rfl
theorem b100_70 (sc : zScr) (v1 : Int32) (v2 : Int32) (i : Nat → Nat → Int32) (b : Bool) (l : Nat → Nat → Int64) : zev sc (100, 70, [some (.ref 0), some (.int v1), some (.int v2)], [], (197, i, (zRF b), l)) = (zev sc (115, 0, [some (.ref 0), some (.int v2)], [], (197, i, (zRF b), l))).bind (fun x => zev sc (100, 75, [some (.ref 0), some (.int v1), some (.int v2)], [x.1], x.2)) := by
  refine (ze_aload_n 71 zm100 dX9_mark_70 rfl rfl).trans ?_
  refine (ze_iload_n 72 zm100 dX9_mark_71 rfl rfl).trans ?_
  exact ze_virtI (as := [.int v2]) (rest := []) 75 zm100 dX9_mark_72 r9_265 zm115 rfl rfl k0_9 rfl rfl rfl rfl
theorem b100_75 (sc : zScr) (v1 : Int32) (v2 : Int32) (s0 : Int32) (i : Nat → Nat → Int32) (b : Bool) (l : Nat → Nat → Int64) : zev sc (100, 75, [some (.ref 0), some (.int v1), some (.int v2)], [.int s0], (197, i, (zRF b), l)) = some (.int s0, (197, i, (zRF b), l)) := by
  exact ze_ireturn zm100 dX9_mark_75 rfl
theorem b100_76 (sc : zScr) (v1 : Int32) (v2 : Int32) (i : Nat → Nat → Int32) (b : Bool) (l : Nat → Nat → Int64) : zev sc (100, 76, [some (.ref 0), some (.int v1), some (.int v2)], [], (197, i, (zRF b), l)) = (zev sc (116, 0, [some (.ref 0), some (.int v2)], [], (197, i, (zRF b), l))).bind (fun x => zev sc (100, 81, [some (.ref 0), some (.int v1), some (.int v2)], [x.1], x.2)) := by
  refine (ze_aload_n 77 zm100 dX9_mark_76 rfl rfl).trans ?_
  refine (ze_iload_n 78 zm100 dX9_mark_77 rfl rfl).trans ?_
  exact ze_virtI (as := [.int v2]) (rest := []) 81 zm100 dX9_mark_78 r9_268 zm116 rfl rfl k0_9 rfl rfl rfl rfl
theorem b100_81 (sc : zScr) (v1 : Int32) (v2 : Int32) (s0 : Int32) (i : Nat → Nat → Int32) (b : Bool) (l : Nat → Nat → Int64) : zev sc (100, 81, [some (.ref 0), some (.int v1), some (.int v2)], [.int s0], (197, i, (zRF b), l)) = some (.int s0, (197, i, (zRF b), l)) := by
  exact ze_ireturn zm100 dX9_mark_81 rfl
theorem b100_82 (sc : zScr) (v1 : Int32) (v2 : Int32) (i : Nat → Nat → Int32) (b : Bool) (l : Nat → Nat → Int64) : zev sc (100, 82, [some (.ref 0), some (.int v1), some (.int v2)], [], (197, i, (zRF b), l)) = (zev sc (117, 0, [some (.ref 0), some (.int v2)], [], (197, i, (zRF b), l))).bind (fun x => zev sc (100, 87, [some (.ref 0), some (.int v1), some (.int v2)], [x.1], x.2)) := by
  refine (ze_aload_n 83 zm100 dX9_mark_82 rfl rfl).trans ?_
  refine (ze_iload_n 84 zm100 dX9_mark_83 rfl rfl).trans ?_
  exact ze_virtI (as := [.int v2]) (rest := []) 87 zm100 dX9_mark_84 r9_271 zm117 rfl rfl k0_9 rfl rfl rfl rfl
theorem b100_87 (sc : zScr) (v1 : Int32) (v2 : Int32) (s0 : Int32) (i : Nat → Nat → Int32) (b : Bool) (l : Nat → Nat → Int64) : zev sc (100, 87, [some (.ref 0), some (.int v1), some (.int v2)], [.int s0], (197, i, (zRF b), l)) = some (.int s0, (197, i, (zRF b), l)) := by
  exact ze_ireturn zm100 dX9_mark_87 rfl
theorem b100_88 (sc : zScr) (v1 : Int32) (v2 : Int32) (i : Nat → Nat → Int32) (b : Bool) (l : Nat → Nat → Int64) : zev sc (100, 88, [some (.ref 0), some (.int v1), some (.int v2)], [], (197, i, (zRF b), l)) = some (.int (-1000000 : Int32), (197, i, (zRF b), l)) := by
  refine (ze_ldc 90 zm100 dX9_mark_88 zi_9_123 rfl).trans ?_
  exact ze_ireturn zm100 dX9_mark_90 rfl
/-! HarpFences.keep (I)I: method 101 -/
theorem b101_0 (sc : zScr) (v1 : Int32) (i : Nat → Nat → Int32) (b : Bool) (l : Nat → Nat → Int64) : zev sc (101, 0, [some (.ref 0), some (.int v1)], [], (197, i, (zRF b), l)) = (zev sc (110, 0, [some (.int v1)], [], (197, i, (zRF b), l))).bind (fun x => zev sc (101, 4, [some (.ref 0), some (.int v1)], [x.1], x.2)) := by
  refine (ze_iload_n 1 zm101 dX9_keep_0 rfl rfl).trans ?_
  exact ze_statI (as := [.int v1]) (rest := []) 4 zm101 dX9_keep_1 r9_274 zm110 rfl rfl rfl rfl rfl rfl
theorem b101_4 (sc : zScr) (v1 : Int32) (s0 : Int32) (i : Nat → Nat → Int32) (b : Bool) (l : Nat → Nat → Int64) : zev sc (101, 4, [some (.ref 0), some (.int v1)], [.int s0], (197, i, (zRF b), l)) = if s0 = 0 then zev sc (101, 7, [some (.ref 0), some (.int v1)], [], (197, i, (zRF b), l)) else zev sc (101, 9, [some (.ref 0), some (.int v1)], [], (197, i, (zRF b), l)) := by
  exact ze_if_ne 9 7 zm101 dX9_keep_4 (by decide) rfl
theorem b101_7 (sc : zScr) (v1 : Int32) (i : Nat → Nat → Int32) (b : Bool) (l : Nat → Nat → Int64) : zev sc (101, 7, [some (.ref 0), some (.int v1)], [], (197, i, (zRF b), l)) = some (.int (-1 : Int32), (197, i, (zRF b), l)) := by
  refine (ze_iconst 8 zm101 dX9_keep_7 ci_m1 rfl).trans ?_
  exact ze_ireturn zm101 dX9_keep_8 rfl
theorem b101_9 (sc : zScr) (v1 : Int32) (q1 : Nat) (i : Nat → Nat → Int32) (b : Bool) (l : Nat → Nat → Int64) (h1 : vp_in v1 2) (h2 : zRF b 66 v1.toNatClampNeg = some q1) (h3 : zok 197 q1 3 = true) : zev sc (101, 9, [some (.ref 0), some (.int v1)], [], (197, i, (zRF b), l)) = (zev sc (30, 0, [some (.ref q1), some (.ref 19), some (.ref 24)], [], (197, i, (zRF b), l))).bind (fun x => zev sc (101, 26, [some (.ref 0), some (.int v1)], [], x.2)) := by
  refine (ze_aload_n 10 zm101 dX9_keep_9 rfl rfl).trans ?_
  refine (ze_getR 13 zm101 dX9_keep_10 f9_51 k0_9 t9_6 (rr0_6 b) rfl).trans ?_
  refine (ze_iload_n 14 zm101 dX9_keep_13 rfl rfl).trans ?_
  refine (ze_aaload (t := v1.toNatClampNeg) (q := q1) 15 zm101 dX9_keep_14 (Or.inr k66_104) n66 h1 rfl h2 rfl).trans ?_
  refine (ze_aload_n 16 zm101 dX9_keep_15 rfl rfl).trans ?_
  refine (ze_getR 19 zm101 dX9_keep_16 f9_29 k0_9 t9_3 (rr0_3 b) rfl).trans ?_
  refine (ze_aload_n 20 zm101 dX9_keep_19 rfl rfl).trans ?_
  refine (ze_getR 23 zm101 dX9_keep_20 f9_45 k0_9 t9_5 (rr0_5 b) rfl).trans ?_
  exact ze_virtV (as := [.ref 19, .ref 24]) (rest := []) 26 zm101 dX9_keep_23 r9_277 zm30 rfl rfl h3 rfl rfl rfl rfl
theorem b101_26 (sc : zScr) (v1 : Int32) (i : Nat → Nat → Int32) (b : Bool) (l : Nat → Nat → Int64) : zev sc (101, 26, [some (.ref 0), some (.int v1)], [], (197, i, (zRF b), l)) = some (.int (i 19 6), (197, i, (zRF b), l)) := by
  refine (ze_aload_n 27 zm101 dX9_keep_26 rfl rfl).trans ?_
  refine (ze_getR 30 zm101 dX9_keep_27 f9_29 k0_9 t9_3 (rr0_3 b) rfl).trans ?_
  refine (ze_getI 33 zm101 dX9_keep_30 f9_170 k19_7 (Or.inl t7_6) rfl).trans ?_
  exact ze_ireturn zm101 dX9_keep_33 rfl
/-! HarpFences.back (I)I: method 102 -/
theorem b102_0 (sc : zScr) (v1 : Int32) (i : Nat → Nat → Int32) (b : Bool) (l : Nat → Nat → Int64) : zev sc (102, 0, [some (.ref 0), some (.int v1)], [], (197, i, (zRF b), l)) = (zev sc (110, 0, [some (.int v1)], [], (197, i, (zRF b), l))).bind (fun x => zev sc (102, 4, [some (.ref 0), some (.int v1)], [x.1], x.2)) := by
  refine (ze_iload_n 1 zm102 dX9_back_0 rfl rfl).trans ?_
  exact ze_statI (as := [.int v1]) (rest := []) 4 zm102 dX9_back_1 r9_274 zm110 rfl rfl rfl rfl rfl rfl
theorem b102_4 (sc : zScr) (v1 : Int32) (s0 : Int32) (i : Nat → Nat → Int32) (b : Bool) (l : Nat → Nat → Int64) : zev sc (102, 4, [some (.ref 0), some (.int v1)], [.int s0], (197, i, (zRF b), l)) = if s0 = 0 then zev sc (102, 7, [some (.ref 0), some (.int v1)], [], (197, i, (zRF b), l)) else zev sc (102, 9, [some (.ref 0), some (.int v1)], [], (197, i, (zRF b), l)) := by
  exact ze_if_ne 9 7 zm102 dX9_back_4 (by decide) rfl
theorem b102_7 (sc : zScr) (v1 : Int32) (i : Nat → Nat → Int32) (b : Bool) (l : Nat → Nat → Int64) : zev sc (102, 7, [some (.ref 0), some (.int v1)], [], (197, i, (zRF b), l)) = some (.int (-1 : Int32), (197, i, (zRF b), l)) := by
  refine (ze_iconst 8 zm102 dX9_back_7 ci_m1 rfl).trans ?_
  exact ze_ireturn zm102 dX9_back_8 rfl
theorem b102_9 (sc : zScr) (v1 : Int32) (q1 : Nat) (i : Nat → Nat → Int32) (b : Bool) (l : Nat → Nat → Int64) (h1 : vp_in v1 2) (h2 : zRF b 66 v1.toNatClampNeg = some q1) (h3 : zok 197 q1 3 = true) : zev sc (102, 9, [some (.ref 0), some (.int v1)], [], (197, i, (zRF b), l)) = if (i q1 2) = 0 then zev sc (102, 21, [some (.ref 0), some (.int v1)], [], (197, i, (zRF b), l)) else zev sc (102, 24, [some (.ref 0), some (.int v1)], [], (197, i, (zRF b), l)) := by
  refine (ze_aload_n 10 zm102 dX9_back_9 rfl rfl).trans ?_
  refine (ze_getR 13 zm102 dX9_back_10 f9_51 k0_9 t9_6 (rr0_6 b) rfl).trans ?_
  refine (ze_iload_n 14 zm102 dX9_back_13 rfl rfl).trans ?_
  refine (ze_aaload (t := v1.toNatClampNeg) (q := q1) 15 zm102 dX9_back_14 (Or.inr k66_104) n66 h1 rfl h2 rfl).trans ?_
  refine (ze_getI 18 zm102 dX9_back_15 f9_281 h3 (Or.inr t3_2) rfl).trans ?_
  exact ze_if_ne 24 21 zm102 dX9_back_18 (by decide) rfl
theorem b102_21 (sc : zScr) (v1 : Int32) (i : Nat → Nat → Int32) (b : Bool) (l : Nat → Nat → Int64) : zev sc (102, 21, [some (.ref 0), some (.int v1)], [], (197, i, (zRF b), l)) = some (.int (-2 : Int32), (197, i, (zRF b), l)) := by
  refine (ze_bipush 23 zm102 dX9_back_21 cb_m2 rfl).trans ?_
  exact ze_ireturn zm102 dX9_back_23 rfl
theorem b102_24 (sc : zScr) (v1 : Int32) (q1 : Nat) (i : Nat → Nat → Int32) (b : Bool) (l : Nat → Nat → Int64) (h1 : vp_in v1 2) (h2 : zRF b 66 v1.toNatClampNeg = some q1) (h3 : zok 197 q1 3 = true) : zev sc (102, 24, [some (.ref 0), some (.int v1)], [], (197, i, (zRF b), l)) = (zev sc (31, 0, [some (.ref q1), some (.ref 19), some (.ref 24)], [], (197, i, (zRF b), l))).bind (fun x => zev sc (102, 41, [some (.ref 0), some (.int v1)], [], x.2)) := by
  refine (ze_aload_n 25 zm102 dX9_back_24 rfl rfl).trans ?_
  refine (ze_getR 28 zm102 dX9_back_25 f9_51 k0_9 t9_6 (rr0_6 b) rfl).trans ?_
  refine (ze_iload_n 29 zm102 dX9_back_28 rfl rfl).trans ?_
  refine (ze_aaload (t := v1.toNatClampNeg) (q := q1) 30 zm102 dX9_back_29 (Or.inr k66_104) n66 h1 rfl h2 rfl).trans ?_
  refine (ze_aload_n 31 zm102 dX9_back_30 rfl rfl).trans ?_
  refine (ze_getR 34 zm102 dX9_back_31 f9_29 k0_9 t9_3 (rr0_3 b) rfl).trans ?_
  refine (ze_aload_n 35 zm102 dX9_back_34 rfl rfl).trans ?_
  refine (ze_getR 38 zm102 dX9_back_35 f9_45 k0_9 t9_5 (rr0_5 b) rfl).trans ?_
  exact ze_virtV (as := [.ref 19, .ref 24]) (rest := []) 41 zm102 dX9_back_38 r9_285 zm31 rfl rfl h3 rfl rfl rfl rfl
theorem b102_41 (sc : zScr) (v1 : Int32) (i : Nat → Nat → Int32) (b : Bool) (l : Nat → Nat → Int64) : zev sc (102, 41, [some (.ref 0), some (.int v1)], [], (197, i, (zRF b), l)) = some (.int (i 19 6), (197, i, (zRF b), l)) := by
  refine (ze_aload_n 42 zm102 dX9_back_41 rfl rfl).trans ?_
  refine (ze_getR 45 zm102 dX9_back_42 f9_29 k0_9 t9_3 (rr0_3 b) rfl).trans ?_
  refine (ze_getI 48 zm102 dX9_back_45 f9_170 k19_7 (Or.inl t7_6) rfl).trans ?_
  exact ze_ireturn zm102 dX9_back_48 rfl
/-! HarpFences.count (I)I: method 103 -/
theorem b103_0 (sc : zScr) (v1 : Int32) (i : Nat → Nat → Int32) (b : Bool) (l : Nat → Nat → Int64) : zev sc (103, 0, [some (.ref 0), some (.int v1)], [], (197, i, (zRF b), l)) = zev sc (103, zcs v1 100 [((0 : Int32), 44), ((1 : Int32), 52), ((2 : Int32), 60), ((3 : Int32), 68), ((4 : Int32), 76), ((5 : Int32), 84), ((6 : Int32), 92)], [some (.ref 0), some (.int v1)], [], (197, i, (zRF b), l)) := by
  refine (ze_iload_n 1 zm103 dX9_count_0 rfl rfl).trans ?_
  exact ze_table zm103 dX9_count_1 (sw_103_1 _)
theorem b103_44 (sc : zScr) (v1 : Int32) (i : Nat → Nat → Int32) (b : Bool) (l : Nat → Nat → Int64) : zev sc (103, 44, [some (.ref 0), some (.int v1)], [], (197, i, (zRF b), l)) = some (.int (i 3 0), (197, i, (zRF b), l)) := by
  refine (ze_aload_n 45 zm103 dX9_count_44 rfl rfl).trans ?_
  refine (ze_getR 48 zm103 dX9_count_45 f9_19 k0_9 t9_1 (rr0_1 b) rfl).trans ?_
  refine (ze_getI 51 zm103 dX9_count_48 f9_233 k3_4 (Or.inl t4_0) rfl).trans ?_
  exact ze_ireturn zm103 dX9_count_51 rfl
theorem b103_52 (sc : zScr) (v1 : Int32) (i : Nat → Nat → Int32) (b : Bool) (l : Nat → Nat → Int64) : zev sc (103, 52, [some (.ref 0), some (.int v1)], [], (197, i, (zRF b), l)) = some (.int (i 3 1), (197, i, (zRF b), l)) := by
  refine (ze_aload_n 53 zm103 dX9_count_52 rfl rfl).trans ?_
  refine (ze_getR 56 zm103 dX9_count_53 f9_19 k0_9 t9_1 (rr0_1 b) rfl).trans ?_
  refine (ze_getI 59 zm103 dX9_count_56 f9_167 k3_4 (Or.inl t4_1) rfl).trans ?_
  exact ze_ireturn zm103 dX9_count_59 rfl
theorem b103_60 (sc : zScr) (v1 : Int32) (i : Nat → Nat → Int32) (b : Bool) (l : Nat → Nat → Int64) : zev sc (103, 60, [some (.ref 0), some (.int v1)], [], (197, i, (zRF b), l)) = some (.int (i 3 5), (197, i, (zRF b), l)) := by
  refine (ze_aload_n 61 zm103 dX9_count_60 rfl rfl).trans ?_
  refine (ze_getR 64 zm103 dX9_count_61 f9_19 k0_9 t9_1 (rr0_1 b) rfl).trans ?_
  refine (ze_getI 67 zm103 dX9_count_64 f9_288 k3_4 (Or.inl t4_5) rfl).trans ?_
  exact ze_ireturn zm103 dX9_count_67 rfl
theorem b103_68 (sc : zScr) (v1 : Int32) (i : Nat → Nat → Int32) (b : Bool) (l : Nat → Nat → Int64) : zev sc (103, 68, [some (.ref 0), some (.int v1)], [], (197, i, (zRF b), l)) = some (.int (i 3 8), (197, i, (zRF b), l)) := by
  refine (ze_aload_n 69 zm103 dX9_count_68 rfl rfl).trans ?_
  refine (ze_getR 72 zm103 dX9_count_69 f9_19 k0_9 t9_1 (rr0_1 b) rfl).trans ?_
  refine (ze_getI 75 zm103 dX9_count_72 f9_230 k3_4 (Or.inl t4_8) rfl).trans ?_
  exact ze_ireturn zm103 dX9_count_75 rfl
theorem b103_76 (sc : zScr) (v1 : Int32) (i : Nat → Nat → Int32) (b : Bool) (l : Nat → Nat → Int64) : zev sc (103, 76, [some (.ref 0), some (.int v1)], [], (197, i, (zRF b), l)) = some (.int (i 67 6), (197, i, (zRF b), l)) := by
  refine (ze_aload_n 77 zm103 dX9_count_76 rfl rfl).trans ?_
  refine (ze_getR 80 zm103 dX9_count_77 f9_60 k0_9 t9_7 (rr0_7 b) rfl).trans ?_
  refine (ze_getI 83 zm103 dX9_count_80 f9_199 k67_2 (Or.inl t2_6) rfl).trans ?_
  exact ze_ireturn zm103 dX9_count_83 rfl
theorem b103_84 (sc : zScr) (v1 : Int32) (i : Nat → Nat → Int32) (b : Bool) (l : Nat → Nat → Int64) : zev sc (103, 84, [some (.ref 0), some (.int v1)], [], (197, i, (zRF b), l)) = some (.int (i 24 2), (197, i, (zRF b), l)) := by
  refine (ze_aload_n 85 zm103 dX9_count_84 rfl rfl).trans ?_
  refine (ze_getR 88 zm103 dX9_count_85 f9_45 k0_9 t9_5 (rr0_5 b) rfl).trans ?_
  refine (ze_getI 91 zm103 dX9_count_88 f9_173 k24_5 (Or.inl t5_2) rfl).trans ?_
  exact ze_ireturn zm103 dX9_count_91 rfl
theorem b103_92 (sc : zScr) (v1 : Int32) (i : Nat → Nat → Int32) (b : Bool) (l : Nat → Nat → Int64) : zev sc (103, 92, [some (.ref 0), some (.int v1)], [], (197, i, (zRF b), l)) = some (.int (i 1 1), (197, i, (zRF b), l)) := by
  refine (ze_aload_n 93 zm103 dX9_count_92 rfl rfl).trans ?_
  refine (ze_getR 96 zm103 dX9_count_93 f9_10 k0_9 t9_0 (rr0_0 b) rfl).trans ?_
  refine (ze_getI 99 zm103 dX9_count_96 f9_89 k1_8 (Or.inl t8_1) rfl).trans ?_
  exact ze_ireturn zm103 dX9_count_99 rfl
theorem b103_100 (sc : zScr) (v1 : Int32) (i : Nat → Nat → Int32) (b : Bool) (l : Nat → Nat → Int64) : zev sc (103, 100, [some (.ref 0), some (.int v1)], [], (197, i, (zRF b), l)) = some (.int (-1 : Int32), (197, i, (zRF b), l)) := by
  refine (ze_iconst 101 zm103 dX9_count_100 ci_m1 rfl).trans ?_
  exact ze_ireturn zm103 dX9_count_101 rfl
/-! HarpFences.trace ()J: method 104 -/
theorem b104_0 (sc : zScr) (i : Nat → Nat → Int32) (b : Bool) (l : Nat → Nat → Int64) : zev sc (104, 0, [some (.ref 0)], [], (197, i, (zRF b), l)) = some (.long (l 0 10), (197, i, (zRF b), l)) := by
  refine (ze_aload_n 1 zm104 dX9_trace_0 rfl rfl).trans ?_
  refine (ze_getL 4 zm104 dX9_trace_1 f9_291 k0_9 t9_10 rfl).trans ?_
  exact ze_lreturn zm104 dX9_trace_4 rfl
/-! HarpFences.beginAnew ()V: method 105 -/
theorem b105_0 (sc : zScr) (i : Nat → Nat → Int32) (b : Bool) (l : Nat → Nat → Int64) : zev sc (105, 0, [some (.ref 0), none], [], (197, i, (zRF b), l)) = (zev sc (55, 0, [some (.ref 19), some (.ref 3)], [], (197, i, (zRF b), l))).bind (fun x => zev sc (105, 11, [some (.ref 0), none], [], x.2)) := by
  refine (ze_aload_n 1 zm105 dX9_beginAnew_0 rfl rfl).trans ?_
  refine (ze_getR 4 zm105 dX9_beginAnew_1 f9_29 k0_9 t9_3 (rr0_3 b) rfl).trans ?_
  refine (ze_aload_n 5 zm105 dX9_beginAnew_4 rfl rfl).trans ?_
  refine (ze_getR 8 zm105 dX9_beginAnew_5 f9_19 k0_9 t9_1 (rr0_1 b) rfl).trans ?_
  exact ze_virtV (as := [.ref 3]) (rest := []) 11 zm105 dX9_beginAnew_8 r9_295 zm55 rfl rfl k19_7 rfl rfl rfl rfl
theorem b105_11 (sc : zScr) (i : Nat → Nat → Int32) (b : Bool) (l : Nat → Nat → Int64) : zev sc (105, 11, [some (.ref 0), none], [], (197, i, (zRF b), l)) = zev sc (105, 29, [some (.ref 0), some (.int (0 : Int32))], [], (197, (zU (zU i 24 2 (0 : Int32)) 67 6 (0 : Int32)), (zRF b), l)) := by
  refine (ze_aload_n 12 zm105 dX9_beginAnew_11 rfl rfl).trans ?_
  refine (ze_getR 15 zm105 dX9_beginAnew_12 f9_45 k0_9 t9_5 (rr0_5 b) rfl).trans ?_
  refine (ze_iconst 16 zm105 dX9_beginAnew_15 ci_0 rfl).trans ?_
  refine (ze_putI 19 zm105 dX9_beginAnew_16 f9_173 k24_5 (Or.inl fn5_2) t5_2 rfl).trans ?_
  refine (ze_aload_n 20 zm105 dX9_beginAnew_19 rfl rfl).trans ?_
  refine (ze_getR 23 zm105 dX9_beginAnew_20 f9_60 k0_9 t9_7 (rr0_7 b) rfl).trans ?_
  refine (ze_iconst 24 zm105 dX9_beginAnew_23 ci_0 rfl).trans ?_
  refine (ze_putI 27 zm105 dX9_beginAnew_24 f9_199 k67_2 (Or.inl fn2_6) t2_6 rfl).trans ?_
  refine (ze_iconst 28 zm105 dX9_beginAnew_27 ci_0 rfl).trans ?_
  refine (ze_istore_n (A := 99) (ls' := [some (.ref 0), some (.int (0 : Int32))]) 29 zm105 dX9_beginAnew_28 za105 rfl rfl rfl rfl rfl).trans ?_
  rfl
theorem b105_29 (sc : zScr) (v1 : Int32) (i : Nat → Nat → Int32) (b : Bool) (l : Nat → Nat → Int64) : zev sc (105, 29, [some (.ref 0), some (.int v1)], [], (197, i, (zRF b), l)) = if (2 : Int32) ≤ v1 then zev sc (105, 50, [some (.ref 0), some (.int v1)], [], (197, i, (zRF b), l)) else zev sc (105, 34, [some (.ref 0), some (.int v1)], [], (197, i, (zRF b), l)) := by
  refine (ze_iload_n 30 zm105 dX9_beginAnew_29 rfl rfl).trans ?_
  refine (ze_iconst 31 zm105 dX9_beginAnew_30 ci_2 rfl).trans ?_
  exact ze_icmp_ge 50 34 zm105 dX9_beginAnew_31 (by decide) rfl
theorem b105_34 (sc : zScr) (v1 : Int32) (q1 : Nat) (i : Nat → Nat → Int32) (b : Bool) (l : Nat → Nat → Int64) (h1 : vp_in v1 2) (h2 : zRF b 66 v1.toNatClampNeg = some q1) (h3 : zok 197 q1 3 = true) : zev sc (105, 34, [some (.ref 0), some (.int v1)], [], (197, i, (zRF b), l)) = zev sc (105, 29, [some (.ref 0), some (.int (v1 + 1))], [], (197, (zU i q1 2 (0 : Int32)), (zRF b), l)) := by
  refine (ze_aload_n 35 zm105 dX9_beginAnew_34 rfl rfl).trans ?_
  refine (ze_getR 38 zm105 dX9_beginAnew_35 f9_51 k0_9 t9_6 (rr0_6 b) rfl).trans ?_
  refine (ze_iload_n 39 zm105 dX9_beginAnew_38 rfl rfl).trans ?_
  refine (ze_aaload (t := v1.toNatClampNeg) (q := q1) 40 zm105 dX9_beginAnew_39 (Or.inr k66_104) n66 h1 rfl h2 rfl).trans ?_
  refine (ze_iconst 41 zm105 dX9_beginAnew_40 ci_0 rfl).trans ?_
  refine (ze_putZ 44 zm105 dX9_beginAnew_41 f9_281 h3 (Or.inl fn3_2) t3_2 (Or.inl rfl) rfl).trans ?_
  refine (ze_iinc (v := (1 : Int32)) (A := 99) (ls' := [some (.ref 0), some (.int (v1 + 1))]) 47 zm105 dX9_beginAnew_44 rfl ci_1 za105 rfl rfl rfl rfl rfl).trans ?_
  exact ze_goto 29 zm105 dX9_beginAnew_47 (by decide)
theorem b105_50 (sc : zScr) (v1 : Int32) (i : Nat → Nat → Int32) (b : Bool) (l : Nat → Nat → Int64) : zev sc (105, 50, [some (.ref 0), some (.int v1)], [], (197, i, (zRF b), l)) = some (.null, (197, i, (zRF b), l)) := by
  exact ze_return zm105 dX9_beginAnew_50 rfl
/-! HarpFences.isField (I)Z: method 106 -/
theorem b106_0 (sc : zScr) (v1 : Int32) (i : Nat → Nat → Int32) (b : Bool) (l : Nat → Nat → Int64) : zev sc (106, 0, [some (.ref 0), some (.int v1)], [], (197, i, (zRF b), l)) = if v1 < 0 then zev sc (106, 19, [some (.ref 0), some (.int v1)], [], (197, i, (zRF b), l)) else zev sc (106, 4, [some (.ref 0), some (.int v1)], [], (197, i, (zRF b), l)) := by
  refine (ze_iload_n 1 zm106 dX9_isField_0 rfl rfl).trans ?_
  exact ze_if_lt 19 4 zm106 dX9_isField_1 (by decide) rfl
theorem b106_4 (sc : zScr) (v1 : Int32) (i : Nat → Nat → Int32) (b : Bool) (l : Nat → Nat → Int64) : zev sc (106, 4, [some (.ref 0), some (.int v1)], [], (197, i, (zRF b), l)) = if (i 3 0) ≤ v1 then zev sc (106, 19, [some (.ref 0), some (.int v1)], [], (197, i, (zRF b), l)) else zev sc (106, 15, [some (.ref 0), some (.int v1)], [], (197, i, (zRF b), l)) := by
  refine (ze_iload_n 5 zm106 dX9_isField_4 rfl rfl).trans ?_
  refine (ze_aload_n 6 zm106 dX9_isField_5 rfl rfl).trans ?_
  refine (ze_getR 9 zm106 dX9_isField_6 f9_19 k0_9 t9_1 (rr0_1 b) rfl).trans ?_
  refine (ze_getI 12 zm106 dX9_isField_9 f9_233 k3_4 (Or.inl t4_0) rfl).trans ?_
  exact ze_icmp_ge 19 15 zm106 dX9_isField_12 (by decide) rfl
theorem b106_15 (sc : zScr) (v1 : Int32) (i : Nat → Nat → Int32) (b : Bool) (l : Nat → Nat → Int64) : zev sc (106, 15, [some (.ref 0), some (.int v1)], [], (197, i, (zRF b), l)) = zev sc (106, 20, [some (.ref 0), some (.int v1)], [.int (1 : Int32)], (197, i, (zRF b), l)) := by
  refine (ze_iconst 16 zm106 dX9_isField_15 ci_1 rfl).trans ?_
  exact ze_goto 20 zm106 dX9_isField_16 (by decide)
theorem b106_19 (sc : zScr) (v1 : Int32) (i : Nat → Nat → Int32) (b : Bool) (l : Nat → Nat → Int64) : zev sc (106, 19, [some (.ref 0), some (.int v1)], [], (197, i, (zRF b), l)) = zev sc (106, 20, [some (.ref 0), some (.int v1)], [.int (0 : Int32)], (197, i, (zRF b), l)) := by
  refine (ze_iconst 20 zm106 dX9_isField_19 ci_0 rfl).trans ?_
  rfl
theorem b106_20 (sc : zScr) (v1 : Int32) (s0 : Int32) (i : Nat → Nat → Int32) (b : Bool) (l : Nat → Nat → Int64) (h1 : s0 = 0 ∨ s0 = 1) : zev sc (106, 20, [some (.ref 0), some (.int v1)], [.int s0], (197, i, (zRF b), l)) = some (.int s0, (197, i, (zRF b), l)) := by
  exact ze_zreturn zm106 dX9_isField_20 rfl h1
/-! HarpFences.isFence (I)Z: method 107 -/
theorem b107_0 (sc : zScr) (v1 : Int32) (i : Nat → Nat → Int32) (b : Bool) (l : Nat → Nat → Int64) : zev sc (107, 0, [some (.ref 0), some (.int v1)], [], (197, i, (zRF b), l)) = if v1 < 0 then zev sc (107, 19, [some (.ref 0), some (.int v1)], [], (197, i, (zRF b), l)) else zev sc (107, 4, [some (.ref 0), some (.int v1)], [], (197, i, (zRF b), l)) := by
  refine (ze_iload_n 1 zm107 dX9_isFence_0 rfl rfl).trans ?_
  exact ze_if_lt 19 4 zm107 dX9_isFence_1 (by decide) rfl
theorem b107_4 (sc : zScr) (v1 : Int32) (i : Nat → Nat → Int32) (b : Bool) (l : Nat → Nat → Int64) : zev sc (107, 4, [some (.ref 0), some (.int v1)], [], (197, i, (zRF b), l)) = if (i 3 1) ≤ v1 then zev sc (107, 19, [some (.ref 0), some (.int v1)], [], (197, i, (zRF b), l)) else zev sc (107, 15, [some (.ref 0), some (.int v1)], [], (197, i, (zRF b), l)) := by
  refine (ze_iload_n 5 zm107 dX9_isFence_4 rfl rfl).trans ?_
  refine (ze_aload_n 6 zm107 dX9_isFence_5 rfl rfl).trans ?_
  refine (ze_getR 9 zm107 dX9_isFence_6 f9_19 k0_9 t9_1 (rr0_1 b) rfl).trans ?_
  refine (ze_getI 12 zm107 dX9_isFence_9 f9_167 k3_4 (Or.inl t4_1) rfl).trans ?_
  exact ze_icmp_ge 19 15 zm107 dX9_isFence_12 (by decide) rfl
theorem b107_15 (sc : zScr) (v1 : Int32) (i : Nat → Nat → Int32) (b : Bool) (l : Nat → Nat → Int64) : zev sc (107, 15, [some (.ref 0), some (.int v1)], [], (197, i, (zRF b), l)) = zev sc (107, 20, [some (.ref 0), some (.int v1)], [.int (1 : Int32)], (197, i, (zRF b), l)) := by
  refine (ze_iconst 16 zm107 dX9_isFence_15 ci_1 rfl).trans ?_
  exact ze_goto 20 zm107 dX9_isFence_16 (by decide)
theorem b107_19 (sc : zScr) (v1 : Int32) (i : Nat → Nat → Int32) (b : Bool) (l : Nat → Nat → Int64) : zev sc (107, 19, [some (.ref 0), some (.int v1)], [], (197, i, (zRF b), l)) = zev sc (107, 20, [some (.ref 0), some (.int v1)], [.int (0 : Int32)], (197, i, (zRF b), l)) := by
  refine (ze_iconst 20 zm107 dX9_isFence_19 ci_0 rfl).trans ?_
  rfl
theorem b107_20 (sc : zScr) (v1 : Int32) (s0 : Int32) (i : Nat → Nat → Int32) (b : Bool) (l : Nat → Nat → Int64) (h1 : s0 = 0 ∨ s0 = 1) : zev sc (107, 20, [some (.ref 0), some (.int v1)], [.int s0], (197, i, (zRF b), l)) = some (.int s0, (197, i, (zRF b), l)) := by
  exact ze_zreturn zm107 dX9_isFence_20 rfl h1
/-! HarpFences.isKind (I)Z: method 108 -/
theorem b108_0 (sc : zScr) (v1 : Int32) (i : Nat → Nat → Int32) (b : Bool) (l : Nat → Nat → Int64) : zev sc (108, 0, [some (.ref 0), some (.int v1)], [], (197, i, (zRF b), l)) = if v1 < 0 then zev sc (108, 19, [some (.ref 0), some (.int v1)], [], (197, i, (zRF b), l)) else zev sc (108, 4, [some (.ref 0), some (.int v1)], [], (197, i, (zRF b), l)) := by
  refine (ze_iload_n 1 zm108 dX9_isKind_0 rfl rfl).trans ?_
  exact ze_if_lt 19 4 zm108 dX9_isKind_1 (by decide) rfl
theorem b108_4 (sc : zScr) (v1 : Int32) (i : Nat → Nat → Int32) (b : Bool) (l : Nat → Nat → Int64) : zev sc (108, 4, [some (.ref 0), some (.int v1)], [], (197, i, (zRF b), l)) = if (i 3 5) ≤ v1 then zev sc (108, 19, [some (.ref 0), some (.int v1)], [], (197, i, (zRF b), l)) else zev sc (108, 15, [some (.ref 0), some (.int v1)], [], (197, i, (zRF b), l)) := by
  refine (ze_iload_n 5 zm108 dX9_isKind_4 rfl rfl).trans ?_
  refine (ze_aload_n 6 zm108 dX9_isKind_5 rfl rfl).trans ?_
  refine (ze_getR 9 zm108 dX9_isKind_6 f9_19 k0_9 t9_1 (rr0_1 b) rfl).trans ?_
  refine (ze_getI 12 zm108 dX9_isKind_9 f9_288 k3_4 (Or.inl t4_5) rfl).trans ?_
  exact ze_icmp_ge 19 15 zm108 dX9_isKind_12 (by decide) rfl
theorem b108_15 (sc : zScr) (v1 : Int32) (i : Nat → Nat → Int32) (b : Bool) (l : Nat → Nat → Int64) : zev sc (108, 15, [some (.ref 0), some (.int v1)], [], (197, i, (zRF b), l)) = zev sc (108, 20, [some (.ref 0), some (.int v1)], [.int (1 : Int32)], (197, i, (zRF b), l)) := by
  refine (ze_iconst 16 zm108 dX9_isKind_15 ci_1 rfl).trans ?_
  exact ze_goto 20 zm108 dX9_isKind_16 (by decide)
theorem b108_19 (sc : zScr) (v1 : Int32) (i : Nat → Nat → Int32) (b : Bool) (l : Nat → Nat → Int64) : zev sc (108, 19, [some (.ref 0), some (.int v1)], [], (197, i, (zRF b), l)) = zev sc (108, 20, [some (.ref 0), some (.int v1)], [.int (0 : Int32)], (197, i, (zRF b), l)) := by
  refine (ze_iconst 20 zm108 dX9_isKind_19 ci_0 rfl).trans ?_
  rfl
theorem b108_20 (sc : zScr) (v1 : Int32) (s0 : Int32) (i : Nat → Nat → Int32) (b : Bool) (l : Nat → Nat → Int64) (h1 : s0 = 0 ∨ s0 = 1) : zev sc (108, 20, [some (.ref 0), some (.int v1)], [.int s0], (197, i, (zRF b), l)) = some (.int s0, (197, i, (zRF b), l)) := by
  exact ze_zreturn zm108 dX9_isKind_20 rfl h1
/-! HarpFences.isBeast (I)Z: method 109 -/
theorem b109_0 (sc : zScr) (v1 : Int32) (i : Nat → Nat → Int32) (b : Bool) (l : Nat → Nat → Int64) : zev sc (109, 0, [some (.ref 0), some (.int v1)], [], (197, i, (zRF b), l)) = if v1 < 0 then zev sc (109, 19, [some (.ref 0), some (.int v1)], [], (197, i, (zRF b), l)) else zev sc (109, 4, [some (.ref 0), some (.int v1)], [], (197, i, (zRF b), l)) := by
  refine (ze_iload_n 1 zm109 dX9_isBeast_0 rfl rfl).trans ?_
  exact ze_if_lt 19 4 zm109 dX9_isBeast_1 (by decide) rfl
theorem b109_4 (sc : zScr) (v1 : Int32) (i : Nat → Nat → Int32) (b : Bool) (l : Nat → Nat → Int64) : zev sc (109, 4, [some (.ref 0), some (.int v1)], [], (197, i, (zRF b), l)) = if (i 3 8) ≤ v1 then zev sc (109, 19, [some (.ref 0), some (.int v1)], [], (197, i, (zRF b), l)) else zev sc (109, 15, [some (.ref 0), some (.int v1)], [], (197, i, (zRF b), l)) := by
  refine (ze_iload_n 5 zm109 dX9_isBeast_4 rfl rfl).trans ?_
  refine (ze_aload_n 6 zm109 dX9_isBeast_5 rfl rfl).trans ?_
  refine (ze_getR 9 zm109 dX9_isBeast_6 f9_19 k0_9 t9_1 (rr0_1 b) rfl).trans ?_
  refine (ze_getI 12 zm109 dX9_isBeast_9 f9_230 k3_4 (Or.inl t4_8) rfl).trans ?_
  exact ze_icmp_ge 19 15 zm109 dX9_isBeast_12 (by decide) rfl
theorem b109_15 (sc : zScr) (v1 : Int32) (i : Nat → Nat → Int32) (b : Bool) (l : Nat → Nat → Int64) : zev sc (109, 15, [some (.ref 0), some (.int v1)], [], (197, i, (zRF b), l)) = zev sc (109, 20, [some (.ref 0), some (.int v1)], [.int (1 : Int32)], (197, i, (zRF b), l)) := by
  refine (ze_iconst 16 zm109 dX9_isBeast_15 ci_1 rfl).trans ?_
  exact ze_goto 20 zm109 dX9_isBeast_16 (by decide)
theorem b109_19 (sc : zScr) (v1 : Int32) (i : Nat → Nat → Int32) (b : Bool) (l : Nat → Nat → Int64) : zev sc (109, 19, [some (.ref 0), some (.int v1)], [], (197, i, (zRF b), l)) = zev sc (109, 20, [some (.ref 0), some (.int v1)], [.int (0 : Int32)], (197, i, (zRF b), l)) := by
  refine (ze_iconst 20 zm109 dX9_isBeast_19 ci_0 rfl).trans ?_
  rfl
theorem b109_20 (sc : zScr) (v1 : Int32) (s0 : Int32) (i : Nat → Nat → Int32) (b : Bool) (l : Nat → Nat → Int64) (h1 : s0 = 0 ∨ s0 = 1) : zev sc (109, 20, [some (.ref 0), some (.int v1)], [.int s0], (197, i, (zRF b), l)) = some (.int s0, (197, i, (zRF b), l)) := by
  exact ze_zreturn zm109 dX9_isBeast_20 rfl h1
/-! HarpFences.isImage (I)Z: method 110 -/
theorem b110_0 (sc : zScr) (v0 : Int32) (i : Nat → Nat → Int32) (b : Bool) (l : Nat → Nat → Int64) : zev sc (110, 0, [some (.int v0)], [], (197, i, (zRF b), l)) = if v0 < 0 then zev sc (110, 13, [some (.int v0)], [], (197, i, (zRF b), l)) else zev sc (110, 4, [some (.int v0)], [], (197, i, (zRF b), l)) := by
  refine (ze_iload_n 1 zm110 dX9_isImage_0 rfl rfl).trans ?_
  exact ze_if_lt 13 4 zm110 dX9_isImage_1 (by decide) rfl
theorem b110_4 (sc : zScr) (v0 : Int32) (i : Nat → Nat → Int32) (b : Bool) (l : Nat → Nat → Int64) : zev sc (110, 4, [some (.int v0)], [], (197, i, (zRF b), l)) = if (2 : Int32) ≤ v0 then zev sc (110, 13, [some (.int v0)], [], (197, i, (zRF b), l)) else zev sc (110, 9, [some (.int v0)], [], (197, i, (zRF b), l)) := by
  refine (ze_iload_n 5 zm110 dX9_isImage_4 rfl rfl).trans ?_
  refine (ze_iconst 6 zm110 dX9_isImage_5 ci_2 rfl).trans ?_
  exact ze_icmp_ge 13 9 zm110 dX9_isImage_6 (by decide) rfl
theorem b110_9 (sc : zScr) (v0 : Int32) (i : Nat → Nat → Int32) (b : Bool) (l : Nat → Nat → Int64) : zev sc (110, 9, [some (.int v0)], [], (197, i, (zRF b), l)) = zev sc (110, 14, [some (.int v0)], [.int (1 : Int32)], (197, i, (zRF b), l)) := by
  refine (ze_iconst 10 zm110 dX9_isImage_9 ci_1 rfl).trans ?_
  exact ze_goto 14 zm110 dX9_isImage_10 (by decide)
theorem b110_13 (sc : zScr) (v0 : Int32) (i : Nat → Nat → Int32) (b : Bool) (l : Nat → Nat → Int64) : zev sc (110, 13, [some (.int v0)], [], (197, i, (zRF b), l)) = zev sc (110, 14, [some (.int v0)], [.int (0 : Int32)], (197, i, (zRF b), l)) := by
  refine (ze_iconst 14 zm110 dX9_isImage_13 ci_0 rfl).trans ?_
  rfl
theorem b110_14 (sc : zScr) (v0 : Int32) (s0 : Int32) (i : Nat → Nat → Int32) (b : Bool) (l : Nat → Nat → Int64) (h1 : s0 = 0 ∨ s0 = 1) : zev sc (110, 14, [some (.int v0)], [.int s0], (197, i, (zRF b), l)) = some (.int s0, (197, i, (zRF b), l)) := by
  exact ze_zreturn zm110 dX9_isImage_14 rfl h1
/-! HarpFences.isFlag (I)Z: method 111 -/
theorem b111_0 (sc : zScr) (v0 : Int32) (i : Nat → Nat → Int32) (b : Bool) (l : Nat → Nat → Int64) : zev sc (111, 0, [some (.int v0)], [], (197, i, (zRF b), l)) = if v0 = 0 then zev sc (111, 9, [some (.int v0)], [], (197, i, (zRF b), l)) else zev sc (111, 4, [some (.int v0)], [], (197, i, (zRF b), l)) := by
  refine (ze_iload_n 1 zm111 dX9_isFlag_0 rfl rfl).trans ?_
  exact ze_if_eq 9 4 zm111 dX9_isFlag_1 (by decide) rfl
theorem b111_4 (sc : zScr) (v0 : Int32) (i : Nat → Nat → Int32) (b : Bool) (l : Nat → Nat → Int64) : zev sc (111, 4, [some (.int v0)], [], (197, i, (zRF b), l)) = if v0 = (1 : Int32) then zev sc (111, 9, [some (.int v0)], [], (197, i, (zRF b), l)) else zev sc (111, 13, [some (.int v0)], [], (197, i, (zRF b), l)) := by
  refine (ze_iload_n 5 zm111 dX9_isFlag_4 rfl rfl).trans ?_
  refine (ze_iconst 6 zm111 dX9_isFlag_5 ci_1 rfl).trans ?_
  exact ze_icmp_ne 13 9 zm111 dX9_isFlag_6 (by decide) rfl
theorem b111_9 (sc : zScr) (v0 : Int32) (i : Nat → Nat → Int32) (b : Bool) (l : Nat → Nat → Int64) : zev sc (111, 9, [some (.int v0)], [], (197, i, (zRF b), l)) = zev sc (111, 14, [some (.int v0)], [.int (1 : Int32)], (197, i, (zRF b), l)) := by
  refine (ze_iconst 10 zm111 dX9_isFlag_9 ci_1 rfl).trans ?_
  exact ze_goto 14 zm111 dX9_isFlag_10 (by decide)
theorem b111_13 (sc : zScr) (v0 : Int32) (i : Nat → Nat → Int32) (b : Bool) (l : Nat → Nat → Int64) : zev sc (111, 13, [some (.int v0)], [], (197, i, (zRF b), l)) = zev sc (111, 14, [some (.int v0)], [.int (0 : Int32)], (197, i, (zRF b), l)) := by
  refine (ze_iconst 14 zm111 dX9_isFlag_13 ci_0 rfl).trans ?_
  rfl
theorem b111_14 (sc : zScr) (v0 : Int32) (s0 : Int32) (i : Nat → Nat → Int32) (b : Bool) (l : Nat → Nat → Int64) (h1 : s0 = 0 ∨ s0 = 1) : zev sc (111, 14, [some (.int v0)], [.int s0], (197, i, (zRF b), l)) = some (.int s0, (197, i, (zRF b), l)) := by
  exact ze_zreturn zm111 dX9_isFlag_14 rfl h1
/-! HarpFences.markString (I)I: method 112 -/
theorem b112_0 (sc : zScr) (v1 : Int32) (i : Nat → Nat → Int32) (b : Bool) (l : Nat → Nat → Int64) (h1 : vp_in v1 8) : zev sc (112, 0, [some (.ref 0), some (.int v1)], [], (197, i, (zRF b), l)) = some (.int (i 21 v1.toNatClampNeg), (197, i, (zRF b), (zU l 0 10 ((l 0 10) + (1 : Int64))))) := by
  refine (ze_aload_n 1 zm112 dX9_markString_0 rfl rfl).trans ?_
  refine (ze_dup 2 zm112 dX9_markString_1 rfl rfl).trans ?_
  refine (ze_getL 5 zm112 dX9_markString_2 f9_291 k0_9 t9_10 rfl).trans ?_
  refine (ze_lconst 6 zm112 dX9_markString_5 cl_1 rfl).trans ?_
  refine (ze_ladd 7 zm112 dX9_markString_6 rfl).trans ?_
  refine (ze_putL 10 zm112 dX9_markString_7 f9_291 k0_9 (Or.inl fn9_10) t9_10 rfl).trans ?_
  refine (ze_aload_n 11 zm112 dX9_markString_10 rfl rfl).trans ?_
  refine (ze_getR 14 zm112 dX9_markString_11 f9_29 k0_9 t9_3 (rr0_3 b) rfl).trans ?_
  refine (ze_getR 17 zm112 dX9_markString_14 f9_111 k19_7 t7_1 (rr19_1 b) rfl).trans ?_
  refine (ze_iload_n 18 zm112 dX9_markString_17 rfl rfl).trans ?_
  refine (ze_iaload (t := v1.toNatClampNeg) 19 zm112 dX9_markString_18 k21_100 n21 h1 rfl rfl).trans ?_
  exact ze_ireturn zm112 dX9_markString_19 rfl
/-! HarpFences.markBass (I)I: method 113 -/
theorem b113_0 (sc : zScr) (v1 : Int32) (i : Nat → Nat → Int32) (b : Bool) (l : Nat → Nat → Int64) : zev sc (113, 0, [some (.ref 0), some (.int v1)], [], (197, i, (zRF b), l)) = (zev sc (112, 0, [some (.ref 0), some (.int v1)], [], (197, i, (zRF b), (zU l 0 10 ((l 0 10) + (10 : Int64)))))).bind (fun x => zev sc (113, 17, [some (.ref 0), some (.int v1)], [x.1], x.2)) := by
  refine (ze_aload_n 1 zm113 dX9_markBass_0 rfl rfl).trans ?_
  refine (ze_dup 2 zm113 dX9_markBass_1 rfl rfl).trans ?_
  refine (ze_getL 5 zm113 dX9_markBass_2 f9_291 k0_9 t9_10 rfl).trans ?_
  refine (ze_ldc2_w 8 zm113 dX9_markBass_5 zl_9_297 rfl).trans ?_
  refine (ze_ladd 9 zm113 dX9_markBass_8 rfl).trans ?_
  refine (ze_putL 12 zm113 dX9_markBass_9 f9_291 k0_9 (Or.inl fn9_10) t9_10 rfl).trans ?_
  refine (ze_aload_n 13 zm113 dX9_markBass_12 rfl rfl).trans ?_
  refine (ze_iload_n 14 zm113 dX9_markBass_13 rfl rfl).trans ?_
  exact ze_virtI (as := [.int v1]) (rest := []) 17 zm113 dX9_markBass_14 r9_256 zm112 rfl rfl k0_9 rfl rfl rfl rfl
theorem b113_17 (sc : zScr) (v1 : Int32) (s0 : Int32) (i : Nat → Nat → Int32) (b : Bool) (l : Nat → Nat → Int64) : zev sc (113, 17, [some (.ref 0), some (.int v1)], [.int s0], (197, i, (zRF b), l)) = some (.int (s0 + (i 19 6)), (197, i, (zRF b), l)) := by
  refine (ze_aload_n 18 zm113 dX9_markBass_17 rfl rfl).trans ?_
  refine (ze_getR 21 zm113 dX9_markBass_18 f9_29 k0_9 t9_3 (rr0_3 b) rfl).trans ?_
  refine (ze_getI 24 zm113 dX9_markBass_21 f9_170 k19_7 (Or.inl t7_6) rfl).trans ?_
  refine (ze_iadd 25 zm113 dX9_markBass_24 rfl).trans ?_
  exact ze_ireturn zm113 dX9_markBass_25 rfl
/-! HarpFences.markTreble (I)I: method 114 -/
theorem b114_0 (sc : zScr) (v1 : Int32) (i : Nat → Nat → Int32) (b : Bool) (l : Nat → Nat → Int64) : zev sc (114, 0, [some (.ref 0), some (.int v1)], [], (197, i, (zRF b), l)) = (zev sc (112, 0, [some (.ref 0), some (.int v1)], [], (197, i, (zRF b), (zU l 0 10 ((l 0 10) + (100 : Int64)))))).bind (fun x => zev sc (114, 17, [some (.ref 0), some (.int v1)], [x.1], x.2)) := by
  refine (ze_aload_n 1 zm114 dX9_markTreble_0 rfl rfl).trans ?_
  refine (ze_dup 2 zm114 dX9_markTreble_1 rfl rfl).trans ?_
  refine (ze_getL 5 zm114 dX9_markTreble_2 f9_291 k0_9 t9_10 rfl).trans ?_
  refine (ze_ldc2_w 8 zm114 dX9_markTreble_5 zl_9_299 rfl).trans ?_
  refine (ze_ladd 9 zm114 dX9_markTreble_8 rfl).trans ?_
  refine (ze_putL 12 zm114 dX9_markTreble_9 f9_291 k0_9 (Or.inl fn9_10) t9_10 rfl).trans ?_
  refine (ze_aload_n 13 zm114 dX9_markTreble_12 rfl rfl).trans ?_
  refine (ze_iload_n 14 zm114 dX9_markTreble_13 rfl rfl).trans ?_
  exact ze_virtI (as := [.int v1]) (rest := []) 17 zm114 dX9_markTreble_14 r9_256 zm112 rfl rfl k0_9 rfl rfl rfl rfl
theorem b114_17 (sc : zScr) (v1 : Int32) (s0 : Int32) (i : Nat → Nat → Int32) (b : Bool) (l : Nat → Nat → Int64) (h1 : vp_in v1 8) : zev sc (114, 17, [some (.ref 0), some (.int v1)], [.int s0], (197, i, (zRF b), l)) = (zev sc (16, 0, [some (.ref 23), some (.int (i 4 v1.toNatClampNeg)), none, none, none], [], (197, i, (zRF b), l))).bind (fun x => zev sc (114, 33, [some (.ref 0), some (.int v1)], [x.1, .int s0], x.2)) := by
  refine (ze_aload_n 18 zm114 dX9_markTreble_17 rfl rfl).trans ?_
  refine (ze_getR 21 zm114 dX9_markTreble_18 f9_38 k0_9 t9_4 (rr0_4 b) rfl).trans ?_
  refine (ze_aload_n 22 zm114 dX9_markTreble_21 rfl rfl).trans ?_
  refine (ze_getR 25 zm114 dX9_markTreble_22 f9_19 k0_9 t9_1 (rr0_1 b) rfl).trans ?_
  refine (ze_getR 28 zm114 dX9_markTreble_25 f9_104 k3_4 t4_2 (rr3_2 b) rfl).trans ?_
  refine (ze_iload_n 29 zm114 dX9_markTreble_28 rfl rfl).trans ?_
  refine (ze_iaload (t := v1.toNatClampNeg) 30 zm114 dX9_markTreble_29 k4_100 n4 h1 rfl rfl).trans ?_
  exact ze_virtI (as := [.int (i 4 v1.toNatClampNeg)]) (rest := [.int s0]) 33 zm114 dX9_markTreble_30 r9_227 zm16 rfl rfl k23_1 rfl rfl rfl rfl
theorem b114_33 (sc : zScr) (v1 : Int32) (s0 : Int32) (s1 : Int32) (i : Nat → Nat → Int32) (b : Bool) (l : Nat → Nat → Int64) : zev sc (114, 33, [some (.ref 0), some (.int v1)], [.int s0, .int s1], (197, i, (zRF b), l)) = some (.int (s1 - s0), (197, i, (zRF b), l)) := by
  refine (ze_isub 34 zm114 dX9_markTreble_33 rfl).trans ?_
  exact ze_ireturn zm114 dX9_markTreble_34 rfl
/-! HarpFences.markBull (I)I: method 115 -/
theorem b115_0 (sc : zScr) (v1 : Int32) (i : Nat → Nat → Int32) (b : Bool) (l : Nat → Nat → Int64) : zev sc (115, 0, [some (.ref 0), some (.int v1)], [], (197, i, (zRF b), l)) = (zev sc (113, 0, [some (.ref 0), some (.int v1)], [], (197, i, (zRF b), (zU l 0 10 ((l 0 10) + (1000 : Int64)))))).bind (fun x => zev sc (115, 17, [some (.ref 0), some (.int v1)], [x.1], x.2)) := by
  refine (ze_aload_n 1 zm115 dX9_markBull_0 rfl rfl).trans ?_
  refine (ze_dup 2 zm115 dX9_markBull_1 rfl rfl).trans ?_
  refine (ze_getL 5 zm115 dX9_markBull_2 f9_291 k0_9 t9_10 rfl).trans ?_
  refine (ze_ldc2_w 8 zm115 dX9_markBull_5 zl_9_301 rfl).trans ?_
  refine (ze_ladd 9 zm115 dX9_markBull_8 rfl).trans ?_
  refine (ze_putL 12 zm115 dX9_markBull_9 f9_291 k0_9 (Or.inl fn9_10) t9_10 rfl).trans ?_
  refine (ze_aload_n 13 zm115 dX9_markBull_12 rfl rfl).trans ?_
  refine (ze_iload_n 14 zm115 dX9_markBull_13 rfl rfl).trans ?_
  exact ze_virtI (as := [.int v1]) (rest := []) 17 zm115 dX9_markBull_14 r9_259 zm113 rfl rfl k0_9 rfl rfl rfl rfl
theorem b115_17 (sc : zScr) (v1 : Int32) (s0 : Int32) (i : Nat → Nat → Int32) (b : Bool) (l : Nat → Nat → Int64) : zev sc (115, 17, [some (.ref 0), some (.int v1)], [.int s0], (197, i, (zRF b), l)) = some (.int (s0 * (2 : Int32)), (197, i, (zRF b), l)) := by
  refine (ze_iconst 18 zm115 dX9_markBull_17 ci_2 rfl).trans ?_
  refine (ze_imul 19 zm115 dX9_markBull_18 rfl).trans ?_
  exact ze_ireturn zm115 dX9_markBull_19 rfl
/-! HarpFences.markLark (I)I: method 116 -/
theorem b116_0 (sc : zScr) (v1 : Int32) (i : Nat → Nat → Int32) (b : Bool) (l : Nat → Nat → Int64) : zev sc (116, 0, [some (.ref 0), some (.int v1)], [], (197, i, (zRF b), l)) = (zev sc (114, 0, [some (.ref 0), some (.int v1)], [], (197, i, (zRF b), (zU l 0 10 ((l 0 10) + (10000 : Int64)))))).bind (fun x => zev sc (116, 17, [some (.ref 0), some (.int v1)], [x.1], x.2)) := by
  refine (ze_aload_n 1 zm116 dX9_markLark_0 rfl rfl).trans ?_
  refine (ze_dup 2 zm116 dX9_markLark_1 rfl rfl).trans ?_
  refine (ze_getL 5 zm116 dX9_markLark_2 f9_291 k0_9 t9_10 rfl).trans ?_
  refine (ze_ldc2_w 8 zm116 dX9_markLark_5 zl_9_303 rfl).trans ?_
  refine (ze_ladd 9 zm116 dX9_markLark_8 rfl).trans ?_
  refine (ze_putL 12 zm116 dX9_markLark_9 f9_291 k0_9 (Or.inl fn9_10) t9_10 rfl).trans ?_
  refine (ze_aload_n 13 zm116 dX9_markLark_12 rfl rfl).trans ?_
  refine (ze_iload_n 14 zm116 dX9_markLark_13 rfl rfl).trans ?_
  exact ze_virtI (as := [.int v1]) (rest := []) 17 zm116 dX9_markLark_14 r9_262 zm114 rfl rfl k0_9 rfl rfl rfl rfl
theorem b116_17 (sc : zScr) (v1 : Int32) (s0 : Int32) (i : Nat → Nat → Int32) (b : Bool) (l : Nat → Nat → Int64) : zev sc (116, 17, [some (.ref 0), some (.int v1)], [.int s0], (197, i, (zRF b), l)) = some (.int (s0 + v1), (197, i, (zRF b), l)) := by
  refine (ze_iload_n 18 zm116 dX9_markLark_17 rfl rfl).trans ?_
  refine (ze_iadd 19 zm116 dX9_markLark_18 rfl).trans ?_
  exact ze_ireturn zm116 dX9_markLark_19 rfl
/-! HarpFences.markPedal (I)I: method 117 -/
theorem b117_0 (sc : zScr) (v1 : Int32) (i : Nat → Nat → Int32) (b : Bool) (l : Nat → Nat → Int64) : zev sc (117, 0, [some (.ref 0), some (.int v1)], [], (197, i, (zRF b), l)) = (zev sc (112, 0, [some (.ref 0), some (.int v1)], [], (197, i, (zRF b), (zU l 0 10 ((l 0 10) + (100000 : Int64)))))).bind (fun x => zev sc (117, 17, [some (.ref 0), some (.int v1)], [x.1], x.2)) := by
  refine (ze_aload_n 1 zm117 dX9_markPedal_0 rfl rfl).trans ?_
  refine (ze_dup 2 zm117 dX9_markPedal_1 rfl rfl).trans ?_
  refine (ze_getL 5 zm117 dX9_markPedal_2 f9_291 k0_9 t9_10 rfl).trans ?_
  refine (ze_ldc2_w 8 zm117 dX9_markPedal_5 zl_9_305 rfl).trans ?_
  refine (ze_ladd 9 zm117 dX9_markPedal_8 rfl).trans ?_
  refine (ze_putL 12 zm117 dX9_markPedal_9 f9_291 k0_9 (Or.inl fn9_10) t9_10 rfl).trans ?_
  refine (ze_aload_n 13 zm117 dX9_markPedal_12 rfl rfl).trans ?_
  refine (ze_iload_n 14 zm117 dX9_markPedal_13 rfl rfl).trans ?_
  exact ze_virtI (as := [.int v1]) (rest := []) 17 zm117 dX9_markPedal_14 r9_256 zm112 rfl rfl k0_9 rfl rfl rfl rfl
theorem b117_17 (sc : zScr) (v1 : Int32) (s0 : Int32) (i : Nat → Nat → Int32) (b : Bool) (l : Nat → Nat → Int64) : zev sc (117, 17, [some (.ref 0), some (.int v1)], [.int s0], (197, i, (zRF b), l)) = some (.int (s0 + (i 19 3)), (197, i, (zRF b), l)) := by
  refine (ze_aload_n 18 zm117 dX9_markPedal_17 rfl rfl).trans ?_
  refine (ze_getR 21 zm117 dX9_markPedal_18 f9_29 k0_9 t9_3 (rr0_3 b) rfl).trans ?_
  refine (ze_getI 24 zm117 dX9_markPedal_21 f9_179 k19_7 (Or.inl t7_3) rfl).trans ?_
  refine (ze_iadd 25 zm117 dX9_markPedal_24 rfl).trans ?_
  exact ze_ireturn zm117 dX9_markPedal_25 rfl
/-! java/lang/Integer.bitCount (I)I: method 184 -/
theorem b184_0 (sc : zScr) (v0 : Int32) (i : Nat → Nat → Int32) (b : Bool) (l : Nat → Nat → Int64) : zev sc (184, 0, [some (.int v0)], [], (197, i, (zRF b), l)) = some (.int ((((((((v0 - ((v0.toUInt32 >>> ((1 : Int32).toUInt32 &&& Int32.toUInt32 31)).toInt32 &&& (1431655765 : Int32))) &&& (858993459 : Int32)) + (((v0 - ((v0.toUInt32 >>> ((1 : Int32).toUInt32 &&& Int32.toUInt32 31)).toInt32 &&& (1431655765 : Int32))).toUInt32 >>> ((2 : Int32).toUInt32 &&& Int32.toUInt32 31)).toInt32 &&& (858993459 : Int32))) + ((((v0 - ((v0.toUInt32 >>> ((1 : Int32).toUInt32 &&& Int32.toUInt32 31)).toInt32 &&& (1431655765 : Int32))) &&& (858993459 : Int32)) + (((v0 - ((v0.toUInt32 >>> ((1 : Int32).toUInt32 &&& Int32.toUInt32 31)).toInt32 &&& (1431655765 : Int32))).toUInt32 >>> ((2 : Int32).toUInt32 &&& Int32.toUInt32 31)).toInt32 &&& (858993459 : Int32))).toUInt32 >>> ((4 : Int32).toUInt32 &&& Int32.toUInt32 31)).toInt32) &&& (252645135 : Int32)) + ((((((v0 - ((v0.toUInt32 >>> ((1 : Int32).toUInt32 &&& Int32.toUInt32 31)).toInt32 &&& (1431655765 : Int32))) &&& (858993459 : Int32)) + (((v0 - ((v0.toUInt32 >>> ((1 : Int32).toUInt32 &&& Int32.toUInt32 31)).toInt32 &&& (1431655765 : Int32))).toUInt32 >>> ((2 : Int32).toUInt32 &&& Int32.toUInt32 31)).toInt32 &&& (858993459 : Int32))) + ((((v0 - ((v0.toUInt32 >>> ((1 : Int32).toUInt32 &&& Int32.toUInt32 31)).toInt32 &&& (1431655765 : Int32))) &&& (858993459 : Int32)) + (((v0 - ((v0.toUInt32 >>> ((1 : Int32).toUInt32 &&& Int32.toUInt32 31)).toInt32 &&& (1431655765 : Int32))).toUInt32 >>> ((2 : Int32).toUInt32 &&& Int32.toUInt32 31)).toInt32 &&& (858993459 : Int32))).toUInt32 >>> ((4 : Int32).toUInt32 &&& Int32.toUInt32 31)).toInt32) &&& (252645135 : Int32)).toUInt32 >>> ((8 : Int32).toUInt32 &&& Int32.toUInt32 31)).toInt32) + (((((((v0 - ((v0.toUInt32 >>> ((1 : Int32).toUInt32 &&& Int32.toUInt32 31)).toInt32 &&& (1431655765 : Int32))) &&& (858993459 : Int32)) + (((v0 - ((v0.toUInt32 >>> ((1 : Int32).toUInt32 &&& Int32.toUInt32 31)).toInt32 &&& (1431655765 : Int32))).toUInt32 >>> ((2 : Int32).toUInt32 &&& Int32.toUInt32 31)).toInt32 &&& (858993459 : Int32))) + ((((v0 - ((v0.toUInt32 >>> ((1 : Int32).toUInt32 &&& Int32.toUInt32 31)).toInt32 &&& (1431655765 : Int32))) &&& (858993459 : Int32)) + (((v0 - ((v0.toUInt32 >>> ((1 : Int32).toUInt32 &&& Int32.toUInt32 31)).toInt32 &&& (1431655765 : Int32))).toUInt32 >>> ((2 : Int32).toUInt32 &&& Int32.toUInt32 31)).toInt32 &&& (858993459 : Int32))).toUInt32 >>> ((4 : Int32).toUInt32 &&& Int32.toUInt32 31)).toInt32) &&& (252645135 : Int32)) + ((((((v0 - ((v0.toUInt32 >>> ((1 : Int32).toUInt32 &&& Int32.toUInt32 31)).toInt32 &&& (1431655765 : Int32))) &&& (858993459 : Int32)) + (((v0 - ((v0.toUInt32 >>> ((1 : Int32).toUInt32 &&& Int32.toUInt32 31)).toInt32 &&& (1431655765 : Int32))).toUInt32 >>> ((2 : Int32).toUInt32 &&& Int32.toUInt32 31)).toInt32 &&& (858993459 : Int32))) + ((((v0 - ((v0.toUInt32 >>> ((1 : Int32).toUInt32 &&& Int32.toUInt32 31)).toInt32 &&& (1431655765 : Int32))) &&& (858993459 : Int32)) + (((v0 - ((v0.toUInt32 >>> ((1 : Int32).toUInt32 &&& Int32.toUInt32 31)).toInt32 &&& (1431655765 : Int32))).toUInt32 >>> ((2 : Int32).toUInt32 &&& Int32.toUInt32 31)).toInt32 &&& (858993459 : Int32))).toUInt32 >>> ((4 : Int32).toUInt32 &&& Int32.toUInt32 31)).toInt32) &&& (252645135 : Int32)).toUInt32 >>> ((8 : Int32).toUInt32 &&& Int32.toUInt32 31)).toInt32).toUInt32 >>> ((16 : Int32).toUInt32 &&& Int32.toUInt32 31)).toInt32) &&& (63 : Int32)), (197, i, (zRF b), l)) := by
  refine (ze_iload_n 1 zm184 dJ6_bitCount_0f7a4_0 rfl rfl).trans ?_
  refine (ze_iload_n 2 zm184 dJ6_bitCount_0f7a4_1 rfl rfl).trans ?_
  refine (ze_iconst 3 zm184 dJ6_bitCount_0f7a4_2 ci_1 rfl).trans ?_
  refine (ze_iushr 4 zm184 dJ6_bitCount_0f7a4_3 rfl).trans ?_
  refine (ze_ldc_w 7 zm184 dJ6_bitCount_0f7a4_4 zi_11_265 rfl).trans ?_
  refine (ze_iand 8 zm184 dJ6_bitCount_0f7a4_7 rfl).trans ?_
  refine (ze_isub 9 zm184 dJ6_bitCount_0f7a4_8 rfl).trans ?_
  refine (ze_istore_n (A := 99) (ls' := [some (.int (v0 - ((v0.toUInt32 >>> ((1 : Int32).toUInt32 &&& Int32.toUInt32 31)).toInt32 &&& (1431655765 : Int32))))]) 10 zm184 dJ6_bitCount_0f7a4_9 za184 rfl rfl rfl rfl rfl).trans ?_
  refine (ze_iload_n 11 zm184 dJ6_bitCount_0f7a4_10 rfl rfl).trans ?_
  refine (ze_ldc_w 14 zm184 dJ6_bitCount_0f7a4_11 zi_11_266 rfl).trans ?_
  refine (ze_iand 15 zm184 dJ6_bitCount_0f7a4_14 rfl).trans ?_
  refine (ze_iload_n 16 zm184 dJ6_bitCount_0f7a4_15 rfl rfl).trans ?_
  refine (ze_iconst 17 zm184 dJ6_bitCount_0f7a4_16 ci_2 rfl).trans ?_
  refine (ze_iushr 18 zm184 dJ6_bitCount_0f7a4_17 rfl).trans ?_
  refine (ze_ldc_w 21 zm184 dJ6_bitCount_0f7a4_18 zi_11_266 rfl).trans ?_
  refine (ze_iand 22 zm184 dJ6_bitCount_0f7a4_21 rfl).trans ?_
  refine (ze_iadd 23 zm184 dJ6_bitCount_0f7a4_22 rfl).trans ?_
  refine (ze_istore_n (A := 99) (ls' := [some (.int (((v0 - ((v0.toUInt32 >>> ((1 : Int32).toUInt32 &&& Int32.toUInt32 31)).toInt32 &&& (1431655765 : Int32))) &&& (858993459 : Int32)) + (((v0 - ((v0.toUInt32 >>> ((1 : Int32).toUInt32 &&& Int32.toUInt32 31)).toInt32 &&& (1431655765 : Int32))).toUInt32 >>> ((2 : Int32).toUInt32 &&& Int32.toUInt32 31)).toInt32 &&& (858993459 : Int32))))]) 24 zm184 dJ6_bitCount_0f7a4_23 za184 rfl rfl rfl rfl rfl).trans ?_
  refine (ze_iload_n 25 zm184 dJ6_bitCount_0f7a4_24 rfl rfl).trans ?_
  refine (ze_iload_n 26 zm184 dJ6_bitCount_0f7a4_25 rfl rfl).trans ?_
  refine (ze_iconst 27 zm184 dJ6_bitCount_0f7a4_26 ci_4 rfl).trans ?_
  refine (ze_iushr 28 zm184 dJ6_bitCount_0f7a4_27 rfl).trans ?_
  refine (ze_iadd 29 zm184 dJ6_bitCount_0f7a4_28 rfl).trans ?_
  refine (ze_ldc_w 32 zm184 dJ6_bitCount_0f7a4_29 zi_11_267 rfl).trans ?_
  refine (ze_iand 33 zm184 dJ6_bitCount_0f7a4_32 rfl).trans ?_
  refine (ze_istore_n (A := 99) (ls' := [some (.int (((((v0 - ((v0.toUInt32 >>> ((1 : Int32).toUInt32 &&& Int32.toUInt32 31)).toInt32 &&& (1431655765 : Int32))) &&& (858993459 : Int32)) + (((v0 - ((v0.toUInt32 >>> ((1 : Int32).toUInt32 &&& Int32.toUInt32 31)).toInt32 &&& (1431655765 : Int32))).toUInt32 >>> ((2 : Int32).toUInt32 &&& Int32.toUInt32 31)).toInt32 &&& (858993459 : Int32))) + ((((v0 - ((v0.toUInt32 >>> ((1 : Int32).toUInt32 &&& Int32.toUInt32 31)).toInt32 &&& (1431655765 : Int32))) &&& (858993459 : Int32)) + (((v0 - ((v0.toUInt32 >>> ((1 : Int32).toUInt32 &&& Int32.toUInt32 31)).toInt32 &&& (1431655765 : Int32))).toUInt32 >>> ((2 : Int32).toUInt32 &&& Int32.toUInt32 31)).toInt32 &&& (858993459 : Int32))).toUInt32 >>> ((4 : Int32).toUInt32 &&& Int32.toUInt32 31)).toInt32) &&& (252645135 : Int32)))]) 34 zm184 dJ6_bitCount_0f7a4_33 za184 rfl rfl rfl rfl rfl).trans ?_
  refine (ze_iload_n 35 zm184 dJ6_bitCount_0f7a4_34 rfl rfl).trans ?_
  refine (ze_iload_n 36 zm184 dJ6_bitCount_0f7a4_35 rfl rfl).trans ?_
  refine (ze_bipush 38 zm184 dJ6_bitCount_0f7a4_36 cb_8 rfl).trans ?_
  refine (ze_iushr 39 zm184 dJ6_bitCount_0f7a4_38 rfl).trans ?_
  refine (ze_iadd 40 zm184 dJ6_bitCount_0f7a4_39 rfl).trans ?_
  refine (ze_istore_n (A := 99) (ls' := [some (.int ((((((v0 - ((v0.toUInt32 >>> ((1 : Int32).toUInt32 &&& Int32.toUInt32 31)).toInt32 &&& (1431655765 : Int32))) &&& (858993459 : Int32)) + (((v0 - ((v0.toUInt32 >>> ((1 : Int32).toUInt32 &&& Int32.toUInt32 31)).toInt32 &&& (1431655765 : Int32))).toUInt32 >>> ((2 : Int32).toUInt32 &&& Int32.toUInt32 31)).toInt32 &&& (858993459 : Int32))) + ((((v0 - ((v0.toUInt32 >>> ((1 : Int32).toUInt32 &&& Int32.toUInt32 31)).toInt32 &&& (1431655765 : Int32))) &&& (858993459 : Int32)) + (((v0 - ((v0.toUInt32 >>> ((1 : Int32).toUInt32 &&& Int32.toUInt32 31)).toInt32 &&& (1431655765 : Int32))).toUInt32 >>> ((2 : Int32).toUInt32 &&& Int32.toUInt32 31)).toInt32 &&& (858993459 : Int32))).toUInt32 >>> ((4 : Int32).toUInt32 &&& Int32.toUInt32 31)).toInt32) &&& (252645135 : Int32)) + ((((((v0 - ((v0.toUInt32 >>> ((1 : Int32).toUInt32 &&& Int32.toUInt32 31)).toInt32 &&& (1431655765 : Int32))) &&& (858993459 : Int32)) + (((v0 - ((v0.toUInt32 >>> ((1 : Int32).toUInt32 &&& Int32.toUInt32 31)).toInt32 &&& (1431655765 : Int32))).toUInt32 >>> ((2 : Int32).toUInt32 &&& Int32.toUInt32 31)).toInt32 &&& (858993459 : Int32))) + ((((v0 - ((v0.toUInt32 >>> ((1 : Int32).toUInt32 &&& Int32.toUInt32 31)).toInt32 &&& (1431655765 : Int32))) &&& (858993459 : Int32)) + (((v0 - ((v0.toUInt32 >>> ((1 : Int32).toUInt32 &&& Int32.toUInt32 31)).toInt32 &&& (1431655765 : Int32))).toUInt32 >>> ((2 : Int32).toUInt32 &&& Int32.toUInt32 31)).toInt32 &&& (858993459 : Int32))).toUInt32 >>> ((4 : Int32).toUInt32 &&& Int32.toUInt32 31)).toInt32) &&& (252645135 : Int32)).toUInt32 >>> ((8 : Int32).toUInt32 &&& Int32.toUInt32 31)).toInt32))]) 41 zm184 dJ6_bitCount_0f7a4_40 za184 rfl rfl rfl rfl rfl).trans ?_
  refine (ze_iload_n 42 zm184 dJ6_bitCount_0f7a4_41 rfl rfl).trans ?_
  refine (ze_iload_n 43 zm184 dJ6_bitCount_0f7a4_42 rfl rfl).trans ?_
  refine (ze_bipush 45 zm184 dJ6_bitCount_0f7a4_43 cb_16 rfl).trans ?_
  refine (ze_iushr 46 zm184 dJ6_bitCount_0f7a4_45 rfl).trans ?_
  refine (ze_iadd 47 zm184 dJ6_bitCount_0f7a4_46 rfl).trans ?_
  refine (ze_istore_n (A := 99) (ls' := [some (.int (((((((v0 - ((v0.toUInt32 >>> ((1 : Int32).toUInt32 &&& Int32.toUInt32 31)).toInt32 &&& (1431655765 : Int32))) &&& (858993459 : Int32)) + (((v0 - ((v0.toUInt32 >>> ((1 : Int32).toUInt32 &&& Int32.toUInt32 31)).toInt32 &&& (1431655765 : Int32))).toUInt32 >>> ((2 : Int32).toUInt32 &&& Int32.toUInt32 31)).toInt32 &&& (858993459 : Int32))) + ((((v0 - ((v0.toUInt32 >>> ((1 : Int32).toUInt32 &&& Int32.toUInt32 31)).toInt32 &&& (1431655765 : Int32))) &&& (858993459 : Int32)) + (((v0 - ((v0.toUInt32 >>> ((1 : Int32).toUInt32 &&& Int32.toUInt32 31)).toInt32 &&& (1431655765 : Int32))).toUInt32 >>> ((2 : Int32).toUInt32 &&& Int32.toUInt32 31)).toInt32 &&& (858993459 : Int32))).toUInt32 >>> ((4 : Int32).toUInt32 &&& Int32.toUInt32 31)).toInt32) &&& (252645135 : Int32)) + ((((((v0 - ((v0.toUInt32 >>> ((1 : Int32).toUInt32 &&& Int32.toUInt32 31)).toInt32 &&& (1431655765 : Int32))) &&& (858993459 : Int32)) + (((v0 - ((v0.toUInt32 >>> ((1 : Int32).toUInt32 &&& Int32.toUInt32 31)).toInt32 &&& (1431655765 : Int32))).toUInt32 >>> ((2 : Int32).toUInt32 &&& Int32.toUInt32 31)).toInt32 &&& (858993459 : Int32))) + ((((v0 - ((v0.toUInt32 >>> ((1 : Int32).toUInt32 &&& Int32.toUInt32 31)).toInt32 &&& (1431655765 : Int32))) &&& (858993459 : Int32)) + (((v0 - ((v0.toUInt32 >>> ((1 : Int32).toUInt32 &&& Int32.toUInt32 31)).toInt32 &&& (1431655765 : Int32))).toUInt32 >>> ((2 : Int32).toUInt32 &&& Int32.toUInt32 31)).toInt32 &&& (858993459 : Int32))).toUInt32 >>> ((4 : Int32).toUInt32 &&& Int32.toUInt32 31)).toInt32) &&& (252645135 : Int32)).toUInt32 >>> ((8 : Int32).toUInt32 &&& Int32.toUInt32 31)).toInt32) + (((((((v0 - ((v0.toUInt32 >>> ((1 : Int32).toUInt32 &&& Int32.toUInt32 31)).toInt32 &&& (1431655765 : Int32))) &&& (858993459 : Int32)) + (((v0 - ((v0.toUInt32 >>> ((1 : Int32).toUInt32 &&& Int32.toUInt32 31)).toInt32 &&& (1431655765 : Int32))).toUInt32 >>> ((2 : Int32).toUInt32 &&& Int32.toUInt32 31)).toInt32 &&& (858993459 : Int32))) + ((((v0 - ((v0.toUInt32 >>> ((1 : Int32).toUInt32 &&& Int32.toUInt32 31)).toInt32 &&& (1431655765 : Int32))) &&& (858993459 : Int32)) + (((v0 - ((v0.toUInt32 >>> ((1 : Int32).toUInt32 &&& Int32.toUInt32 31)).toInt32 &&& (1431655765 : Int32))).toUInt32 >>> ((2 : Int32).toUInt32 &&& Int32.toUInt32 31)).toInt32 &&& (858993459 : Int32))).toUInt32 >>> ((4 : Int32).toUInt32 &&& Int32.toUInt32 31)).toInt32) &&& (252645135 : Int32)) + ((((((v0 - ((v0.toUInt32 >>> ((1 : Int32).toUInt32 &&& Int32.toUInt32 31)).toInt32 &&& (1431655765 : Int32))) &&& (858993459 : Int32)) + (((v0 - ((v0.toUInt32 >>> ((1 : Int32).toUInt32 &&& Int32.toUInt32 31)).toInt32 &&& (1431655765 : Int32))).toUInt32 >>> ((2 : Int32).toUInt32 &&& Int32.toUInt32 31)).toInt32 &&& (858993459 : Int32))) + ((((v0 - ((v0.toUInt32 >>> ((1 : Int32).toUInt32 &&& Int32.toUInt32 31)).toInt32 &&& (1431655765 : Int32))) &&& (858993459 : Int32)) + (((v0 - ((v0.toUInt32 >>> ((1 : Int32).toUInt32 &&& Int32.toUInt32 31)).toInt32 &&& (1431655765 : Int32))).toUInt32 >>> ((2 : Int32).toUInt32 &&& Int32.toUInt32 31)).toInt32 &&& (858993459 : Int32))).toUInt32 >>> ((4 : Int32).toUInt32 &&& Int32.toUInt32 31)).toInt32) &&& (252645135 : Int32)).toUInt32 >>> ((8 : Int32).toUInt32 &&& Int32.toUInt32 31)).toInt32).toUInt32 >>> ((16 : Int32).toUInt32 &&& Int32.toUInt32 31)).toInt32))]) 48 zm184 dJ6_bitCount_0f7a4_47 za184 rfl rfl rfl rfl rfl).trans ?_
  refine (ze_iload_n 49 zm184 dJ6_bitCount_0f7a4_48 rfl rfl).trans ?_
  refine (ze_bipush 51 zm184 dJ6_bitCount_0f7a4_49 cb_63 rfl).trans ?_
  refine (ze_iand 52 zm184 dJ6_bitCount_0f7a4_51 rfl).trans ?_
  exact ze_ireturn zm184 dJ6_bitCount_0f7a4_52 rfl
