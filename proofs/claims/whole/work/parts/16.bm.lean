/-! HarpFencesModel.in (III)Z: method 119 -/
theorem b119_0 (sc : zScr) (v0 : Int32) (v1 : Int32) (v2 : Int32) (i : Nat → Nat → Int32) (b : Bool) (l : Nat → Nat → Int64) : zev sc (119, 0, [some (.int v0), some (.int v1), some (.int v2)], [], (197, i, (zRF b), l)) = if v0 < v1 then zev sc (119, 14, [some (.int v0), some (.int v1), some (.int v2)], [], (197, i, (zRF b), l)) else zev sc (119, 5, [some (.int v0), some (.int v1), some (.int v2)], [], (197, i, (zRF b), l)) := by
  refine (ze_iload_n 1 zm119 dX10_in_0 rfl rfl).trans ?_
  refine (ze_iload_n 2 zm119 dX10_in_1 rfl rfl).trans ?_
  exact ze_icmp_lt 14 5 zm119 dX10_in_2 (by decide) rfl
theorem b119_5 (sc : zScr) (v0 : Int32) (v1 : Int32) (v2 : Int32) (i : Nat → Nat → Int32) (b : Bool) (l : Nat → Nat → Int64) : zev sc (119, 5, [some (.int v0), some (.int v1), some (.int v2)], [], (197, i, (zRF b), l)) = if v2 < v0 then zev sc (119, 14, [some (.int v0), some (.int v1), some (.int v2)], [], (197, i, (zRF b), l)) else zev sc (119, 10, [some (.int v0), some (.int v1), some (.int v2)], [], (197, i, (zRF b), l)) := by
  refine (ze_iload_n 6 zm119 dX10_in_5 rfl rfl).trans ?_
  refine (ze_iload_n 7 zm119 dX10_in_6 rfl rfl).trans ?_
  exact ze_icmp_gt 14 10 zm119 dX10_in_7 (by decide) rfl
theorem b119_10 (sc : zScr) (v0 : Int32) (v1 : Int32) (v2 : Int32) (i : Nat → Nat → Int32) (b : Bool) (l : Nat → Nat → Int64) : zev sc (119, 10, [some (.int v0), some (.int v1), some (.int v2)], [], (197, i, (zRF b), l)) = zev sc (119, 15, [some (.int v0), some (.int v1), some (.int v2)], [.int (1 : Int32)], (197, i, (zRF b), l)) := by
  refine (ze_iconst 11 zm119 dX10_in_10 ci_1 rfl).trans ?_
  exact ze_goto 15 zm119 dX10_in_11 (by decide)
theorem b119_14 (sc : zScr) (v0 : Int32) (v1 : Int32) (v2 : Int32) (i : Nat → Nat → Int32) (b : Bool) (l : Nat → Nat → Int64) : zev sc (119, 14, [some (.int v0), some (.int v1), some (.int v2)], [], (197, i, (zRF b), l)) = zev sc (119, 15, [some (.int v0), some (.int v1), some (.int v2)], [.int (0 : Int32)], (197, i, (zRF b), l)) := by
  refine (ze_iconst 15 zm119 dX10_in_14 ci_0 rfl).trans ?_
  rfl
theorem b119_15 (sc : zScr) (v0 : Int32) (v1 : Int32) (v2 : Int32) (s0 : Int32) (i : Nat → Nat → Int32) (b : Bool) (l : Nat → Nat → Int64) (h1 : s0 = 0 ∨ s0 = 1) : zev sc (119, 15, [some (.int v0), some (.int v1), some (.int v2)], [.int s0], (197, i, (zRF b), l)) = some (.int s0, (197, i, (zRF b), l)) := by
  exact ze_zreturn zm119 dX10_in_15 rfl h1
/-! HarpFencesModel.has (II)Z: method 120 -/
theorem b120_0 (sc : zScr) (v0 : Int32) (v1 : Int32) (i : Nat → Nat → Int32) (b : Bool) (l : Nat → Nat → Int64) : zev sc (120, 0, [some (.int v0), some (.int v1)], [], (197, i, (zRF b), l)) = if ((v0 >>> (v1 &&& 31)) &&& (1 : Int32)) = (1 : Int32) then zev sc (120, 9, [some (.int v0), some (.int v1)], [], (197, i, (zRF b), l)) else zev sc (120, 13, [some (.int v0), some (.int v1)], [], (197, i, (zRF b), l)) := by
  refine (ze_iload_n 1 zm120 dX10_has_0 rfl rfl).trans ?_
  refine (ze_iload_n 2 zm120 dX10_has_1 rfl rfl).trans ?_
  refine (ze_ishr 3 zm120 dX10_has_2 rfl).trans ?_
  refine (ze_iconst 4 zm120 dX10_has_3 ci_1 rfl).trans ?_
  refine (ze_iand 5 zm120 dX10_has_4 rfl).trans ?_
  refine (ze_iconst 6 zm120 dX10_has_5 ci_1 rfl).trans ?_
  exact ze_icmp_ne 13 9 zm120 dX10_has_6 (by decide) rfl
theorem b120_9 (sc : zScr) (v0 : Int32) (v1 : Int32) (i : Nat → Nat → Int32) (b : Bool) (l : Nat → Nat → Int64) : zev sc (120, 9, [some (.int v0), some (.int v1)], [], (197, i, (zRF b), l)) = zev sc (120, 14, [some (.int v0), some (.int v1)], [.int (1 : Int32)], (197, i, (zRF b), l)) := by
  refine (ze_iconst 10 zm120 dX10_has_9 ci_1 rfl).trans ?_
  exact ze_goto 14 zm120 dX10_has_10 (by decide)
theorem b120_13 (sc : zScr) (v0 : Int32) (v1 : Int32) (i : Nat → Nat → Int32) (b : Bool) (l : Nat → Nat → Int64) : zev sc (120, 13, [some (.int v0), some (.int v1)], [], (197, i, (zRF b), l)) = zev sc (120, 14, [some (.int v0), some (.int v1)], [.int (0 : Int32)], (197, i, (zRF b), l)) := by
  refine (ze_iconst 14 zm120 dX10_has_13 ci_0 rfl).trans ?_
  rfl
theorem b120_14 (sc : zScr) (v0 : Int32) (v1 : Int32) (s0 : Int32) (i : Nat → Nat → Int32) (b : Bool) (l : Nat → Nat → Int64) (h1 : s0 = 0 ∨ s0 = 1) : zev sc (120, 14, [some (.int v0), some (.int v1)], [.int s0], (197, i, (zRF b), l)) = some (.int s0, (197, i, (zRF b), l)) := by
  exact ze_zreturn zm120 dX10_has_14 rfl h1
/-! HarpFencesModel.type (I)I: method 121 -/
theorem b121_0 (sc : zScr) (v1 : Int32) (i : Nat → Nat → Int32) (b : Bool) (l : Nat → Nat → Int64) : zev sc (121, 0, [some (.ref 173), some (.int v1)], [], (197, i, (zRF b), l)) = (zev sc (119, 0, [some (.int v1), some (.int (0 : Int32)), some (.int (255 : Int32))], [], (197, i, (zRF b), l))).bind (fun x => zev sc (121, 8, [some (.ref 173), some (.int v1)], [x.1], x.2)) := by
  refine (ze_iload_n 1 zm121 dX10_type_0 rfl rfl).trans ?_
  refine (ze_iconst 2 zm121 dX10_type_1 ci_0 rfl).trans ?_
  refine (ze_sipush 5 zm121 dX10_type_2 cs_255 rfl).trans ?_
  exact ze_statI (as := [.int v1, .int (0 : Int32), .int (255 : Int32)]) (rest := []) 8 zm121 dX10_type_5 r10_81 zm119 rfl rfl rfl rfl rfl rfl
theorem b121_8 (sc : zScr) (v1 : Int32) (s0 : Int32) (i : Nat → Nat → Int32) (b : Bool) (l : Nat → Nat → Int64) : zev sc (121, 8, [some (.ref 173), some (.int v1)], [.int s0], (197, i, (zRF b), l)) = if s0 = 0 then zev sc (121, 11, [some (.ref 173), some (.int v1)], [], (197, i, (zRF b), l)) else zev sc (121, 13, [some (.ref 173), some (.int v1)], [], (197, i, (zRF b), l)) := by
  exact ze_if_ne 13 11 zm121 dX10_type_8 (by decide) rfl
theorem b121_11 (sc : zScr) (v1 : Int32) (i : Nat → Nat → Int32) (b : Bool) (l : Nat → Nat → Int64) : zev sc (121, 11, [some (.ref 173), some (.int v1)], [], (197, i, (zRF b), l)) = some (.int (-1 : Int32), (197, i, (zRF b), l)) := by
  refine (ze_iconst 12 zm121 dX10_type_11 ci_m1 rfl).trans ?_
  exact ze_ireturn zm121 dX10_type_12 rfl
theorem b121_13 (sc : zScr) (v1 : Int32) (i : Nat → Nat → Int32) (b : Bool) (l : Nat → Nat → Int64) : zev sc (121, 13, [some (.ref 173), some (.int v1)], [], (197, i, (zRF b), l)) = if (i 173 1) = (150 : Int32) then zev sc (121, 23, [some (.ref 173), some (.int v1)], [], (197, i, (zRF b), l)) else zev sc (121, 26, [some (.ref 173), some (.int v1)], [], (197, i, (zRF b), l)) := by
  refine (ze_aload_n 14 zm121 dX10_type_13 rfl rfl).trans ?_
  refine (ze_getI 17 zm121 dX10_type_14 f10_85 k173_10 (Or.inl t10_1) rfl).trans ?_
  refine (ze_sipush 20 zm121 dX10_type_17 cs_150 rfl).trans ?_
  exact ze_icmp_ne 26 23 zm121 dX10_type_20 (by decide) rfl
theorem b121_23 (sc : zScr) (v1 : Int32) (i : Nat → Nat → Int32) (b : Bool) (l : Nat → Nat → Int64) : zev sc (121, 23, [some (.ref 173), some (.int v1)], [], (197, i, (zRF b), l)) = some (.int (-3 : Int32), (197, i, (zRF b), l)) := by
  refine (ze_bipush 25 zm121 dX10_type_23 cb_m3 rfl).trans ?_
  exact ze_ireturn zm121 dX10_type_25 rfl
theorem b121_26 (sc : zScr) (v1 : Int32) (i : Nat → Nat → Int32) (b : Bool) (l : Nat → Nat → Int64) (h1 : vp_in (i 173 1) 150) : zev sc (121, 26, [some (.ref 173), some (.int v1)], [], (197, i, (zRF b), l)) = some (.int ((zU (zU i 174 ((i 173 1)).toNatClampNeg (vp_nar .byte (v1).toInt8.toInt32)) 173 1 (((zU i 174 ((i 173 1)).toNatClampNeg (vp_nar .byte (v1).toInt8.toInt32)) 173 1) + (1 : Int32))) 173 1), (197, (zU (zU i 174 ((i 173 1)).toNatClampNeg (vp_nar .byte (v1).toInt8.toInt32)) 173 1 (((zU i 174 ((i 173 1)).toNatClampNeg (vp_nar .byte (v1).toInt8.toInt32)) 173 1) + (1 : Int32))), (zRF b), l)) := by
  refine (ze_aload_n 27 zm121 dX10_type_26 rfl rfl).trans ?_
  refine (ze_getR 30 zm121 dX10_type_27 f10_7 k173_10 t10_0 (rr173_0 b) rfl).trans ?_
  refine (ze_aload_n 31 zm121 dX10_type_30 rfl rfl).trans ?_
  refine (ze_getI 34 zm121 dX10_type_31 f10_85 k173_10 (Or.inl t10_1) rfl).trans ?_
  refine (ze_iload_n 35 zm121 dX10_type_34 rfl rfl).trans ?_
  refine (ze_i2b 36 zm121 dX10_type_35 rfl).trans ?_
  refine (ze_bastoreB (t := ((i 173 1)).toNatClampNeg) 37 zm121 dX10_type_36 k174_101 n174 h1 rfl rfl).trans ?_
  refine (ze_aload_n 38 zm121 dX10_type_37 rfl rfl).trans ?_
  refine (ze_dup 39 zm121 dX10_type_38 rfl rfl).trans ?_
  refine (ze_getI 42 zm121 dX10_type_39 f10_85 k173_10 (Or.inl t10_1) rfl).trans ?_
  refine (ze_iconst 43 zm121 dX10_type_42 ci_1 rfl).trans ?_
  refine (ze_iadd 44 zm121 dX10_type_43 rfl).trans ?_
  refine (ze_putI 47 zm121 dX10_type_44 f10_85 k173_10 (Or.inl fn10_1) t10_1 rfl).trans ?_
  refine (ze_aload_n 48 zm121 dX10_type_47 rfl rfl).trans ?_
  refine (ze_getI 51 zm121 dX10_type_48 f10_85 k173_10 (Or.inl t10_1) rfl).trans ?_
  exact ze_ireturn zm121 dX10_type_51 rfl
/-! HarpFencesModel.clear ()I: method 122 -/
theorem b122_0 (sc : zScr) (i : Nat → Nat → Int32) (b : Bool) (l : Nat → Nat → Int64) : zev sc (122, 0, [some (.ref 173), none], [], (197, i, (zRF b), l)) = some (.int (i 173 1), (197, (zU i 173 1 (0 : Int32)), (zRF b), l)) := by
  refine (ze_aload_n 1 zm122 dX10_clear_0 rfl rfl).trans ?_
  refine (ze_getI 4 zm122 dX10_clear_1 f10_85 k173_10 (Or.inl t10_1) rfl).trans ?_
  refine (ze_istore_n (A := 99) (ls' := [some (.ref 173), some (.int (i 173 1))]) 5 zm122 dX10_clear_4 za122 rfl rfl rfl rfl rfl).trans ?_
  refine (ze_aload_n 6 zm122 dX10_clear_5 rfl rfl).trans ?_
  refine (ze_iconst 7 zm122 dX10_clear_6 ci_0 rfl).trans ?_
  refine (ze_putI 10 zm122 dX10_clear_7 f10_85 k173_10 (Or.inl fn10_1) t10_1 rfl).trans ?_
  refine (ze_iload_n 11 zm122 dX10_clear_10 rfl rfl).trans ?_
  exact ze_ireturn zm122 dX10_clear_11 rfl
/-! HarpFencesModel.here ()I: method 123 -/
theorem b123_0 (sc : zScr) (i : Nat → Nat → Int32) (b : Bool) (l : Nat → Nat → Int64) : zev sc (123, 0, [some (.ref 173)], [], (197, i, (zRF b), l)) = if (i 173 1) ≤ (i 173 14) then zev sc (123, 27, [some (.ref 173)], [], (197, i, (zRF b), l)) else zev sc (123, 11, [some (.ref 173)], [], (197, i, (zRF b), l)) := by
  refine (ze_aload_n 1 zm123 dX10_here_0 rfl rfl).trans ?_
  refine (ze_getI 4 zm123 dX10_here_1 f10_89 k173_10 (Or.inl t10_14) rfl).trans ?_
  refine (ze_aload_n 5 zm123 dX10_here_4 rfl rfl).trans ?_
  refine (ze_getI 8 zm123 dX10_here_5 f10_85 k173_10 (Or.inl t10_1) rfl).trans ?_
  exact ze_icmp_ge 27 11 zm123 dX10_here_8 (by decide) rfl
theorem b123_11 (sc : zScr) (i : Nat → Nat → Int32) (b : Bool) (l : Nat → Nat → Int64) (h1 : vp_in (i 173 14) 150) : zev sc (123, 11, [some (.ref 173)], [], (197, i, (zRF b), l)) = zev sc (123, 29, [some (.ref 173)], [.int ((i 174 ((i 173 14)).toNatClampNeg) &&& (255 : Int32))], (197, i, (zRF b), l)) := by
  refine (ze_aload_n 12 zm123 dX10_here_11 rfl rfl).trans ?_
  refine (ze_getR 15 zm123 dX10_here_12 f10_7 k173_10 t10_0 (rr173_0 b) rfl).trans ?_
  refine (ze_aload_n 16 zm123 dX10_here_15 rfl rfl).trans ?_
  refine (ze_getI 19 zm123 dX10_here_16 f10_89 k173_10 (Or.inl t10_14) rfl).trans ?_
  refine (ze_baload (t := ((i 173 14)).toNatClampNeg) 20 zm123 dX10_here_19 (Or.inl k174_101) n174 h1 rfl rfl).trans ?_
  refine (ze_sipush 23 zm123 dX10_here_20 cs_255 rfl).trans ?_
  refine (ze_iand 24 zm123 dX10_here_23 rfl).trans ?_
  exact ze_goto 29 zm123 dX10_here_24 (by decide)
theorem b123_27 (sc : zScr) (i : Nat → Nat → Int32) (b : Bool) (l : Nat → Nat → Int64) : zev sc (123, 27, [some (.ref 173)], [], (197, i, (zRF b), l)) = zev sc (123, 29, [some (.ref 173)], [.int (-9 : Int32)], (197, i, (zRF b), l)) := by
  refine (ze_bipush 29 zm123 dX10_here_27 cb_m9 rfl).trans ?_
  rfl
theorem b123_29 (sc : zScr) (s0 : Int32) (i : Nat → Nat → Int32) (b : Bool) (l : Nat → Nat → Int64) : zev sc (123, 29, [some (.ref 173)], [.int s0], (197, i, (zRF b), l)) = some (.int s0, (197, i, (zRF b), l)) := by
  exact ze_ireturn zm123 dX10_here_29 rfl
/-! HarpFencesModel.step ()V: method 124 -/
theorem b124_0 (sc : zScr) (i : Nat → Nat → Int32) (b : Bool) (l : Nat → Nat → Int64) : zev sc (124, 0, [some (.ref 173), none], [], (197, i, (zRF b), l)) = (zev sc (123, 0, [some (.ref 173)], [], (197, i, (zRF b), l))).bind (fun x => zev sc (124, 4, [some (.ref 173), none], [x.1], x.2)) := by
  refine (ze_aload_n 1 zm124 dX10_step_0 rfl rfl).trans ?_
  exact ze_virtI (as := []) (rest := []) 4 zm124 dX10_step_1 r10_92 zm123 rfl rfl k173_10 rfl rfl rfl rfl
theorem b124_4 (sc : zScr) (s0 : Int32) (i : Nat → Nat → Int32) (b : Bool) (l : Nat → Nat → Int64) : zev sc (124, 4, [some (.ref 173), none], [.int s0], (197, i, (zRF b), l)) = if s0 = (32 : Int32) then zev sc (124, 9, [some (.ref 173), none], [], (197, i, (zRF b), l)) else zev sc (124, 22, [some (.ref 173), none], [], (197, i, (zRF b), l)) := by
  refine (ze_bipush 6 zm124 dX10_step_4 cb_32 rfl).trans ?_
  exact ze_icmp_ne 22 9 zm124 dX10_step_6 (by decide) rfl
theorem b124_9 (sc : zScr) (i : Nat → Nat → Int32) (b : Bool) (l : Nat → Nat → Int64) : zev sc (124, 9, [some (.ref 173), none], [], (197, i, (zRF b), l)) = zev sc (124, 0, [some (.ref 173), none], [], (197, (zU i 173 14 ((i 173 14) + (1 : Int32))), (zRF b), l)) := by
  refine (ze_aload_n 10 zm124 dX10_step_9 rfl rfl).trans ?_
  refine (ze_dup 11 zm124 dX10_step_10 rfl rfl).trans ?_
  refine (ze_getI 14 zm124 dX10_step_11 f10_89 k173_10 (Or.inl t10_14) rfl).trans ?_
  refine (ze_iconst 15 zm124 dX10_step_14 ci_1 rfl).trans ?_
  refine (ze_iadd 16 zm124 dX10_step_15 rfl).trans ?_
  refine (ze_putI 19 zm124 dX10_step_16 f10_89 k173_10 (Or.inl fn10_14) t10_14 rfl).trans ?_
  exact ze_goto 0 zm124 dX10_step_19 (by decide)
theorem b124_22 (sc : zScr) (i : Nat → Nat → Int32) (b : Bool) (l : Nat → Nat → Int64) : zev sc (124, 22, [some (.ref 173), none], [], (197, i, (zRF b), l)) = (zev sc (123, 0, [some (.ref 173)], [], (197, (zU (zU i 173 15 (i 173 14)) 173 17 (0 : Int32)), (zRF b), l))).bind (fun x => zev sc (124, 39, [some (.ref 173), none], [x.1], x.2)) := by
  refine (ze_aload_n 23 zm124 dX10_step_22 rfl rfl).trans ?_
  refine (ze_aload_n 24 zm124 dX10_step_23 rfl rfl).trans ?_
  refine (ze_getI 27 zm124 dX10_step_24 f10_89 k173_10 (Or.inl t10_14) rfl).trans ?_
  refine (ze_putI 30 zm124 dX10_step_27 f10_96 k173_10 (Or.inl fn10_15) t10_15 rfl).trans ?_
  refine (ze_aload_n 31 zm124 dX10_step_30 rfl rfl).trans ?_
  refine (ze_iconst 32 zm124 dX10_step_31 ci_0 rfl).trans ?_
  refine (ze_putI 35 zm124 dX10_step_32 f10_99 k173_10 (Or.inl fn10_17) t10_17 rfl).trans ?_
  refine (ze_aload_n 36 zm124 dX10_step_35 rfl rfl).trans ?_
  exact ze_virtI (as := []) (rest := []) 39 zm124 dX10_step_36 r10_92 zm123 rfl rfl k173_10 rfl rfl rfl rfl
theorem b124_39 (sc : zScr) (s0 : Int32) (i : Nat → Nat → Int32) (b : Bool) (l : Nat → Nat → Int64) : zev sc (124, 39, [some (.ref 173), none], [.int s0], (197, i, (zRF b), l)) = if s0 = (-9 : Int32) then zev sc (124, 46, [some (.ref 173), some (.int s0)], [], (197, i, (zRF b), l)) else zev sc (124, 54, [some (.ref 173), some (.int s0)], [], (197, i, (zRF b), l)) := by
  refine (ze_istore_n (A := 99) (ls' := [some (.ref 173), some (.int s0)]) 40 zm124 dX10_step_39 za124 rfl rfl rfl rfl rfl).trans ?_
  refine (ze_iload_n 41 zm124 dX10_step_40 rfl rfl).trans ?_
  refine (ze_bipush 43 zm124 dX10_step_41 cb_m9 rfl).trans ?_
  exact ze_icmp_ne 54 46 zm124 dX10_step_43 (by decide) rfl
theorem b124_46 (sc : zScr) (v1 : Int32) (i : Nat → Nat → Int32) (b : Bool) (l : Nat → Nat → Int64) : zev sc (124, 46, [some (.ref 173), some (.int v1)], [], (197, i, (zRF b), l)) = zev sc (124, 260, [some (.ref 173), some (.int v1)], [], (197, (zU i 173 16 (4 : Int32)), (zRF b), l)) := by
  refine (ze_aload_n 47 zm124 dX10_step_46 rfl rfl).trans ?_
  refine (ze_iconst 48 zm124 dX10_step_47 ci_4 rfl).trans ?_
  refine (ze_putI 51 zm124 dX10_step_48 f10_102 k173_10 (Or.inl fn10_16) t10_16 rfl).trans ?_
  exact ze_goto 260 zm124 dX10_step_51 (by decide)
theorem b124_54 (sc : zScr) (v1 : Int32) (i : Nat → Nat → Int32) (b : Bool) (l : Nat → Nat → Int64) : zev sc (124, 54, [some (.ref 173), some (.int v1)], [], (197, i, (zRF b), l)) = (zev sc (119, 0, [some (.int v1), some (.int (48 : Int32)), some (.int (57 : Int32))], [], (197, i, (zRF b), l))).bind (fun x => zev sc (124, 62, [some (.ref 173), some (.int v1)], [x.1], x.2)) := by
  refine (ze_iload_n 55 zm124 dX10_step_54 rfl rfl).trans ?_
  refine (ze_bipush 57 zm124 dX10_step_55 cb_48 rfl).trans ?_
  refine (ze_bipush 59 zm124 dX10_step_57 cb_57 rfl).trans ?_
  exact ze_statI (as := [.int v1, .int (48 : Int32), .int (57 : Int32)]) (rest := []) 62 zm124 dX10_step_59 r10_81 zm119 rfl rfl rfl rfl rfl rfl
theorem b124_62 (sc : zScr) (v1 : Int32) (s0 : Int32) (i : Nat → Nat → Int32) (b : Bool) (l : Nat → Nat → Int64) : zev sc (124, 62, [some (.ref 173), some (.int v1)], [.int s0], (197, i, (zRF b), l)) = if s0 = 0 then zev sc (124, 167, [some (.ref 173), some (.int v1)], [], (197, i, (zRF b), l)) else zev sc (124, 65, [some (.ref 173), some (.int v1)], [], (197, i, (zRF b), l)) := by
  exact ze_if_eq 167 65 zm124 dX10_step_62 (by decide) rfl
theorem b124_65 (sc : zScr) (v1 : Int32) (i : Nat → Nat → Int32) (b : Bool) (l : Nat → Nat → Int64) : zev sc (124, 65, [some (.ref 173), some (.int v1)], [], (197, i, (zRF b), l)) = (zev sc (123, 0, [some (.ref 173)], [], (197, i, (zRF b), l))).bind (fun x => zev sc (124, 69, [some (.ref 173), some (.int v1)], [x.1], x.2)) := by
  refine (ze_aload_n 66 zm124 dX10_step_65 rfl rfl).trans ?_
  exact ze_virtI (as := []) (rest := []) 69 zm124 dX10_step_66 r10_92 zm123 rfl rfl k173_10 rfl rfl rfl rfl
theorem b124_69 (sc : zScr) (v1 : Int32) (s0 : Int32) (i : Nat → Nat → Int32) (b : Bool) (l : Nat → Nat → Int64) : zev sc (124, 69, [some (.ref 173), some (.int v1)], [.int s0], (197, i, (zRF b), l)) = (zev sc (119, 0, [some (.int s0), some (.int (48 : Int32)), some (.int (57 : Int32))], [], (197, i, (zRF b), l))).bind (fun x => zev sc (124, 76, [some (.ref 173), some (.int v1)], [x.1], x.2)) := by
  refine (ze_bipush 71 zm124 dX10_step_69 cb_48 rfl).trans ?_
  refine (ze_bipush 73 zm124 dX10_step_71 cb_57 rfl).trans ?_
  exact ze_statI (as := [.int s0, .int (48 : Int32), .int (57 : Int32)]) (rest := []) 76 zm124 dX10_step_73 r10_81 zm119 rfl rfl rfl rfl rfl rfl
theorem b124_76 (sc : zScr) (v1 : Int32) (s0 : Int32) (i : Nat → Nat → Int32) (b : Bool) (l : Nat → Nat → Int64) : zev sc (124, 76, [some (.ref 173), some (.int v1)], [.int s0], (197, i, (zRF b), l)) = if s0 = 0 then zev sc (124, 127, [some (.ref 173), some (.int v1)], [], (197, i, (zRF b), l)) else zev sc (124, 79, [some (.ref 173), some (.int v1)], [], (197, i, (zRF b), l)) := by
  exact ze_if_eq 127 79 zm124 dX10_step_76 (by decide) rfl
theorem b124_79 (sc : zScr) (v1 : Int32) (i : Nat → Nat → Int32) (b : Bool) (l : Nat → Nat → Int64) : zev sc (124, 79, [some (.ref 173), some (.int v1)], [], (197, i, (zRF b), l)) = if (i 173 17) ≤ (99 : Int32) then zev sc (124, 96, [some (.ref 173), some (.int v1)], [.ref 173], (197, i, (zRF b), l)) else zev sc (124, 89, [some (.ref 173), some (.int v1)], [.ref 173], (197, i, (zRF b), l)) := by
  refine (ze_aload_n 80 zm124 dX10_step_79 rfl rfl).trans ?_
  refine (ze_aload_n 81 zm124 dX10_step_80 rfl rfl).trans ?_
  refine (ze_getI 84 zm124 dX10_step_81 f10_99 k173_10 (Or.inl t10_17) rfl).trans ?_
  refine (ze_bipush 86 zm124 dX10_step_84 cb_99 rfl).trans ?_
  exact ze_icmp_le 96 89 zm124 dX10_step_86 (by decide) rfl
theorem b124_89 (sc : zScr) (v1 : Int32) (i : Nat → Nat → Int32) (b : Bool) (l : Nat → Nat → Int64) : zev sc (124, 89, [some (.ref 173), some (.int v1)], [.ref 173], (197, i, (zRF b), l)) = zev sc (124, 111, [some (.ref 173), some (.int v1)], [.int (i 173 17), .ref 173], (197, i, (zRF b), l)) := by
  refine (ze_aload_n 90 zm124 dX10_step_89 rfl rfl).trans ?_
  refine (ze_getI 93 zm124 dX10_step_90 f10_99 k173_10 (Or.inl t10_17) rfl).trans ?_
  exact ze_goto 111 zm124 dX10_step_93 (by decide)
theorem b124_96 (sc : zScr) (v1 : Int32) (i : Nat → Nat → Int32) (b : Bool) (l : Nat → Nat → Int64) : zev sc (124, 96, [some (.ref 173), some (.int v1)], [.ref 173], (197, i, (zRF b), l)) = (zev sc (123, 0, [some (.ref 173)], [], (197, i, (zRF b), l))).bind (fun x => zev sc (124, 107, [some (.ref 173), some (.int v1)], [x.1, .int ((10 : Int32) * (i 173 17)), .ref 173], x.2)) := by
  refine (ze_bipush 98 zm124 dX10_step_96 cb_10 rfl).trans ?_
  refine (ze_aload_n 99 zm124 dX10_step_98 rfl rfl).trans ?_
  refine (ze_getI 102 zm124 dX10_step_99 f10_99 k173_10 (Or.inl t10_17) rfl).trans ?_
  refine (ze_imul 103 zm124 dX10_step_102 rfl).trans ?_
  refine (ze_aload_n 104 zm124 dX10_step_103 rfl rfl).trans ?_
  exact ze_virtI (as := []) (rest := [.int ((10 : Int32) * (i 173 17)), .ref 173]) 107 zm124 dX10_step_104 r10_92 zm123 rfl rfl k173_10 rfl rfl rfl rfl
theorem b124_107 (sc : zScr) (v1 : Int32) (s0 : Int32) (s1 : Int32) (i : Nat → Nat → Int32) (b : Bool) (l : Nat → Nat → Int64) : zev sc (124, 107, [some (.ref 173), some (.int v1)], [.int s0, .int s1, .ref 173], (197, i, (zRF b), l)) = zev sc (124, 111, [some (.ref 173), some (.int v1)], [.int ((s1 + s0) - (48 : Int32)), .ref 173], (197, i, (zRF b), l)) := by
  refine (ze_iadd 108 zm124 dX10_step_107 rfl).trans ?_
  refine (ze_bipush 110 zm124 dX10_step_108 cb_48 rfl).trans ?_
  refine (ze_isub 111 zm124 dX10_step_110 rfl).trans ?_
  rfl
theorem b124_111 (sc : zScr) (v1 : Int32) (s0 : Int32) (i : Nat → Nat → Int32) (b : Bool) (l : Nat → Nat → Int64) : zev sc (124, 111, [some (.ref 173), some (.int v1)], [.int s0, .ref 173], (197, i, (zRF b), l)) = zev sc (124, 65, [some (.ref 173), some (.int v1)], [], (197, (zU (zU i 173 17 s0) 173 14 (((zU i 173 17 s0) 173 14) + (1 : Int32))), (zRF b), l)) := by
  refine (ze_putI 114 zm124 dX10_step_111 f10_99 k173_10 (Or.inl fn10_17) t10_17 rfl).trans ?_
  refine (ze_aload_n 115 zm124 dX10_step_114 rfl rfl).trans ?_
  refine (ze_dup 116 zm124 dX10_step_115 rfl rfl).trans ?_
  refine (ze_getI 119 zm124 dX10_step_116 f10_89 k173_10 (Or.inl t10_14) rfl).trans ?_
  refine (ze_iconst 120 zm124 dX10_step_119 ci_1 rfl).trans ?_
  refine (ze_iadd 121 zm124 dX10_step_120 rfl).trans ?_
  refine (ze_putI 124 zm124 dX10_step_121 f10_89 k173_10 (Or.inl fn10_14) t10_14 rfl).trans ?_
  exact ze_goto 65 zm124 dX10_step_124 (by decide)
theorem b124_127 (sc : zScr) (v1 : Int32) (i : Nat → Nat → Int32) (b : Bool) (l : Nat → Nat → Int64) : zev sc (124, 127, [some (.ref 173), some (.int v1)], [], (197, i, (zRF b), l)) = if (99 : Int32) < (i 173 17) then zev sc (124, 156, [some (.ref 173), some (.int v1)], [.ref 173], (197, i, (zRF b), l)) else zev sc (124, 137, [some (.ref 173), some (.int v1)], [.ref 173], (197, i, (zRF b), l)) := by
  refine (ze_aload_n 128 zm124 dX10_step_127 rfl rfl).trans ?_
  refine (ze_aload_n 129 zm124 dX10_step_128 rfl rfl).trans ?_
  refine (ze_getI 132 zm124 dX10_step_129 f10_99 k173_10 (Or.inl t10_17) rfl).trans ?_
  refine (ze_bipush 134 zm124 dX10_step_132 cb_99 rfl).trans ?_
  exact ze_icmp_gt 156 137 zm124 dX10_step_134 (by decide) rfl
theorem b124_137 (sc : zScr) (v1 : Int32) (i : Nat → Nat → Int32) (b : Bool) (l : Nat → Nat → Int64) : zev sc (124, 137, [some (.ref 173), some (.int v1)], [.ref 173], (197, i, (zRF b), l)) = if v1 = (48 : Int32) then zev sc (124, 143, [some (.ref 173), some (.int v1)], [.ref 173], (197, i, (zRF b), l)) else zev sc (124, 160, [some (.ref 173), some (.int v1)], [.ref 173], (197, i, (zRF b), l)) := by
  refine (ze_iload_n 138 zm124 dX10_step_137 rfl rfl).trans ?_
  refine (ze_bipush 140 zm124 dX10_step_138 cb_48 rfl).trans ?_
  exact ze_icmp_ne 160 143 zm124 dX10_step_140 (by decide) rfl
theorem b124_143 (sc : zScr) (v1 : Int32) (i : Nat → Nat → Int32) (b : Bool) (l : Nat → Nat → Int64) : zev sc (124, 143, [some (.ref 173), some (.int v1)], [.ref 173], (197, i, (zRF b), l)) = if ((i 173 14) - (i 173 15)) ≤ (1 : Int32) then zev sc (124, 160, [some (.ref 173), some (.int v1)], [.ref 173], (197, i, (zRF b), l)) else zev sc (124, 156, [some (.ref 173), some (.int v1)], [.ref 173], (197, i, (zRF b), l)) := by
  refine (ze_aload_n 144 zm124 dX10_step_143 rfl rfl).trans ?_
  refine (ze_getI 147 zm124 dX10_step_144 f10_89 k173_10 (Or.inl t10_14) rfl).trans ?_
  refine (ze_aload_n 148 zm124 dX10_step_147 rfl rfl).trans ?_
  refine (ze_getI 151 zm124 dX10_step_148 f10_96 k173_10 (Or.inl t10_15) rfl).trans ?_
  refine (ze_isub 152 zm124 dX10_step_151 rfl).trans ?_
  refine (ze_iconst 153 zm124 dX10_step_152 ci_1 rfl).trans ?_
  exact ze_icmp_le 160 156 zm124 dX10_step_153 (by decide) rfl
theorem b124_156 (sc : zScr) (v1 : Int32) (i : Nat → Nat → Int32) (b : Bool) (l : Nat → Nat → Int64) : zev sc (124, 156, [some (.ref 173), some (.int v1)], [.ref 173], (197, i, (zRF b), l)) = zev sc (124, 161, [some (.ref 173), some (.int v1)], [.int (5 : Int32), .ref 173], (197, i, (zRF b), l)) := by
  refine (ze_iconst 157 zm124 dX10_step_156 ci_5 rfl).trans ?_
  exact ze_goto 161 zm124 dX10_step_157 (by decide)
theorem b124_160 (sc : zScr) (v1 : Int32) (i : Nat → Nat → Int32) (b : Bool) (l : Nat → Nat → Int64) : zev sc (124, 160, [some (.ref 173), some (.int v1)], [.ref 173], (197, i, (zRF b), l)) = zev sc (124, 161, [some (.ref 173), some (.int v1)], [.int (2 : Int32), .ref 173], (197, i, (zRF b), l)) := by
  refine (ze_iconst 161 zm124 dX10_step_160 ci_2 rfl).trans ?_
  rfl
theorem b124_161 (sc : zScr) (v1 : Int32) (s0 : Int32) (i : Nat → Nat → Int32) (b : Bool) (l : Nat → Nat → Int64) : zev sc (124, 161, [some (.ref 173), some (.int v1)], [.int s0, .ref 173], (197, i, (zRF b), l)) = zev sc (124, 260, [some (.ref 173), some (.int v1)], [], (197, (zU i 173 16 s0), (zRF b), l)) := by
  refine (ze_putI 164 zm124 dX10_step_161 f10_102 k173_10 (Or.inl fn10_16) t10_16 rfl).trans ?_
  exact ze_goto 260 zm124 dX10_step_164 (by decide)
theorem b124_167 (sc : zScr) (v1 : Int32) (i : Nat → Nat → Int32) (b : Bool) (l : Nat → Nat → Int64) : zev sc (124, 167, [some (.ref 173), some (.int v1)], [], (197, i, (zRF b), l)) = (zev sc (119, 0, [some (.int v1), some (.int (97 : Int32)), some (.int (122 : Int32))], [], (197, i, (zRF b), l))).bind (fun x => zev sc (124, 175, [some (.ref 173), some (.int v1)], [x.1], x.2)) := by
  refine (ze_iload_n 168 zm124 dX10_step_167 rfl rfl).trans ?_
  refine (ze_bipush 170 zm124 dX10_step_168 cb_97 rfl).trans ?_
  refine (ze_bipush 172 zm124 dX10_step_170 cb_122 rfl).trans ?_
  exact ze_statI (as := [.int v1, .int (97 : Int32), .int (122 : Int32)]) (rest := []) 175 zm124 dX10_step_172 r10_81 zm119 rfl rfl rfl rfl rfl rfl
theorem b124_175 (sc : zScr) (v1 : Int32) (s0 : Int32) (i : Nat → Nat → Int32) (b : Bool) (l : Nat → Nat → Int64) : zev sc (124, 175, [some (.ref 173), some (.int v1)], [.int s0], (197, i, (zRF b), l)) = if s0 = 0 then zev sc (124, 235, [some (.ref 173), some (.int v1)], [], (197, i, (zRF b), l)) else zev sc (124, 178, [some (.ref 173), some (.int v1)], [], (197, i, (zRF b), l)) := by
  exact ze_if_eq 235 178 zm124 dX10_step_175 (by decide) rfl
theorem b124_178 (sc : zScr) (v1 : Int32) (i : Nat → Nat → Int32) (b : Bool) (l : Nat → Nat → Int64) : zev sc (124, 178, [some (.ref 173), some (.int v1)], [], (197, i, (zRF b), l)) = (zev sc (123, 0, [some (.ref 173)], [], (197, i, (zRF b), l))).bind (fun x => zev sc (124, 182, [some (.ref 173), some (.int v1)], [x.1], x.2)) := by
  refine (ze_aload_n 179 zm124 dX10_step_178 rfl rfl).trans ?_
  exact ze_virtI (as := []) (rest := []) 182 zm124 dX10_step_179 r10_92 zm123 rfl rfl k173_10 rfl rfl rfl rfl
theorem b124_182 (sc : zScr) (v1 : Int32) (s0 : Int32) (i : Nat → Nat → Int32) (b : Bool) (l : Nat → Nat → Int64) : zev sc (124, 182, [some (.ref 173), some (.int v1)], [.int s0], (197, i, (zRF b), l)) = (zev sc (119, 0, [some (.int s0), some (.int (97 : Int32)), some (.int (122 : Int32))], [], (197, i, (zRF b), l))).bind (fun x => zev sc (124, 189, [some (.ref 173), some (.int v1)], [x.1], x.2)) := by
  refine (ze_bipush 184 zm124 dX10_step_182 cb_97 rfl).trans ?_
  refine (ze_bipush 186 zm124 dX10_step_184 cb_122 rfl).trans ?_
  exact ze_statI (as := [.int s0, .int (97 : Int32), .int (122 : Int32)]) (rest := []) 189 zm124 dX10_step_186 r10_81 zm119 rfl rfl rfl rfl rfl rfl
theorem b124_189 (sc : zScr) (v1 : Int32) (s0 : Int32) (i : Nat → Nat → Int32) (b : Bool) (l : Nat → Nat → Int64) : zev sc (124, 189, [some (.ref 173), some (.int v1)], [.int s0], (197, i, (zRF b), l)) = if s0 = 0 then zev sc (124, 205, [some (.ref 173), some (.int v1)], [], (197, i, (zRF b), l)) else zev sc (124, 192, [some (.ref 173), some (.int v1)], [], (197, i, (zRF b), l)) := by
  exact ze_if_eq 205 192 zm124 dX10_step_189 (by decide) rfl
theorem b124_192 (sc : zScr) (v1 : Int32) (i : Nat → Nat → Int32) (b : Bool) (l : Nat → Nat → Int64) : zev sc (124, 192, [some (.ref 173), some (.int v1)], [], (197, i, (zRF b), l)) = zev sc (124, 178, [some (.ref 173), some (.int v1)], [], (197, (zU i 173 14 ((i 173 14) + (1 : Int32))), (zRF b), l)) := by
  refine (ze_aload_n 193 zm124 dX10_step_192 rfl rfl).trans ?_
  refine (ze_dup 194 zm124 dX10_step_193 rfl rfl).trans ?_
  refine (ze_getI 197 zm124 dX10_step_194 f10_89 k173_10 (Or.inl t10_14) rfl).trans ?_
  refine (ze_iconst 198 zm124 dX10_step_197 ci_1 rfl).trans ?_
  refine (ze_iadd 199 zm124 dX10_step_198 rfl).trans ?_
  refine (ze_putI 202 zm124 dX10_step_199 f10_89 k173_10 (Or.inl fn10_14) t10_14 rfl).trans ?_
  exact ze_goto 178 zm124 dX10_step_202 (by decide)
theorem b124_205 (sc : zScr) (v1 : Int32) (i : Nat → Nat → Int32) (b : Bool) (l : Nat → Nat → Int64) : zev sc (124, 205, [some (.ref 173), some (.int v1)], [], (197, i, (zRF b), l)) = if ((i 173 14) - (i 173 15)) = (1 : Int32) then zev sc (124, 219, [some (.ref 173), some (.int v1)], [.ref 173], (197, i, (zRF b), l)) else zev sc (124, 223, [some (.ref 173), some (.int v1)], [.ref 173], (197, i, (zRF b), l)) := by
  refine (ze_aload_n 206 zm124 dX10_step_205 rfl rfl).trans ?_
  refine (ze_aload_n 207 zm124 dX10_step_206 rfl rfl).trans ?_
  refine (ze_getI 210 zm124 dX10_step_207 f10_89 k173_10 (Or.inl t10_14) rfl).trans ?_
  refine (ze_aload_n 211 zm124 dX10_step_210 rfl rfl).trans ?_
  refine (ze_getI 214 zm124 dX10_step_211 f10_96 k173_10 (Or.inl t10_15) rfl).trans ?_
  refine (ze_isub 215 zm124 dX10_step_214 rfl).trans ?_
  refine (ze_iconst 216 zm124 dX10_step_215 ci_1 rfl).trans ?_
  exact ze_icmp_ne 223 219 zm124 dX10_step_216 (by decide) rfl
theorem b124_219 (sc : zScr) (v1 : Int32) (i : Nat → Nat → Int32) (b : Bool) (l : Nat → Nat → Int64) : zev sc (124, 219, [some (.ref 173), some (.int v1)], [.ref 173], (197, i, (zRF b), l)) = zev sc (124, 224, [some (.ref 173), some (.int v1)], [.int v1, .ref 173], (197, i, (zRF b), l)) := by
  refine (ze_iload_n 220 zm124 dX10_step_219 rfl rfl).trans ?_
  exact ze_goto 224 zm124 dX10_step_220 (by decide)
theorem b124_223 (sc : zScr) (v1 : Int32) (i : Nat → Nat → Int32) (b : Bool) (l : Nat → Nat → Int64) : zev sc (124, 223, [some (.ref 173), some (.int v1)], [.ref 173], (197, i, (zRF b), l)) = zev sc (124, 224, [some (.ref 173), some (.int v1)], [.int (0 : Int32), .ref 173], (197, i, (zRF b), l)) := by
  refine (ze_iconst 224 zm124 dX10_step_223 ci_0 rfl).trans ?_
  rfl
theorem b124_224 (sc : zScr) (v1 : Int32) (s0 : Int32) (i : Nat → Nat → Int32) (b : Bool) (l : Nat → Nat → Int64) : zev sc (124, 224, [some (.ref 173), some (.int v1)], [.int s0, .ref 173], (197, i, (zRF b), l)) = zev sc (124, 260, [some (.ref 173), some (.int v1)], [], (197, (zU (zU i 173 17 s0) 173 16 (1 : Int32)), (zRF b), l)) := by
  refine (ze_putI 227 zm124 dX10_step_224 f10_99 k173_10 (Or.inl fn10_17) t10_17 rfl).trans ?_
  refine (ze_aload_n 228 zm124 dX10_step_227 rfl rfl).trans ?_
  refine (ze_iconst 229 zm124 dX10_step_228 ci_1 rfl).trans ?_
  refine (ze_putI 232 zm124 dX10_step_229 f10_102 k173_10 (Or.inl fn10_16) t10_16 rfl).trans ?_
  exact ze_goto 260 zm124 dX10_step_232 (by decide)
theorem b124_235 (sc : zScr) (v1 : Int32) (i : Nat → Nat → Int32) (b : Bool) (l : Nat → Nat → Int64) : zev sc (124, 235, [some (.ref 173), some (.int v1)], [], (197, i, (zRF b), l)) = if v1 = (59 : Int32) then zev sc (124, 252, [some (.ref 173), some (.int v1)], [.ref 173], (197, (zU i 173 14 ((i 173 14) + (1 : Int32))), (zRF b), l)) else zev sc (124, 256, [some (.ref 173), some (.int v1)], [.ref 173], (197, (zU i 173 14 ((i 173 14) + (1 : Int32))), (zRF b), l)) := by
  refine (ze_aload_n 236 zm124 dX10_step_235 rfl rfl).trans ?_
  refine (ze_dup 237 zm124 dX10_step_236 rfl rfl).trans ?_
  refine (ze_getI 240 zm124 dX10_step_237 f10_89 k173_10 (Or.inl t10_14) rfl).trans ?_
  refine (ze_iconst 241 zm124 dX10_step_240 ci_1 rfl).trans ?_
  refine (ze_iadd 242 zm124 dX10_step_241 rfl).trans ?_
  refine (ze_putI 245 zm124 dX10_step_242 f10_89 k173_10 (Or.inl fn10_14) t10_14 rfl).trans ?_
  refine (ze_aload_n 246 zm124 dX10_step_245 rfl rfl).trans ?_
  refine (ze_iload_n 247 zm124 dX10_step_246 rfl rfl).trans ?_
  refine (ze_bipush 249 zm124 dX10_step_247 cb_59 rfl).trans ?_
  exact ze_icmp_ne 256 252 zm124 dX10_step_249 (by decide) rfl
theorem b124_252 (sc : zScr) (v1 : Int32) (i : Nat → Nat → Int32) (b : Bool) (l : Nat → Nat → Int64) : zev sc (124, 252, [some (.ref 173), some (.int v1)], [.ref 173], (197, i, (zRF b), l)) = zev sc (124, 257, [some (.ref 173), some (.int v1)], [.int (3 : Int32), .ref 173], (197, i, (zRF b), l)) := by
  refine (ze_iconst 253 zm124 dX10_step_252 ci_3 rfl).trans ?_
  exact ze_goto 257 zm124 dX10_step_253 (by decide)
theorem b124_256 (sc : zScr) (v1 : Int32) (i : Nat → Nat → Int32) (b : Bool) (l : Nat → Nat → Int64) : zev sc (124, 256, [some (.ref 173), some (.int v1)], [.ref 173], (197, i, (zRF b), l)) = zev sc (124, 257, [some (.ref 173), some (.int v1)], [.int (5 : Int32), .ref 173], (197, i, (zRF b), l)) := by
  refine (ze_iconst 257 zm124 dX10_step_256 ci_5 rfl).trans ?_
  rfl
theorem b124_257 (sc : zScr) (v1 : Int32) (s0 : Int32) (i : Nat → Nat → Int32) (b : Bool) (l : Nat → Nat → Int64) : zev sc (124, 257, [some (.ref 173), some (.int v1)], [.int s0, .ref 173], (197, i, (zRF b), l)) = zev sc (124, 260, [some (.ref 173), some (.int v1)], [], (197, (zU i 173 16 s0), (zRF b), l)) := by
  refine (ze_putI 260 zm124 dX10_step_257 f10_102 k173_10 (Or.inl fn10_16) t10_16 rfl).trans ?_
  rfl
theorem b124_260 (sc : zScr) (v1 : Int32) (i : Nat → Nat → Int32) (b : Bool) (l : Nat → Nat → Int64) : zev sc (124, 260, [some (.ref 173), some (.int v1)], [], (197, i, (zRF b), l)) = some (.null, (197, i, (zRF b), l)) := by
  exact ze_return zm124 dX10_step_260 rfl
/-! HarpFencesModel.due (Z)V: method 125 -/
theorem b125_0 (sc : zScr) (v1 : Int32) (i : Nat → Nat → Int32) (b : Bool) (l : Nat → Nat → Int64) : zev sc (125, 0, [some (.ref 173), some (.int v1)], [], (197, i, (zRF b), l)) = if (i 173 18) = 0 then zev sc (125, 8, [some (.ref 173), some (.int v1)], [], (197, i, (zRF b), l)) else zev sc (125, 7, [some (.ref 173), some (.int v1)], [], (197, i, (zRF b), l)) := by
  refine (ze_aload_n 1 zm125 dX10_due_0 rfl rfl).trans ?_
  refine (ze_getI 4 zm125 dX10_due_1 f10_105 k173_10 (Or.inr t10_18) rfl).trans ?_
  exact ze_if_eq 8 7 zm125 dX10_due_4 (by decide) rfl
theorem b125_7 (sc : zScr) (v1 : Int32) (i : Nat → Nat → Int32) (b : Bool) (l : Nat → Nat → Int64) : zev sc (125, 7, [some (.ref 173), some (.int v1)], [], (197, i, (zRF b), l)) = some (.null, (197, i, (zRF b), l)) := by
  exact ze_return zm125 dX10_due_7 rfl
theorem b125_8 (sc : zScr) (v1 : Int32) (i : Nat → Nat → Int32) (b : Bool) (l : Nat → Nat → Int64) : zev sc (125, 8, [some (.ref 173), some (.int v1)], [], (197, i, (zRF b), l)) = if v1 = 0 then zev sc (125, 19, [some (.ref 173), some (.int v1)], [], (197, i, (zRF b), l)) else zev sc (125, 12, [some (.ref 173), some (.int v1)], [], (197, i, (zRF b), l)) := by
  refine (ze_iload_n 9 zm125 dX10_due_8 rfl rfl).trans ?_
  exact ze_if_eq 19 12 zm125 dX10_due_9 (by decide) rfl
theorem b125_12 (sc : zScr) (v1 : Int32) (i : Nat → Nat → Int32) (b : Bool) (l : Nat → Nat → Int64) : zev sc (125, 12, [some (.ref 173), some (.int v1)], [], (197, i, (zRF b), l)) = (zev sc (124, 0, [some (.ref 173), none], [], (197, i, (zRF b), l))).bind (fun x => zev sc (125, 16, [some (.ref 173), some (.int v1)], [], x.2)) := by
  refine (ze_aload_n 13 zm125 dX10_due_12 rfl rfl).trans ?_
  exact ze_virtV (as := []) (rest := []) 16 zm125 dX10_due_13 r10_109 zm124 rfl rfl k173_10 rfl rfl rfl rfl
theorem b125_16 (sc : zScr) (v1 : Int32) (i : Nat → Nat → Int32) (b : Bool) (l : Nat → Nat → Int64) : zev sc (125, 16, [some (.ref 173), some (.int v1)], [], (197, i, (zRF b), l)) = zev sc (125, 24, [some (.ref 173), some (.int v1)], [], (197, i, (zRF b), l)) := by
  exact ze_goto 24 zm125 dX10_due_16 (by decide)
theorem b125_19 (sc : zScr) (v1 : Int32) (i : Nat → Nat → Int32) (b : Bool) (l : Nat → Nat → Int64) : zev sc (125, 19, [some (.ref 173), some (.int v1)], [], (197, i, (zRF b), l)) = zev sc (125, 24, [some (.ref 173), some (.int v1)], [], (197, (zU i 173 18 (1 : Int32)), (zRF b), l)) := by
  refine (ze_aload_n 20 zm125 dX10_due_19 rfl rfl).trans ?_
  refine (ze_iconst 21 zm125 dX10_due_20 ci_1 rfl).trans ?_
  refine (ze_putZ 24 zm125 dX10_due_21 f10_105 k173_10 (Or.inl fn10_18) t10_18 (Or.inr rfl) rfl).trans ?_
  rfl
theorem b125_24 (sc : zScr) (v1 : Int32) (i : Nat → Nat → Int32) (b : Bool) (l : Nat → Nat → Int64) : zev sc (125, 24, [some (.ref 173), some (.int v1)], [], (197, i, (zRF b), l)) = some (.null, (197, i, (zRF b), l)) := by
  exact ze_return zm125 dX10_due_24 rfl
/-! HarpFencesModel.number (II)I: method 126 -/
theorem b126_0 (sc : zScr) (v1 : Int32) (v2 : Int32) (i : Nat → Nat → Int32) (b : Bool) (l : Nat → Nat → Int64) : zev sc (126, 0, [some (.ref 173), some (.int v1), some (.int v2), none], [], (197, i, (zRF b), l)) = if (i 173 16) = (2 : Int32) then zev sc (126, 14, [some (.ref 173), some (.int v1), some (.int v2), some (.int (i 173 17))], [.ref 173], (197, i, (zRF b), l)) else zev sc (126, 27, [some (.ref 173), some (.int v1), some (.int v2), some (.int (i 173 17))], [.ref 173], (197, i, (zRF b), l)) := by
  refine (ze_aload_n 1 zm126 dX10_number_0 rfl rfl).trans ?_
  refine (ze_getI 4 zm126 dX10_number_1 f10_99 k173_10 (Or.inl t10_17) rfl).trans ?_
  refine (ze_istore_n (A := 99) (ls' := [some (.ref 173), some (.int v1), some (.int v2), some (.int (i 173 17))]) 5 zm126 dX10_number_4 za126 rfl rfl rfl rfl rfl).trans ?_
  refine (ze_aload_n 6 zm126 dX10_number_5 rfl rfl).trans ?_
  refine (ze_aload_n 7 zm126 dX10_number_6 rfl rfl).trans ?_
  refine (ze_getI 10 zm126 dX10_number_7 f10_102 k173_10 (Or.inl t10_16) rfl).trans ?_
  refine (ze_iconst 11 zm126 dX10_number_10 ci_2 rfl).trans ?_
  exact ze_icmp_ne 27 14 zm126 dX10_number_11 (by decide) rfl
theorem b126_14 (sc : zScr) (v1 : Int32) (v2 : Int32) (v3 : Int32) (i : Nat → Nat → Int32) (b : Bool) (l : Nat → Nat → Int64) : zev sc (126, 14, [some (.ref 173), some (.int v1), some (.int v2), some (.int v3)], [.ref 173], (197, i, (zRF b), l)) = (zev sc (119, 0, [some (.int v3), some (.int v1), some (.int v2)], [], (197, i, (zRF b), l))).bind (fun x => zev sc (126, 20, [some (.ref 173), some (.int v1), some (.int v2), some (.int v3)], [x.1, .ref 173], x.2)) := by
  refine (ze_iload_n 15 zm126 dX10_number_14 rfl rfl).trans ?_
  refine (ze_iload_n 16 zm126 dX10_number_15 rfl rfl).trans ?_
  refine (ze_iload_n 17 zm126 dX10_number_16 rfl rfl).trans ?_
  exact ze_statI (as := [.int v3, .int v1, .int v2]) (rest := [.ref 173]) 20 zm126 dX10_number_17 r10_81 zm119 rfl rfl rfl rfl rfl rfl
theorem b126_20 (sc : zScr) (v1 : Int32) (v2 : Int32) (v3 : Int32) (s0 : Int32) (i : Nat → Nat → Int32) (b : Bool) (l : Nat → Nat → Int64) : zev sc (126, 20, [some (.ref 173), some (.int v1), some (.int v2), some (.int v3)], [.int s0, .ref 173], (197, i, (zRF b), l)) = if s0 = 0 then zev sc (126, 27, [some (.ref 173), some (.int v1), some (.int v2), some (.int v3)], [.ref 173], (197, i, (zRF b), l)) else zev sc (126, 23, [some (.ref 173), some (.int v1), some (.int v2), some (.int v3)], [.ref 173], (197, i, (zRF b), l)) := by
  exact ze_if_eq 27 23 zm126 dX10_number_20 (by decide) rfl
theorem b126_23 (sc : zScr) (v1 : Int32) (v2 : Int32) (v3 : Int32) (i : Nat → Nat → Int32) (b : Bool) (l : Nat → Nat → Int64) : zev sc (126, 23, [some (.ref 173), some (.int v1), some (.int v2), some (.int v3)], [.ref 173], (197, i, (zRF b), l)) = zev sc (126, 28, [some (.ref 173), some (.int v1), some (.int v2), some (.int v3)], [.int (1 : Int32), .ref 173], (197, i, (zRF b), l)) := by
  refine (ze_iconst 24 zm126 dX10_number_23 ci_1 rfl).trans ?_
  exact ze_goto 28 zm126 dX10_number_24 (by decide)
theorem b126_27 (sc : zScr) (v1 : Int32) (v2 : Int32) (v3 : Int32) (i : Nat → Nat → Int32) (b : Bool) (l : Nat → Nat → Int64) : zev sc (126, 27, [some (.ref 173), some (.int v1), some (.int v2), some (.int v3)], [.ref 173], (197, i, (zRF b), l)) = zev sc (126, 28, [some (.ref 173), some (.int v1), some (.int v2), some (.int v3)], [.int (0 : Int32), .ref 173], (197, i, (zRF b), l)) := by
  refine (ze_iconst 28 zm126 dX10_number_27 ci_0 rfl).trans ?_
  rfl
theorem b126_28 (sc : zScr) (v1 : Int32) (v2 : Int32) (v3 : Int32) (s0 : Int32) (i : Nat → Nat → Int32) (b : Bool) (l : Nat → Nat → Int64) : zev sc (126, 28, [some (.ref 173), some (.int v1), some (.int v2), some (.int v3)], [.int s0, .ref 173], (197, i, (zRF b), l)) = (zev sc (125, 0, [some (.ref 173), some (.int s0)], [], (197, i, (zRF b), l))).bind (fun x => zev sc (126, 31, [some (.ref 173), some (.int v1), some (.int v2), some (.int v3)], [], x.2)) := by
  exact ze_virtV (as := [.int s0]) (rest := []) 31 zm126 dX10_number_28 r10_112 zm125 rfl rfl k173_10 rfl rfl rfl rfl
theorem b126_31 (sc : zScr) (v1 : Int32) (v2 : Int32) (v3 : Int32) (i : Nat → Nat → Int32) (b : Bool) (l : Nat → Nat → Int64) : zev sc (126, 31, [some (.ref 173), some (.int v1), some (.int v2), some (.int v3)], [], (197, i, (zRF b), l)) = some (.int v3, (197, i, (zRF b), l)) := by
  refine (ze_iload_n 32 zm126 dX10_number_31 rfl rfl).trans ?_
  exact ze_ireturn zm126 dX10_number_32 rfl
/-! HarpFencesModel.item (I)V: method 127 -/
theorem b127_0 (sc : zScr) (v1 : Int32) (i : Nat → Nat → Int32) (b : Bool) (l : Nat → Nat → Int64) : zev sc (127, 0, [some (.ref 173), some (.int v1), none, none], [], (197, i, (zRF b), l)) = zev sc (127, zcs v1 286 [((98 : Int32), 219), ((102 : Int32), 60), ((107 : Int32), 164), ((110 : Int32), 44)], [some (.ref 173), some (.int v1), none, none], [], (197, i, (zRF b), l)) := by
  refine (ze_iload_n 1 zm127 dX10_item_0 rfl rfl).trans ?_
  exact ze_lookup zm127 dX10_item_1 (by decide) (sw_127_1 _)
theorem b127_44 (sc : zScr) (v1 : Int32) (i : Nat → Nat → Int32) (b : Bool) (l : Nat → Nat → Int64) : zev sc (127, 44, [some (.ref 173), some (.int v1), none, none], [], (197, i, (zRF b), l)) = (zev sc (126, 0, [some (.ref 173), some (.int (1 : Int32)), some (.int (8 : Int32)), none], [], (197, i, (zRF b), l))).bind (fun x => zev sc (127, 56, [some (.ref 173), some (.int v1), none, none], [x.1, .int (1 : Int32), .ref 175], x.2)) := by
  refine (ze_aload_n 45 zm127 dX10_item_44 rfl rfl).trans ?_
  refine (ze_getR 48 zm127 dX10_item_45 f10_13 k173_10 t10_2 (rr173_2 b) rfl).trans ?_
  refine (ze_iconst 49 zm127 dX10_item_48 ci_1 rfl).trans ?_
  refine (ze_aload_n 50 zm127 dX10_item_49 rfl rfl).trans ?_
  refine (ze_iconst 51 zm127 dX10_item_50 ci_1 rfl).trans ?_
  refine (ze_bipush 53 zm127 dX10_item_51 cb_8 rfl).trans ?_
  exact ze_virtI (as := [.int (1 : Int32), .int (8 : Int32)]) (rest := [.int (1 : Int32), .ref 175]) 56 zm127 dX10_item_53 r10_116 zm126 rfl rfl k173_10 rfl rfl rfl rfl
theorem b127_56 (sc : zScr) (v1 : Int32) (s0 : Int32) (s1 : Int32) (i : Nat → Nat → Int32) (b : Bool) (l : Nat → Nat → Int64) (h1 : vp_in s1 2) : zev sc (127, 56, [some (.ref 173), some (.int v1), none, none], [.int s0, .int s1, .ref 175], (197, i, (zRF b), l)) = zev sc (127, 299, [some (.ref 173), some (.int v1), none, none], [], (197, (zU i 175 s1.toNatClampNeg s0), (zRF b), l)) := by
  refine (ze_iastore (t := s1.toNatClampNeg) 57 zm127 dX10_item_56 k175_100 n175 h1 rfl rfl).trans ?_
  exact ze_goto 299 zm127 dX10_item_57 (by decide)
theorem b127_60 (sc : zScr) (v1 : Int32) (i : Nat → Nat → Int32) (b : Bool) (l : Nat → Nat → Int64) : zev sc (127, 60, [some (.ref 173), some (.int v1), none, none], [], (197, i, (zRF b), l)) = (zev sc (126, 0, [some (.ref 173), some (.int (0 : Int32)), some (.int ((i 175 1) - (1 : Int32))), none], [], (197, i, (zRF b), l))).bind (fun x => zev sc (127, 88, [some (.ref 173), some (.int v1), some (.int ((8 : Int32) + (i 176 1))), none], [x.1, .int ((8 : Int32) + (i 176 1)), .ref 177], x.2)) := by
  refine (ze_bipush 62 zm127 dX10_item_60 cb_8 rfl).trans ?_
  refine (ze_aload_n 63 zm127 dX10_item_62 rfl rfl).trans ?_
  refine (ze_getR 66 zm127 dX10_item_63 f10_17 k173_10 t10_3 (rr173_3 b) rfl).trans ?_
  refine (ze_iconst 67 zm127 dX10_item_66 ci_1 rfl).trans ?_
  refine (ze_iaload (t := 1) 68 zm127 dX10_item_67 k176_100 n176 vi_1_2 tn_1 rfl).trans ?_
  refine (ze_iadd 69 zm127 dX10_item_68 rfl).trans ?_
  refine (ze_istore_n (A := 99) (ls' := [some (.ref 173), some (.int v1), some (.int ((8 : Int32) + (i 176 1))), none]) 70 zm127 dX10_item_69 za127 rfl rfl rfl rfl rfl).trans ?_
  refine (ze_aload_n 71 zm127 dX10_item_70 rfl rfl).trans ?_
  refine (ze_getR 74 zm127 dX10_item_71 f10_20 k173_10 t10_4 (rr173_4 b) rfl).trans ?_
  refine (ze_iload_n 75 zm127 dX10_item_74 rfl rfl).trans ?_
  refine (ze_aload_n 76 zm127 dX10_item_75 rfl rfl).trans ?_
  refine (ze_iconst 77 zm127 dX10_item_76 ci_0 rfl).trans ?_
  refine (ze_aload_n 78 zm127 dX10_item_77 rfl rfl).trans ?_
  refine (ze_getR 81 zm127 dX10_item_78 f10_13 k173_10 t10_2 (rr173_2 b) rfl).trans ?_
  refine (ze_iconst 82 zm127 dX10_item_81 ci_1 rfl).trans ?_
  refine (ze_iaload (t := 1) 83 zm127 dX10_item_82 k175_100 n175 vi_1_2 tn_1 rfl).trans ?_
  refine (ze_iconst 84 zm127 dX10_item_83 ci_1 rfl).trans ?_
  refine (ze_isub 85 zm127 dX10_item_84 rfl).trans ?_
  exact ze_virtI (as := [.int (0 : Int32), .int ((i 175 1) - (1 : Int32))]) (rest := [.int ((8 : Int32) + (i 176 1)), .ref 177]) 88 zm127 dX10_item_85 r10_116 zm126 rfl rfl k173_10 rfl rfl rfl rfl
theorem b127_88 (sc : zScr) (v1 : Int32) (v2 : Int32) (s0 : Int32) (s1 : Int32) (i : Nat → Nat → Int32) (b : Bool) (l : Nat → Nat → Int64) (h1 : vp_in s1 16) : zev sc (127, 88, [some (.ref 173), some (.int v1), some (.int v2), none], [.int s0, .int s1, .ref 177], (197, i, (zRF b), l)) = if ((zU i 177 s1.toNatClampNeg s0) 173 16) = (2 : Int32) then zev sc (127, 103, [some (.ref 173), some (.int v1), some (.int v2), some (.int ((zU i 177 s1.toNatClampNeg s0) 173 17))], [.ref 173], (197, (zU i 177 s1.toNatClampNeg s0), (zRF b), l)) else zev sc (127, 127, [some (.ref 173), some (.int v1), some (.int v2), some (.int ((zU i 177 s1.toNatClampNeg s0) 173 17))], [.ref 173], (197, (zU i 177 s1.toNatClampNeg s0), (zRF b), l)) := by
  refine (ze_iastore (t := s1.toNatClampNeg) 89 zm127 dX10_item_88 k177_100 n177 h1 rfl rfl).trans ?_
  refine (ze_aload_n 90 zm127 dX10_item_89 rfl rfl).trans ?_
  refine (ze_getI 93 zm127 dX10_item_90 f10_99 k173_10 (Or.inl t10_17) rfl).trans ?_
  refine (ze_istore_n (A := 99) (ls' := [some (.ref 173), some (.int v1), some (.int v2), some (.int ((zU i 177 s1.toNatClampNeg s0) 173 17))]) 94 zm127 dX10_item_93 za127 rfl rfl rfl rfl rfl).trans ?_
  refine (ze_aload_n 95 zm127 dX10_item_94 rfl rfl).trans ?_
  refine (ze_aload_n 96 zm127 dX10_item_95 rfl rfl).trans ?_
  refine (ze_getI 99 zm127 dX10_item_96 f10_102 k173_10 (Or.inl t10_16) rfl).trans ?_
  refine (ze_iconst 100 zm127 dX10_item_99 ci_2 rfl).trans ?_
  exact ze_icmp_ne 127 103 zm127 dX10_item_100 (by decide) rfl
theorem b127_103 (sc : zScr) (v1 : Int32) (v2 : Int32) (v3 : Int32) (i : Nat → Nat → Int32) (b : Bool) (l : Nat → Nat → Int64) : zev sc (127, 103, [some (.ref 173), some (.int v1), some (.int v2), some (.int v3)], [.ref 173], (197, i, (zRF b), l)) = if (i 175 1) ≤ v3 then zev sc (127, 127, [some (.ref 173), some (.int v1), some (.int v2), some (.int v3)], [.ref 173], (197, i, (zRF b), l)) else zev sc (127, 113, [some (.ref 173), some (.int v1), some (.int v2), some (.int v3)], [.ref 173], (197, i, (zRF b), l)) := by
  refine (ze_iload_n 104 zm127 dX10_item_103 rfl rfl).trans ?_
  refine (ze_aload_n 105 zm127 dX10_item_104 rfl rfl).trans ?_
  refine (ze_getR 108 zm127 dX10_item_105 f10_13 k173_10 t10_2 (rr173_2 b) rfl).trans ?_
  refine (ze_iconst 109 zm127 dX10_item_108 ci_1 rfl).trans ?_
  refine (ze_iaload (t := 1) 110 zm127 dX10_item_109 k175_100 n175 vi_1_2 tn_1 rfl).trans ?_
  exact ze_icmp_ge 127 113 zm127 dX10_item_110 (by decide) rfl
theorem b127_113 (sc : zScr) (v1 : Int32) (v2 : Int32) (v3 : Int32) (i : Nat → Nat → Int32) (b : Bool) (l : Nat → Nat → Int64) (h1 : vp_in v2 16) : zev sc (127, 113, [some (.ref 173), some (.int v1), some (.int v2), some (.int v3)], [.ref 173], (197, i, (zRF b), l)) = if v3 = (i 177 v2.toNatClampNeg) then zev sc (127, 127, [some (.ref 173), some (.int v1), some (.int v2), some (.int v3)], [.ref 173], (197, i, (zRF b), l)) else zev sc (127, 123, [some (.ref 173), some (.int v1), some (.int v2), some (.int v3)], [.ref 173], (197, i, (zRF b), l)) := by
  refine (ze_iload_n 114 zm127 dX10_item_113 rfl rfl).trans ?_
  refine (ze_aload_n 115 zm127 dX10_item_114 rfl rfl).trans ?_
  refine (ze_getR 118 zm127 dX10_item_115 f10_20 k173_10 t10_4 (rr173_4 b) rfl).trans ?_
  refine (ze_iload_n 119 zm127 dX10_item_118 rfl rfl).trans ?_
  refine (ze_iaload (t := v2.toNatClampNeg) 120 zm127 dX10_item_119 k177_100 n177 h1 rfl rfl).trans ?_
  exact ze_icmp_eq 127 123 zm127 dX10_item_120 (by decide) rfl
theorem b127_123 (sc : zScr) (v1 : Int32) (v2 : Int32) (v3 : Int32) (i : Nat → Nat → Int32) (b : Bool) (l : Nat → Nat → Int64) : zev sc (127, 123, [some (.ref 173), some (.int v1), some (.int v2), some (.int v3)], [.ref 173], (197, i, (zRF b), l)) = zev sc (127, 128, [some (.ref 173), some (.int v1), some (.int v2), some (.int v3)], [.int (1 : Int32), .ref 173], (197, i, (zRF b), l)) := by
  refine (ze_iconst 124 zm127 dX10_item_123 ci_1 rfl).trans ?_
  exact ze_goto 128 zm127 dX10_item_124 (by decide)
theorem b127_127 (sc : zScr) (v1 : Int32) (v2 : Int32) (v3 : Int32) (i : Nat → Nat → Int32) (b : Bool) (l : Nat → Nat → Int64) : zev sc (127, 127, [some (.ref 173), some (.int v1), some (.int v2), some (.int v3)], [.ref 173], (197, i, (zRF b), l)) = zev sc (127, 128, [some (.ref 173), some (.int v1), some (.int v2), some (.int v3)], [.int (0 : Int32), .ref 173], (197, i, (zRF b), l)) := by
  refine (ze_iconst 128 zm127 dX10_item_127 ci_0 rfl).trans ?_
  rfl
theorem b127_128 (sc : zScr) (v1 : Int32) (v2 : Int32) (v3 : Int32) (s0 : Int32) (i : Nat → Nat → Int32) (b : Bool) (l : Nat → Nat → Int64) : zev sc (127, 128, [some (.ref 173), some (.int v1), some (.int v2), some (.int v3)], [.int s0, .ref 173], (197, i, (zRF b), l)) = (zev sc (125, 0, [some (.ref 173), some (.int s0)], [], (197, i, (zRF b), l))).bind (fun x => zev sc (127, 131, [some (.ref 173), some (.int v1), some (.int v2), some (.int v3)], [], x.2)) := by
  exact ze_virtV (as := [.int s0]) (rest := []) 131 zm127 dX10_item_128 r10_112 zm125 rfl rfl k173_10 rfl rfl rfl rfl
theorem b127_131 (sc : zScr) (v1 : Int32) (v2 : Int32) (v3 : Int32) (i : Nat → Nat → Int32) (b : Bool) (l : Nat → Nat → Int64) (h1 : vp_in v2 16) : zev sc (127, 131, [some (.ref 173), some (.int v1), some (.int v2), some (.int v3)], [], (197, i, (zRF b), l)) = (zev sc (126, 0, [some (.ref 173), some (.int (0 : Int32)), some (.int (40 : Int32)), none], [], (197, (zU i 178 v2.toNatClampNeg v3), (zRF b), l))).bind (fun x => zev sc (127, 150, [some (.ref 173), some (.int v1), some (.int v2), some (.int v3)], [x.1, .int v2, .ref 179], x.2)) := by
  refine (ze_aload_n 132 zm127 dX10_item_131 rfl rfl).trans ?_
  refine (ze_getR 135 zm127 dX10_item_132 f10_23 k173_10 t10_5 (rr173_5 b) rfl).trans ?_
  refine (ze_iload_n 136 zm127 dX10_item_135 rfl rfl).trans ?_
  refine (ze_iload_n 137 zm127 dX10_item_136 rfl rfl).trans ?_
  refine (ze_iastore (t := v2.toNatClampNeg) 138 zm127 dX10_item_137 k178_100 n178 h1 rfl rfl).trans ?_
  refine (ze_aload_n 139 zm127 dX10_item_138 rfl rfl).trans ?_
  refine (ze_getR 142 zm127 dX10_item_139 f10_26 k173_10 t10_6 (rr173_6 b) rfl).trans ?_
  refine (ze_iload_n 143 zm127 dX10_item_142 rfl rfl).trans ?_
  refine (ze_aload_n 144 zm127 dX10_item_143 rfl rfl).trans ?_
  refine (ze_iconst 145 zm127 dX10_item_144 ci_0 rfl).trans ?_
  refine (ze_bipush 147 zm127 dX10_item_145 cb_40 rfl).trans ?_
  exact ze_virtI (as := [.int (0 : Int32), .int (40 : Int32)]) (rest := [.int v2, .ref 179]) 150 zm127 dX10_item_147 r10_116 zm126 rfl rfl k173_10 rfl rfl rfl rfl
theorem b127_150 (sc : zScr) (v1 : Int32) (v2 : Int32) (v3 : Int32) (s0 : Int32) (s1 : Int32) (i : Nat → Nat → Int32) (b : Bool) (l : Nat → Nat → Int64) (h1 : vp_in s1 16) : zev sc (127, 150, [some (.ref 173), some (.int v1), some (.int v2), some (.int v3)], [.int s0, .int s1, .ref 179], (197, i, (zRF b), l)) = zev sc (127, 299, [some (.ref 173), some (.int v1), some (.int v2), some (.int v3)], [], (197, (zU (zU i 179 s1.toNatClampNeg s0) 176 1 (((zU i 179 s1.toNatClampNeg s0) 176 1) + (1 : Int32))), (zRF b), l)) := by
  refine (ze_iastore (t := s1.toNatClampNeg) 151 zm127 dX10_item_150 k179_100 n179 h1 rfl rfl).trans ?_
  refine (ze_aload_n 152 zm127 dX10_item_151 rfl rfl).trans ?_
  refine (ze_getR 155 zm127 dX10_item_152 f10_17 k173_10 t10_3 (rr173_3 b) rfl).trans ?_
  refine (ze_iconst 156 zm127 dX10_item_155 ci_1 rfl).trans ?_
  refine (ze_dup2 157 zm127 dX10_item_156 rfl rfl rfl).trans ?_
  refine (ze_iaload (t := 1) 158 zm127 dX10_item_157 k176_100 n176 vi_1_2 tn_1 rfl).trans ?_
  refine (ze_iconst 159 zm127 dX10_item_158 ci_1 rfl).trans ?_
  refine (ze_iadd 160 zm127 dX10_item_159 rfl).trans ?_
  refine (ze_iastore (t := 1) 161 zm127 dX10_item_160 k176_100 n176 vi_1_2 tn_1 rfl).trans ?_
  exact ze_goto 299 zm127 dX10_item_161 (by decide)
theorem b127_164 (sc : zScr) (v1 : Int32) (i : Nat → Nat → Int32) (b : Bool) (l : Nat → Nat → Int64) : zev sc (127, 164, [some (.ref 173), some (.int v1), none, none], [], (197, i, (zRF b), l)) = (zev sc (126, 0, [some (.ref 173), some (.int (0 : Int32)), some (.int (6 : Int32)), none], [], (197, i, (zRF b), l))).bind (fun x => zev sc (127, 183, [some (.ref 173), some (.int v1), none, none], [x.1, .int ((4 : Int32) + (i 180 1)), .ref 181], x.2)) := by
  refine (ze_aload_n 165 zm127 dX10_item_164 rfl rfl).trans ?_
  refine (ze_getR 168 zm127 dX10_item_165 f10_32 k173_10 t10_8 (rr173_8 b) rfl).trans ?_
  refine (ze_iconst 169 zm127 dX10_item_168 ci_4 rfl).trans ?_
  refine (ze_aload_n 170 zm127 dX10_item_169 rfl rfl).trans ?_
  refine (ze_getR 173 zm127 dX10_item_170 f10_29 k173_10 t10_7 (rr173_7 b) rfl).trans ?_
  refine (ze_iconst 174 zm127 dX10_item_173 ci_1 rfl).trans ?_
  refine (ze_iaload (t := 1) 175 zm127 dX10_item_174 k180_100 n180 vi_1_2 tn_1 rfl).trans ?_
  refine (ze_iadd 176 zm127 dX10_item_175 rfl).trans ?_
  refine (ze_aload_n 177 zm127 dX10_item_176 rfl rfl).trans ?_
  refine (ze_iconst 178 zm127 dX10_item_177 ci_0 rfl).trans ?_
  refine (ze_bipush 180 zm127 dX10_item_178 cb_6 rfl).trans ?_
  exact ze_virtI (as := [.int (0 : Int32), .int (6 : Int32)]) (rest := [.int ((4 : Int32) + (i 180 1)), .ref 181]) 183 zm127 dX10_item_180 r10_116 zm126 rfl rfl k173_10 rfl rfl rfl rfl
theorem b127_183 (sc : zScr) (v1 : Int32) (s0 : Int32) (s1 : Int32) (i : Nat → Nat → Int32) (b : Bool) (l : Nat → Nat → Int64) (h1 : vp_in s1 8) : zev sc (127, 183, [some (.ref 173), some (.int v1), none, none], [.int s0, .int s1, .ref 181], (197, i, (zRF b), l)) = (zev sc (126, 0, [some (.ref 173), some (.int (0 : Int32)), some (.int (9 : Int32)), none], [], (197, (zU i 181 s1.toNatClampNeg (s0 - (3 : Int32))), (zRF b), l))).bind (fun x => zev sc (127, 205, [some (.ref 173), some (.int v1), none, none], [x.1, .int ((4 : Int32) + ((zU i 181 s1.toNatClampNeg (s0 - (3 : Int32))) 180 1)), .ref 182], x.2)) := by
  refine (ze_iconst 184 zm127 dX10_item_183 ci_3 rfl).trans ?_
  refine (ze_isub 185 zm127 dX10_item_184 rfl).trans ?_
  refine (ze_iastore (t := s1.toNatClampNeg) 186 zm127 dX10_item_185 k181_100 n181 h1 rfl rfl).trans ?_
  refine (ze_aload_n 187 zm127 dX10_item_186 rfl rfl).trans ?_
  refine (ze_getR 190 zm127 dX10_item_187 f10_35 k173_10 t10_9 (rr173_9 b) rfl).trans ?_
  refine (ze_iconst 191 zm127 dX10_item_190 ci_4 rfl).trans ?_
  refine (ze_aload_n 192 zm127 dX10_item_191 rfl rfl).trans ?_
  refine (ze_getR 195 zm127 dX10_item_192 f10_29 k173_10 t10_7 (rr173_7 b) rfl).trans ?_
  refine (ze_iconst 196 zm127 dX10_item_195 ci_1 rfl).trans ?_
  refine (ze_iaload (t := 1) 197 zm127 dX10_item_196 k180_100 n180 vi_1_2 tn_1 rfl).trans ?_
  refine (ze_iadd 198 zm127 dX10_item_197 rfl).trans ?_
  refine (ze_aload_n 199 zm127 dX10_item_198 rfl rfl).trans ?_
  refine (ze_iconst 200 zm127 dX10_item_199 ci_0 rfl).trans ?_
  refine (ze_bipush 202 zm127 dX10_item_200 cb_9 rfl).trans ?_
  exact ze_virtI (as := [.int (0 : Int32), .int (9 : Int32)]) (rest := [.int ((4 : Int32) + ((zU i 181 s1.toNatClampNeg (s0 - (3 : Int32))) 180 1)), .ref 182]) 205 zm127 dX10_item_202 r10_116 zm126 rfl rfl k173_10 rfl rfl rfl rfl
theorem b127_205 (sc : zScr) (v1 : Int32) (s0 : Int32) (s1 : Int32) (i : Nat → Nat → Int32) (b : Bool) (l : Nat → Nat → Int64) (h1 : vp_in s1 8) : zev sc (127, 205, [some (.ref 173), some (.int v1), none, none], [.int s0, .int s1, .ref 182], (197, i, (zRF b), l)) = zev sc (127, 299, [some (.ref 173), some (.int v1), none, none], [], (197, (zU (zU i 182 s1.toNatClampNeg s0) 180 1 (((zU i 182 s1.toNatClampNeg s0) 180 1) + (1 : Int32))), (zRF b), l)) := by
  refine (ze_iastore (t := s1.toNatClampNeg) 206 zm127 dX10_item_205 k182_100 n182 h1 rfl rfl).trans ?_
  refine (ze_aload_n 207 zm127 dX10_item_206 rfl rfl).trans ?_
  refine (ze_getR 210 zm127 dX10_item_207 f10_29 k173_10 t10_7 (rr173_7 b) rfl).trans ?_
  refine (ze_iconst 211 zm127 dX10_item_210 ci_1 rfl).trans ?_
  refine (ze_dup2 212 zm127 dX10_item_211 rfl rfl rfl).trans ?_
  refine (ze_iaload (t := 1) 213 zm127 dX10_item_212 k180_100 n180 vi_1_2 tn_1 rfl).trans ?_
  refine (ze_iconst 214 zm127 dX10_item_213 ci_1 rfl).trans ?_
  refine (ze_iadd 215 zm127 dX10_item_214 rfl).trans ?_
  refine (ze_iastore (t := 1) 216 zm127 dX10_item_215 k180_100 n180 vi_1_2 tn_1 rfl).trans ?_
  exact ze_goto 299 zm127 dX10_item_216 (by decide)
theorem b127_219 (sc : zScr) (v1 : Int32) (i : Nat → Nat → Int32) (b : Bool) (l : Nat → Nat → Int64) : zev sc (127, 219, [some (.ref 173), some (.int v1), none, none], [], (197, i, (zRF b), l)) = (zev sc (126, 0, [some (.ref 173), some (.int (0 : Int32)), some (.int ((i 180 1) - (1 : Int32))), none], [], (197, i, (zRF b), l))).bind (fun x => zev sc (127, 245, [some (.ref 173), some (.int v1), none, none], [x.1, .int ((6 : Int32) + (i 183 1)), .ref 184], x.2)) := by
  refine (ze_aload_n 220 zm127 dX10_item_219 rfl rfl).trans ?_
  refine (ze_getR 223 zm127 dX10_item_220 f10_41 k173_10 t10_11 (rr173_11 b) rfl).trans ?_
  refine (ze_bipush 225 zm127 dX10_item_223 cb_6 rfl).trans ?_
  refine (ze_aload_n 226 zm127 dX10_item_225 rfl rfl).trans ?_
  refine (ze_getR 229 zm127 dX10_item_226 f10_38 k173_10 t10_10 (rr173_10 b) rfl).trans ?_
  refine (ze_iconst 230 zm127 dX10_item_229 ci_1 rfl).trans ?_
  refine (ze_iaload (t := 1) 231 zm127 dX10_item_230 k183_100 n183 vi_1_2 tn_1 rfl).trans ?_
  refine (ze_iadd 232 zm127 dX10_item_231 rfl).trans ?_
  refine (ze_aload_n 233 zm127 dX10_item_232 rfl rfl).trans ?_
  refine (ze_iconst 234 zm127 dX10_item_233 ci_0 rfl).trans ?_
  refine (ze_aload_n 235 zm127 dX10_item_234 rfl rfl).trans ?_
  refine (ze_getR 238 zm127 dX10_item_235 f10_29 k173_10 t10_7 (rr173_7 b) rfl).trans ?_
  refine (ze_iconst 239 zm127 dX10_item_238 ci_1 rfl).trans ?_
  refine (ze_iaload (t := 1) 240 zm127 dX10_item_239 k180_100 n180 vi_1_2 tn_1 rfl).trans ?_
  refine (ze_iconst 241 zm127 dX10_item_240 ci_1 rfl).trans ?_
  refine (ze_isub 242 zm127 dX10_item_241 rfl).trans ?_
  exact ze_virtI (as := [.int (0 : Int32), .int ((i 180 1) - (1 : Int32))]) (rest := [.int ((6 : Int32) + (i 183 1)), .ref 184]) 245 zm127 dX10_item_242 r10_116 zm126 rfl rfl k173_10 rfl rfl rfl rfl
theorem b127_245 (sc : zScr) (v1 : Int32) (s0 : Int32) (s1 : Int32) (i : Nat → Nat → Int32) (b : Bool) (l : Nat → Nat → Int64) (h1 : vp_in s1 12) : zev sc (127, 245, [some (.ref 173), some (.int v1), none, none], [.int s0, .int s1, .ref 184], (197, i, (zRF b), l)) = (zev sc (126, 0, [some (.ref 173), some (.int (0 : Int32)), some (.int (((zU i 184 s1.toNatClampNeg s0) 175 1) - (1 : Int32))), none], [], (197, (zU i 184 s1.toNatClampNeg s0), (zRF b), l))).bind (fun x => zev sc (127, 272, [some (.ref 173), some (.int v1), none, none], [x.1, .int ((6 : Int32) + ((zU i 184 s1.toNatClampNeg s0) 183 1)), .ref 185], x.2)) := by
  refine (ze_iastore (t := s1.toNatClampNeg) 246 zm127 dX10_item_245 k184_100 n184 h1 rfl rfl).trans ?_
  refine (ze_aload_n 247 zm127 dX10_item_246 rfl rfl).trans ?_
  refine (ze_getR 250 zm127 dX10_item_247 f10_44 k173_10 t10_12 (rr173_12 b) rfl).trans ?_
  refine (ze_bipush 252 zm127 dX10_item_250 cb_6 rfl).trans ?_
  refine (ze_aload_n 253 zm127 dX10_item_252 rfl rfl).trans ?_
  refine (ze_getR 256 zm127 dX10_item_253 f10_38 k173_10 t10_10 (rr173_10 b) rfl).trans ?_
  refine (ze_iconst 257 zm127 dX10_item_256 ci_1 rfl).trans ?_
  refine (ze_iaload (t := 1) 258 zm127 dX10_item_257 k183_100 n183 vi_1_2 tn_1 rfl).trans ?_
  refine (ze_iadd 259 zm127 dX10_item_258 rfl).trans ?_
  refine (ze_aload_n 260 zm127 dX10_item_259 rfl rfl).trans ?_
  refine (ze_iconst 261 zm127 dX10_item_260 ci_0 rfl).trans ?_
  refine (ze_aload_n 262 zm127 dX10_item_261 rfl rfl).trans ?_
  refine (ze_getR 265 zm127 dX10_item_262 f10_13 k173_10 t10_2 (rr173_2 b) rfl).trans ?_
  refine (ze_iconst 266 zm127 dX10_item_265 ci_1 rfl).trans ?_
  refine (ze_iaload (t := 1) 267 zm127 dX10_item_266 k175_100 n175 vi_1_2 tn_1 rfl).trans ?_
  refine (ze_iconst 268 zm127 dX10_item_267 ci_1 rfl).trans ?_
  refine (ze_isub 269 zm127 dX10_item_268 rfl).trans ?_
  exact ze_virtI (as := [.int (0 : Int32), .int (((zU i 184 s1.toNatClampNeg s0) 175 1) - (1 : Int32))]) (rest := [.int ((6 : Int32) + ((zU i 184 s1.toNatClampNeg s0) 183 1)), .ref 185]) 272 zm127 dX10_item_269 r10_116 zm126 rfl rfl k173_10 rfl rfl rfl rfl
theorem b127_272 (sc : zScr) (v1 : Int32) (s0 : Int32) (s1 : Int32) (i : Nat → Nat → Int32) (b : Bool) (l : Nat → Nat → Int64) (h1 : vp_in s1 12) : zev sc (127, 272, [some (.ref 173), some (.int v1), none, none], [.int s0, .int s1, .ref 185], (197, i, (zRF b), l)) = zev sc (127, 299, [some (.ref 173), some (.int v1), none, none], [], (197, (zU (zU i 185 s1.toNatClampNeg s0) 183 1 (((zU i 185 s1.toNatClampNeg s0) 183 1) + (1 : Int32))), (zRF b), l)) := by
  refine (ze_iastore (t := s1.toNatClampNeg) 273 zm127 dX10_item_272 k185_100 n185 h1 rfl rfl).trans ?_
  refine (ze_aload_n 274 zm127 dX10_item_273 rfl rfl).trans ?_
  refine (ze_getR 277 zm127 dX10_item_274 f10_38 k173_10 t10_10 (rr173_10 b) rfl).trans ?_
  refine (ze_iconst 278 zm127 dX10_item_277 ci_1 rfl).trans ?_
  refine (ze_dup2 279 zm127 dX10_item_278 rfl rfl rfl).trans ?_
  refine (ze_iaload (t := 1) 280 zm127 dX10_item_279 k183_100 n183 vi_1_2 tn_1 rfl).trans ?_
  refine (ze_iconst 281 zm127 dX10_item_280 ci_1 rfl).trans ?_
  refine (ze_iadd 282 zm127 dX10_item_281 rfl).trans ?_
  refine (ze_iastore (t := 1) 283 zm127 dX10_item_282 k183_100 n183 vi_1_2 tn_1 rfl).trans ?_
  exact ze_goto 299 zm127 dX10_item_283 (by decide)
theorem b127_286 (sc : zScr) (v1 : Int32) (i : Nat → Nat → Int32) (b : Bool) (l : Nat → Nat → Int64) : zev sc (127, 286, [some (.ref 173), some (.int v1), none, none], [], (197, i, (zRF b), l)) = (zev sc (126, 0, [some (.ref 173), some (.int (0 : Int32)), some (.int (9 : Int32)), none], [], (197, i, (zRF b), l))).bind (fun x => zev sc (127, 298, [some (.ref 173), some (.int v1), none, none], [x.1, .int (1 : Int32), .ref 186], x.2)) := by
  refine (ze_aload_n 287 zm127 dX10_item_286 rfl rfl).trans ?_
  refine (ze_getR 290 zm127 dX10_item_287 f10_47 k173_10 t10_13 (rr173_13 b) rfl).trans ?_
  refine (ze_iconst 291 zm127 dX10_item_290 ci_1 rfl).trans ?_
  refine (ze_aload_n 292 zm127 dX10_item_291 rfl rfl).trans ?_
  refine (ze_iconst 293 zm127 dX10_item_292 ci_0 rfl).trans ?_
  refine (ze_bipush 295 zm127 dX10_item_293 cb_9 rfl).trans ?_
  exact ze_virtI (as := [.int (0 : Int32), .int (9 : Int32)]) (rest := [.int (1 : Int32), .ref 186]) 298 zm127 dX10_item_295 r10_116 zm126 rfl rfl k173_10 rfl rfl rfl rfl
theorem b127_298 (sc : zScr) (v1 : Int32) (s0 : Int32) (s1 : Int32) (i : Nat → Nat → Int32) (b : Bool) (l : Nat → Nat → Int64) (h1 : vp_in s1 2) : zev sc (127, 298, [some (.ref 173), some (.int v1), none, none], [.int s0, .int s1, .ref 186], (197, i, (zRF b), l)) = zev sc (127, 299, [some (.ref 173), some (.int v1), none, none], [], (197, (zU i 186 s1.toNatClampNeg s0), (zRF b), l)) := by
  refine (ze_iastore (t := s1.toNatClampNeg) 299 zm127 dX10_item_298 k186_100 n186 h1 rfl rfl).trans ?_
  rfl
theorem b127_299 (sc : zScr) (v1 : Int32) (w2 : Option Value) (w3 : Option Value) (i : Nat → Nat → Int32) (b : Bool) (l : Nat → Nat → Int64) : zev sc (127, 299, [some (.ref 173), some (.int v1), w2, w3], [], (197, i, (zRF b), l)) = some (.null, (197, i, (zRF b), l)) := by
  exact ze_return zm127 dX10_item_299 rfl
/-! HarpFencesModel.may (IZ)Z: method 128 -/
theorem b128_0 (sc : zScr) (v1 : Int32) (v2 : Int32) (i : Nat → Nat → Int32) (b : Bool) (l : Nat → Nat → Int64) : zev sc (128, 0, [some (.ref 173), some (.int v1), some (.int v2)], [], (197, i, (zRF b), l)) = zev sc (128, zcs v1 107 [((98 : Int32), 90), ((102 : Int32), 57), ((107 : Int32), 74), ((110 : Int32), 44)], [some (.ref 173), some (.int v1), some (.int v2)], [], (197, i, (zRF b), l)) := by
  refine (ze_iload_n 1 zm128 dX10_may_0 rfl rfl).trans ?_
  exact ze_lookup zm128 dX10_may_1 (by decide) (sw_128_1 _)
theorem b128_44 (sc : zScr) (v1 : Int32) (v2 : Int32) (i : Nat → Nat → Int32) (b : Bool) (l : Nat → Nat → Int64) : zev sc (128, 44, [some (.ref 173), some (.int v1), some (.int v2)], [], (197, i, (zRF b), l)) = if (i 173 19) = 0 then zev sc (128, 51, [some (.ref 173), some (.int v1), some (.int v2)], [], (197, i, (zRF b), l)) else zev sc (128, 55, [some (.ref 173), some (.int v1), some (.int v2)], [], (197, i, (zRF b), l)) := by
  refine (ze_aload_n 45 zm128 dX10_may_44 rfl rfl).trans ?_
  refine (ze_getI 48 zm128 dX10_may_45 f10_120 k173_10 (Or.inl t10_19) rfl).trans ?_
  exact ze_if_ne 55 51 zm128 dX10_may_48 (by decide) rfl
theorem b128_51 (sc : zScr) (v1 : Int32) (v2 : Int32) (i : Nat → Nat → Int32) (b : Bool) (l : Nat → Nat → Int64) : zev sc (128, 51, [some (.ref 173), some (.int v1), some (.int v2)], [], (197, i, (zRF b), l)) = zev sc (128, 56, [some (.ref 173), some (.int v1), some (.int v2)], [.int (1 : Int32)], (197, i, (zRF b), l)) := by
  refine (ze_iconst 52 zm128 dX10_may_51 ci_1 rfl).trans ?_
  exact ze_goto 56 zm128 dX10_may_52 (by decide)
theorem b128_55 (sc : zScr) (v1 : Int32) (v2 : Int32) (i : Nat → Nat → Int32) (b : Bool) (l : Nat → Nat → Int64) : zev sc (128, 55, [some (.ref 173), some (.int v1), some (.int v2)], [], (197, i, (zRF b), l)) = zev sc (128, 56, [some (.ref 173), some (.int v1), some (.int v2)], [.int (0 : Int32)], (197, i, (zRF b), l)) := by
  refine (ze_iconst 56 zm128 dX10_may_55 ci_0 rfl).trans ?_
  rfl
theorem b128_56 (sc : zScr) (v1 : Int32) (v2 : Int32) (s0 : Int32) (i : Nat → Nat → Int32) (b : Bool) (l : Nat → Nat → Int64) (h1 : s0 = 0 ∨ s0 = 1) : zev sc (128, 56, [some (.ref 173), some (.int v1), some (.int v2)], [.int s0], (197, i, (zRF b), l)) = some (.int s0, (197, i, (zRF b), l)) := by
  exact ze_zreturn zm128 dX10_may_56 rfl h1
theorem b128_57 (sc : zScr) (v1 : Int32) (v2 : Int32) (i : Nat → Nat → Int32) (b : Bool) (l : Nat → Nat → Int64) : zev sc (128, 57, [some (.ref 173), some (.int v1), some (.int v2)], [], (197, i, (zRF b), l)) = if (8 : Int32) ≤ (i 176 1) then zev sc (128, 72, [some (.ref 173), some (.int v1), some (.int v2)], [], (197, i, (zRF b), l)) else zev sc (128, 68, [some (.ref 173), some (.int v1), some (.int v2)], [], (197, i, (zRF b), l)) := by
  refine (ze_aload_n 58 zm128 dX10_may_57 rfl rfl).trans ?_
  refine (ze_getR 61 zm128 dX10_may_58 f10_17 k173_10 t10_3 (rr173_3 b) rfl).trans ?_
  refine (ze_iconst 62 zm128 dX10_may_61 ci_1 rfl).trans ?_
  refine (ze_iaload (t := 1) 63 zm128 dX10_may_62 k176_100 n176 vi_1_2 tn_1 rfl).trans ?_
  refine (ze_bipush 65 zm128 dX10_may_63 cb_8 rfl).trans ?_
  exact ze_icmp_ge 72 68 zm128 dX10_may_65 (by decide) rfl
theorem b128_68 (sc : zScr) (v1 : Int32) (v2 : Int32) (i : Nat → Nat → Int32) (b : Bool) (l : Nat → Nat → Int64) : zev sc (128, 68, [some (.ref 173), some (.int v1), some (.int v2)], [], (197, i, (zRF b), l)) = zev sc (128, 73, [some (.ref 173), some (.int v1), some (.int v2)], [.int (1 : Int32)], (197, i, (zRF b), l)) := by
  refine (ze_iconst 69 zm128 dX10_may_68 ci_1 rfl).trans ?_
  exact ze_goto 73 zm128 dX10_may_69 (by decide)
theorem b128_72 (sc : zScr) (v1 : Int32) (v2 : Int32) (i : Nat → Nat → Int32) (b : Bool) (l : Nat → Nat → Int64) : zev sc (128, 72, [some (.ref 173), some (.int v1), some (.int v2)], [], (197, i, (zRF b), l)) = zev sc (128, 73, [some (.ref 173), some (.int v1), some (.int v2)], [.int (0 : Int32)], (197, i, (zRF b), l)) := by
  refine (ze_iconst 73 zm128 dX10_may_72 ci_0 rfl).trans ?_
  rfl
theorem b128_73 (sc : zScr) (v1 : Int32) (v2 : Int32) (s0 : Int32) (i : Nat → Nat → Int32) (b : Bool) (l : Nat → Nat → Int64) (h1 : s0 = 0 ∨ s0 = 1) : zev sc (128, 73, [some (.ref 173), some (.int v1), some (.int v2)], [.int s0], (197, i, (zRF b), l)) = some (.int s0, (197, i, (zRF b), l)) := by
  exact ze_zreturn zm128 dX10_may_73 rfl h1
theorem b128_74 (sc : zScr) (v1 : Int32) (v2 : Int32) (i : Nat → Nat → Int32) (b : Bool) (l : Nat → Nat → Int64) : zev sc (128, 74, [some (.ref 173), some (.int v1), some (.int v2)], [], (197, i, (zRF b), l)) = if (4 : Int32) ≤ (i 180 1) then zev sc (128, 88, [some (.ref 173), some (.int v1), some (.int v2)], [], (197, i, (zRF b), l)) else zev sc (128, 84, [some (.ref 173), some (.int v1), some (.int v2)], [], (197, i, (zRF b), l)) := by
  refine (ze_aload_n 75 zm128 dX10_may_74 rfl rfl).trans ?_
  refine (ze_getR 78 zm128 dX10_may_75 f10_29 k173_10 t10_7 (rr173_7 b) rfl).trans ?_
  refine (ze_iconst 79 zm128 dX10_may_78 ci_1 rfl).trans ?_
  refine (ze_iaload (t := 1) 80 zm128 dX10_may_79 k180_100 n180 vi_1_2 tn_1 rfl).trans ?_
  refine (ze_iconst 81 zm128 dX10_may_80 ci_4 rfl).trans ?_
  exact ze_icmp_ge 88 84 zm128 dX10_may_81 (by decide) rfl
theorem b128_84 (sc : zScr) (v1 : Int32) (v2 : Int32) (i : Nat → Nat → Int32) (b : Bool) (l : Nat → Nat → Int64) : zev sc (128, 84, [some (.ref 173), some (.int v1), some (.int v2)], [], (197, i, (zRF b), l)) = zev sc (128, 89, [some (.ref 173), some (.int v1), some (.int v2)], [.int (1 : Int32)], (197, i, (zRF b), l)) := by
  refine (ze_iconst 85 zm128 dX10_may_84 ci_1 rfl).trans ?_
  exact ze_goto 89 zm128 dX10_may_85 (by decide)
theorem b128_88 (sc : zScr) (v1 : Int32) (v2 : Int32) (i : Nat → Nat → Int32) (b : Bool) (l : Nat → Nat → Int64) : zev sc (128, 88, [some (.ref 173), some (.int v1), some (.int v2)], [], (197, i, (zRF b), l)) = zev sc (128, 89, [some (.ref 173), some (.int v1), some (.int v2)], [.int (0 : Int32)], (197, i, (zRF b), l)) := by
  refine (ze_iconst 89 zm128 dX10_may_88 ci_0 rfl).trans ?_
  rfl
theorem b128_89 (sc : zScr) (v1 : Int32) (v2 : Int32) (s0 : Int32) (i : Nat → Nat → Int32) (b : Bool) (l : Nat → Nat → Int64) (h1 : s0 = 0 ∨ s0 = 1) : zev sc (128, 89, [some (.ref 173), some (.int v1), some (.int v2)], [.int s0], (197, i, (zRF b), l)) = some (.int s0, (197, i, (zRF b), l)) := by
  exact ze_zreturn zm128 dX10_may_89 rfl h1
theorem b128_90 (sc : zScr) (v1 : Int32) (v2 : Int32) (i : Nat → Nat → Int32) (b : Bool) (l : Nat → Nat → Int64) : zev sc (128, 90, [some (.ref 173), some (.int v1), some (.int v2)], [], (197, i, (zRF b), l)) = if (6 : Int32) ≤ (i 183 1) then zev sc (128, 105, [some (.ref 173), some (.int v1), some (.int v2)], [], (197, i, (zRF b), l)) else zev sc (128, 101, [some (.ref 173), some (.int v1), some (.int v2)], [], (197, i, (zRF b), l)) := by
  refine (ze_aload_n 91 zm128 dX10_may_90 rfl rfl).trans ?_
  refine (ze_getR 94 zm128 dX10_may_91 f10_38 k173_10 t10_10 (rr173_10 b) rfl).trans ?_
  refine (ze_iconst 95 zm128 dX10_may_94 ci_1 rfl).trans ?_
  refine (ze_iaload (t := 1) 96 zm128 dX10_may_95 k183_100 n183 vi_1_2 tn_1 rfl).trans ?_
  refine (ze_bipush 98 zm128 dX10_may_96 cb_6 rfl).trans ?_
  exact ze_icmp_ge 105 101 zm128 dX10_may_98 (by decide) rfl
theorem b128_101 (sc : zScr) (v1 : Int32) (v2 : Int32) (i : Nat → Nat → Int32) (b : Bool) (l : Nat → Nat → Int64) : zev sc (128, 101, [some (.ref 173), some (.int v1), some (.int v2)], [], (197, i, (zRF b), l)) = zev sc (128, 106, [some (.ref 173), some (.int v1), some (.int v2)], [.int (1 : Int32)], (197, i, (zRF b), l)) := by
  refine (ze_iconst 102 zm128 dX10_may_101 ci_1 rfl).trans ?_
  exact ze_goto 106 zm128 dX10_may_102 (by decide)
theorem b128_105 (sc : zScr) (v1 : Int32) (v2 : Int32) (i : Nat → Nat → Int32) (b : Bool) (l : Nat → Nat → Int64) : zev sc (128, 105, [some (.ref 173), some (.int v1), some (.int v2)], [], (197, i, (zRF b), l)) = zev sc (128, 106, [some (.ref 173), some (.int v1), some (.int v2)], [.int (0 : Int32)], (197, i, (zRF b), l)) := by
  refine (ze_iconst 106 zm128 dX10_may_105 ci_0 rfl).trans ?_
  rfl
theorem b128_106 (sc : zScr) (v1 : Int32) (v2 : Int32) (s0 : Int32) (i : Nat → Nat → Int32) (b : Bool) (l : Nat → Nat → Int64) (h1 : s0 = 0 ∨ s0 = 1) : zev sc (128, 106, [some (.ref 173), some (.int v1), some (.int v2)], [.int s0], (197, i, (zRF b), l)) = some (.int s0, (197, i, (zRF b), l)) := by
  exact ze_zreturn zm128 dX10_may_106 rfl h1
theorem b128_107 (sc : zScr) (v1 : Int32) (v2 : Int32) (i : Nat → Nat → Int32) (b : Bool) (l : Nat → Nat → Int64) : zev sc (128, 107, [some (.ref 173), some (.int v1), some (.int v2)], [], (197, i, (zRF b), l)) = if v1 = (119 : Int32) then zev sc (128, 113, [some (.ref 173), some (.int v1), some (.int v2)], [], (197, i, (zRF b), l)) else zev sc (128, 121, [some (.ref 173), some (.int v1), some (.int v2)], [], (197, i, (zRF b), l)) := by
  refine (ze_iload_n 108 zm128 dX10_may_107 rfl rfl).trans ?_
  refine (ze_bipush 110 zm128 dX10_may_108 cb_119 rfl).trans ?_
  exact ze_icmp_ne 121 113 zm128 dX10_may_110 (by decide) rfl
theorem b128_113 (sc : zScr) (v1 : Int32) (v2 : Int32) (i : Nat → Nat → Int32) (b : Bool) (l : Nat → Nat → Int64) : zev sc (128, 113, [some (.ref 173), some (.int v1), some (.int v2)], [], (197, i, (zRF b), l)) = if v2 = 0 then zev sc (128, 117, [some (.ref 173), some (.int v1), some (.int v2)], [], (197, i, (zRF b), l)) else zev sc (128, 121, [some (.ref 173), some (.int v1), some (.int v2)], [], (197, i, (zRF b), l)) := by
  refine (ze_iload_n 114 zm128 dX10_may_113 rfl rfl).trans ?_
  exact ze_if_ne 121 117 zm128 dX10_may_114 (by decide) rfl
theorem b128_117 (sc : zScr) (v1 : Int32) (v2 : Int32) (i : Nat → Nat → Int32) (b : Bool) (l : Nat → Nat → Int64) : zev sc (128, 117, [some (.ref 173), some (.int v1), some (.int v2)], [], (197, i, (zRF b), l)) = zev sc (128, 122, [some (.ref 173), some (.int v1), some (.int v2)], [.int (1 : Int32)], (197, i, (zRF b), l)) := by
  refine (ze_iconst 118 zm128 dX10_may_117 ci_1 rfl).trans ?_
  exact ze_goto 122 zm128 dX10_may_118 (by decide)
theorem b128_121 (sc : zScr) (v1 : Int32) (v2 : Int32) (i : Nat → Nat → Int32) (b : Bool) (l : Nat → Nat → Int64) : zev sc (128, 121, [some (.ref 173), some (.int v1), some (.int v2)], [], (197, i, (zRF b), l)) = zev sc (128, 122, [some (.ref 173), some (.int v1), some (.int v2)], [.int (0 : Int32)], (197, i, (zRF b), l)) := by
  refine (ze_iconst 122 zm128 dX10_may_121 ci_0 rfl).trans ?_
  rfl
theorem b128_122 (sc : zScr) (v1 : Int32) (v2 : Int32) (s0 : Int32) (i : Nat → Nat → Int32) (b : Bool) (l : Nat → Nat → Int64) (h1 : s0 = 0 ∨ s0 = 1) : zev sc (128, 122, [some (.ref 173), some (.int v1), some (.int v2)], [.int s0], (197, i, (zRF b), l)) = some (.int s0, (197, i, (zRF b), l)) := by
  exact ze_zreturn zm128 dX10_may_122 rfl h1
/-! HarpFencesModel.read ()V: method 129 -/
theorem b129_0 (sc : zScr) (i : Nat → Nat → Int32) (b : Bool) (l : Nat → Nat → Int64) : zev sc (129, 0, [some (.ref 173), none, none], [], (197, i, (zRF b), l)) = (zev sc (124, 0, [some (.ref 173), none], [], (197, (zU (zU (zU (zU (zU (zU (zU (zU i 173 14 (0 : Int32)) 173 18 (0 : Int32)) 173 19 (0 : Int32)) 175 1 (2 : Int32)) 176 1 (0 : Int32)) 180 1 (0 : Int32)) 183 1 (0 : Int32)) 186 1 (0 : Int32)), (zRF b), l))).bind (fun x => zev sc (129, 56, [some (.ref 173), some (.int (0 : Int32)), none], [], x.2)) := by
  refine (ze_aload_n 1 zm129 dX10_read_0 rfl rfl).trans ?_
  refine (ze_iconst 2 zm129 dX10_read_1 ci_0 rfl).trans ?_
  refine (ze_putI 5 zm129 dX10_read_2 f10_89 k173_10 (Or.inl fn10_14) t10_14 rfl).trans ?_
  refine (ze_aload_n 6 zm129 dX10_read_5 rfl rfl).trans ?_
  refine (ze_iconst 7 zm129 dX10_read_6 ci_0 rfl).trans ?_
  refine (ze_putZ 10 zm129 dX10_read_7 f10_105 k173_10 (Or.inl fn10_18) t10_18 (Or.inl rfl) rfl).trans ?_
  refine (ze_aload_n 11 zm129 dX10_read_10 rfl rfl).trans ?_
  refine (ze_iconst 12 zm129 dX10_read_11 ci_0 rfl).trans ?_
  refine (ze_putI 15 zm129 dX10_read_12 f10_120 k173_10 (Or.inl fn10_19) t10_19 rfl).trans ?_
  refine (ze_aload_n 16 zm129 dX10_read_15 rfl rfl).trans ?_
  refine (ze_getR 19 zm129 dX10_read_16 f10_13 k173_10 t10_2 (rr173_2 b) rfl).trans ?_
  refine (ze_iconst 20 zm129 dX10_read_19 ci_1 rfl).trans ?_
  refine (ze_iconst 21 zm129 dX10_read_20 ci_2 rfl).trans ?_
  refine (ze_iastore (t := 1) 22 zm129 dX10_read_21 k175_100 n175 vi_1_2 tn_1 rfl).trans ?_
  refine (ze_aload_n 23 zm129 dX10_read_22 rfl rfl).trans ?_
  refine (ze_getR 26 zm129 dX10_read_23 f10_17 k173_10 t10_3 (rr173_3 b) rfl).trans ?_
  refine (ze_iconst 27 zm129 dX10_read_26 ci_1 rfl).trans ?_
  refine (ze_iconst 28 zm129 dX10_read_27 ci_0 rfl).trans ?_
  refine (ze_iastore (t := 1) 29 zm129 dX10_read_28 k176_100 n176 vi_1_2 tn_1 rfl).trans ?_
  refine (ze_aload_n 30 zm129 dX10_read_29 rfl rfl).trans ?_
  refine (ze_getR 33 zm129 dX10_read_30 f10_29 k173_10 t10_7 (rr173_7 b) rfl).trans ?_
  refine (ze_iconst 34 zm129 dX10_read_33 ci_1 rfl).trans ?_
  refine (ze_iconst 35 zm129 dX10_read_34 ci_0 rfl).trans ?_
  refine (ze_iastore (t := 1) 36 zm129 dX10_read_35 k180_100 n180 vi_1_2 tn_1 rfl).trans ?_
  refine (ze_aload_n 37 zm129 dX10_read_36 rfl rfl).trans ?_
  refine (ze_getR 40 zm129 dX10_read_37 f10_38 k173_10 t10_10 (rr173_10 b) rfl).trans ?_
  refine (ze_iconst 41 zm129 dX10_read_40 ci_1 rfl).trans ?_
  refine (ze_iconst 42 zm129 dX10_read_41 ci_0 rfl).trans ?_
  refine (ze_iastore (t := 1) 43 zm129 dX10_read_42 k183_100 n183 vi_1_2 tn_1 rfl).trans ?_
  refine (ze_aload_n 44 zm129 dX10_read_43 rfl rfl).trans ?_
  refine (ze_getR 47 zm129 dX10_read_44 f10_47 k173_10 t10_13 (rr173_13 b) rfl).trans ?_
  refine (ze_iconst 48 zm129 dX10_read_47 ci_1 rfl).trans ?_
  refine (ze_iconst 49 zm129 dX10_read_48 ci_0 rfl).trans ?_
  refine (ze_iastore (t := 1) 50 zm129 dX10_read_49 k186_100 n186 vi_1_2 tn_1 rfl).trans ?_
  refine (ze_iconst 51 zm129 dX10_read_50 ci_0 rfl).trans ?_
  refine (ze_istore_n (A := 99) (ls' := [some (.ref 173), some (.int (0 : Int32)), none]) 52 zm129 dX10_read_51 za129 rfl rfl rfl rfl rfl).trans ?_
  refine (ze_aload_n 53 zm129 dX10_read_52 rfl rfl).trans ?_
  exact ze_virtV (as := []) (rest := []) 56 zm129 dX10_read_53 r10_109 zm124 rfl rfl k173_10 rfl rfl rfl rfl
theorem b129_56 (sc : zScr) (v1 : Int32) (w2 : Option Value) (i : Nat → Nat → Int32) (b : Bool) (l : Nat → Nat → Int64) : zev sc (129, 56, [some (.ref 173), some (.int v1), w2], [], (197, i, (zRF b), l)) = if (i 173 16) = (4 : Int32) then zev sc (129, 172, [some (.ref 173), some (.int v1), w2], [], (197, i, (zRF b), l)) else zev sc (129, 64, [some (.ref 173), some (.int v1), w2], [], (197, i, (zRF b), l)) := by
  refine (ze_aload_n 57 zm129 dX10_read_56 rfl rfl).trans ?_
  refine (ze_getI 60 zm129 dX10_read_57 f10_102 k173_10 (Or.inl t10_16) rfl).trans ?_
  refine (ze_iconst 61 zm129 dX10_read_60 ci_4 rfl).trans ?_
  exact ze_icmp_eq 172 64 zm129 dX10_read_61 (by decide) rfl
theorem b129_64 (sc : zScr) (v1 : Int32) (w2 : Option Value) (i : Nat → Nat → Int32) (b : Bool) (l : Nat → Nat → Int64) : zev sc (129, 64, [some (.ref 173), some (.int v1), w2], [], (197, i, (zRF b), l)) = if (i 173 18) = 0 then zev sc (129, 71, [some (.ref 173), some (.int v1), w2], [], (197, i, (zRF b), l)) else zev sc (129, 172, [some (.ref 173), some (.int v1), w2], [], (197, i, (zRF b), l)) := by
  refine (ze_aload_n 65 zm129 dX10_read_64 rfl rfl).trans ?_
  refine (ze_getI 68 zm129 dX10_read_65 f10_105 k173_10 (Or.inr t10_18) rfl).trans ?_
  exact ze_if_ne 172 71 zm129 dX10_read_68 (by decide) rfl
theorem b129_71 (sc : zScr) (v1 : Int32) (w2 : Option Value) (i : Nat → Nat → Int32) (b : Bool) (l : Nat → Nat → Int64) : zev sc (129, 71, [some (.ref 173), some (.int v1), w2], [], (197, i, (zRF b), l)) = if (i 173 16) = (1 : Int32) then zev sc (129, 79, [some (.ref 173), some (.int v1), w2], [], (197, i, (zRF b), l)) else zev sc (129, 86, [some (.ref 173), some (.int v1), w2], [], (197, i, (zRF b), l)) := by
  refine (ze_aload_n 72 zm129 dX10_read_71 rfl rfl).trans ?_
  refine (ze_getI 75 zm129 dX10_read_72 f10_102 k173_10 (Or.inl t10_16) rfl).trans ?_
  refine (ze_iconst 76 zm129 dX10_read_75 ci_1 rfl).trans ?_
  exact ze_icmp_ne 86 79 zm129 dX10_read_76 (by decide) rfl
theorem b129_79 (sc : zScr) (v1 : Int32) (w2 : Option Value) (i : Nat → Nat → Int32) (b : Bool) (l : Nat → Nat → Int64) : zev sc (129, 79, [some (.ref 173), some (.int v1), w2], [], (197, i, (zRF b), l)) = zev sc (129, 87, [some (.ref 173), some (.int v1), w2], [.int (i 173 17)], (197, i, (zRF b), l)) := by
  refine (ze_aload_n 80 zm129 dX10_read_79 rfl rfl).trans ?_
  refine (ze_getI 83 zm129 dX10_read_80 f10_99 k173_10 (Or.inl t10_17) rfl).trans ?_
  exact ze_goto 87 zm129 dX10_read_83 (by decide)
theorem b129_86 (sc : zScr) (v1 : Int32) (w2 : Option Value) (i : Nat → Nat → Int32) (b : Bool) (l : Nat → Nat → Int64) : zev sc (129, 86, [some (.ref 173), some (.int v1), w2], [], (197, i, (zRF b), l)) = zev sc (129, 87, [some (.ref 173), some (.int v1), w2], [.int (0 : Int32)], (197, i, (zRF b), l)) := by
  refine (ze_iconst 87 zm129 dX10_read_86 ci_0 rfl).trans ?_
  rfl
theorem b129_87 (sc : zScr) (v1 : Int32) (w2 : Option Value) (s0 : Int32) (i : Nat → Nat → Int32) (b : Bool) (l : Nat → Nat → Int64) : zev sc (129, 87, [some (.ref 173), some (.int v1), w2], [.int s0], (197, i, (zRF b), l)) = if (i 173 16) = (1 : Int32) then zev sc (129, 97, [some (.ref 173), some (.int v1), some (.int s0)], [.ref 173], (197, i, (zRF b), l)) else zev sc (129, 110, [some (.ref 173), some (.int v1), some (.int s0)], [.ref 173], (197, i, (zRF b), l)) := by
  refine (ze_istore_n (A := 99) (ls' := [some (.ref 173), some (.int v1), some (.int s0)]) 88 zm129 dX10_read_87 za129 rfl rfl rfl rfl rfl).trans ?_
  refine (ze_aload_n 89 zm129 dX10_read_88 rfl rfl).trans ?_
  refine (ze_aload_n 90 zm129 dX10_read_89 rfl rfl).trans ?_
  refine (ze_getI 93 zm129 dX10_read_90 f10_102 k173_10 (Or.inl t10_16) rfl).trans ?_
  refine (ze_iconst 94 zm129 dX10_read_93 ci_1 rfl).trans ?_
  exact ze_icmp_ne 110 97 zm129 dX10_read_94 (by decide) rfl
theorem b129_97 (sc : zScr) (v1 : Int32) (v2 : Int32) (i : Nat → Nat → Int32) (b : Bool) (l : Nat → Nat → Int64) : zev sc (129, 97, [some (.ref 173), some (.int v1), some (.int v2)], [.ref 173], (197, i, (zRF b), l)) = (zev sc (128, 0, [some (.ref 173), some (.int v2), some (.int v1)], [], (197, i, (zRF b), l))).bind (fun x => zev sc (129, 103, [some (.ref 173), some (.int v1), some (.int v2)], [x.1, .ref 173], x.2)) := by
  refine (ze_aload_n 98 zm129 dX10_read_97 rfl rfl).trans ?_
  refine (ze_iload_n 99 zm129 dX10_read_98 rfl rfl).trans ?_
  refine (ze_iload_n 100 zm129 dX10_read_99 rfl rfl).trans ?_
  exact ze_virtI (as := [.int v2, .int v1]) (rest := [.ref 173]) 103 zm129 dX10_read_100 r10_123 zm128 rfl rfl k173_10 rfl rfl rfl rfl
theorem b129_103 (sc : zScr) (v1 : Int32) (v2 : Int32) (s0 : Int32) (i : Nat → Nat → Int32) (b : Bool) (l : Nat → Nat → Int64) : zev sc (129, 103, [some (.ref 173), some (.int v1), some (.int v2)], [.int s0, .ref 173], (197, i, (zRF b), l)) = if s0 = 0 then zev sc (129, 110, [some (.ref 173), some (.int v1), some (.int v2)], [.ref 173], (197, i, (zRF b), l)) else zev sc (129, 106, [some (.ref 173), some (.int v1), some (.int v2)], [.ref 173], (197, i, (zRF b), l)) := by
  exact ze_if_eq 110 106 zm129 dX10_read_103 (by decide) rfl
theorem b129_106 (sc : zScr) (v1 : Int32) (v2 : Int32) (i : Nat → Nat → Int32) (b : Bool) (l : Nat → Nat → Int64) : zev sc (129, 106, [some (.ref 173), some (.int v1), some (.int v2)], [.ref 173], (197, i, (zRF b), l)) = zev sc (129, 111, [some (.ref 173), some (.int v1), some (.int v2)], [.int (1 : Int32), .ref 173], (197, i, (zRF b), l)) := by
  refine (ze_iconst 107 zm129 dX10_read_106 ci_1 rfl).trans ?_
  exact ze_goto 111 zm129 dX10_read_107 (by decide)
theorem b129_110 (sc : zScr) (v1 : Int32) (v2 : Int32) (i : Nat → Nat → Int32) (b : Bool) (l : Nat → Nat → Int64) : zev sc (129, 110, [some (.ref 173), some (.int v1), some (.int v2)], [.ref 173], (197, i, (zRF b), l)) = zev sc (129, 111, [some (.ref 173), some (.int v1), some (.int v2)], [.int (0 : Int32), .ref 173], (197, i, (zRF b), l)) := by
  refine (ze_iconst 111 zm129 dX10_read_110 ci_0 rfl).trans ?_
  rfl
theorem b129_111 (sc : zScr) (v1 : Int32) (v2 : Int32) (s0 : Int32) (i : Nat → Nat → Int32) (b : Bool) (l : Nat → Nat → Int64) : zev sc (129, 111, [some (.ref 173), some (.int v1), some (.int v2)], [.int s0, .ref 173], (197, i, (zRF b), l)) = (zev sc (125, 0, [some (.ref 173), some (.int s0)], [], (197, i, (zRF b), l))).bind (fun x => zev sc (129, 114, [some (.ref 173), some (.int v1), some (.int v2)], [], x.2)) := by
  exact ze_virtV (as := [.int s0]) (rest := []) 114 zm129 dX10_read_111 r10_112 zm125 rfl rfl k173_10 rfl rfl rfl rfl
theorem b129_114 (sc : zScr) (v1 : Int32) (v2 : Int32) (i : Nat → Nat → Int32) (b : Bool) (l : Nat → Nat → Int64) : zev sc (129, 114, [some (.ref 173), some (.int v1), some (.int v2)], [], (197, i, (zRF b), l)) = if (i 173 18) = 0 then zev sc (129, 121, [some (.ref 173), some (.int v1), some (.int v2)], [], (197, i, (zRF b), l)) else zev sc (129, 169, [some (.ref 173), some (.int v1), some (.int v2)], [], (197, i, (zRF b), l)) := by
  refine (ze_aload_n 115 zm129 dX10_read_114 rfl rfl).trans ?_
  refine (ze_getI 118 zm129 dX10_read_115 f10_105 k173_10 (Or.inr t10_18) rfl).trans ?_
  exact ze_if_ne 169 121 zm129 dX10_read_118 (by decide) rfl
theorem b129_121 (sc : zScr) (v1 : Int32) (v2 : Int32) (i : Nat → Nat → Int32) (b : Bool) (l : Nat → Nat → Int64) : zev sc (129, 121, [some (.ref 173), some (.int v1), some (.int v2)], [], (197, i, (zRF b), l)) = if v1 = 0 then zev sc (129, 125, [some (.ref 173), some (.int v1), some (.int v2)], [], (197, i, (zRF b), l)) else zev sc (129, 131, [some (.ref 173), some (.int v1), some (.int v2)], [], (197, i, (zRF b), l)) := by
  refine (ze_iload_n 122 zm129 dX10_read_121 rfl rfl).trans ?_
  exact ze_if_ne 131 125 zm129 dX10_read_122 (by decide) rfl
theorem b129_125 (sc : zScr) (v1 : Int32) (v2 : Int32) (i : Nat → Nat → Int32) (b : Bool) (l : Nat → Nat → Int64) : zev sc (129, 125, [some (.ref 173), some (.int v1), some (.int v2)], [], (197, i, (zRF b), l)) = if v2 = (119 : Int32) then zev sc (129, 131, [some (.ref 173), some (.int v1), some (.int v2)], [], (197, i, (zRF b), l)) else zev sc (129, 135, [some (.ref 173), some (.int v1), some (.int v2)], [], (197, i, (zRF b), l)) := by
  refine (ze_iload_n 126 zm129 dX10_read_125 rfl rfl).trans ?_
  refine (ze_bipush 128 zm129 dX10_read_126 cb_119 rfl).trans ?_
  exact ze_icmp_ne 135 131 zm129 dX10_read_128 (by decide) rfl
theorem b129_131 (sc : zScr) (v1 : Int32) (v2 : Int32) (i : Nat → Nat → Int32) (b : Bool) (l : Nat → Nat → Int64) : zev sc (129, 131, [some (.ref 173), some (.int v1), some (.int v2)], [], (197, i, (zRF b), l)) = zev sc (129, 136, [some (.ref 173), some (.int v1), some (.int v2)], [.int (1 : Int32)], (197, i, (zRF b), l)) := by
  refine (ze_iconst 132 zm129 dX10_read_131 ci_1 rfl).trans ?_
  exact ze_goto 136 zm129 dX10_read_132 (by decide)
theorem b129_135 (sc : zScr) (v1 : Int32) (v2 : Int32) (i : Nat → Nat → Int32) (b : Bool) (l : Nat → Nat → Int64) : zev sc (129, 135, [some (.ref 173), some (.int v1), some (.int v2)], [], (197, i, (zRF b), l)) = zev sc (129, 136, [some (.ref 173), some (.int v1), some (.int v2)], [.int (0 : Int32)], (197, i, (zRF b), l)) := by
  refine (ze_iconst 136 zm129 dX10_read_135 ci_0 rfl).trans ?_
  rfl
theorem b129_136 (sc : zScr) (v1 : Int32) (v2 : Int32) (s0 : Int32) (i : Nat → Nat → Int32) (b : Bool) (l : Nat → Nat → Int64) : zev sc (129, 136, [some (.ref 173), some (.int v1), some (.int v2)], [.int s0], (197, i, (zRF b), l)) = (zev sc (127, 0, [some (.ref 173), some (.int v2), none, none], [], (197, i, (zRF b), l))).bind (fun x => zev sc (129, 142, [some (.ref 173), some (.int s0), some (.int v2)], [], x.2)) := by
  refine (ze_istore_n (A := 99) (ls' := [some (.ref 173), some (.int s0), some (.int v2)]) 137 zm129 dX10_read_136 za129 rfl rfl rfl rfl rfl).trans ?_
  refine (ze_aload_n 138 zm129 dX10_read_137 rfl rfl).trans ?_
  refine (ze_iload_n 139 zm129 dX10_read_138 rfl rfl).trans ?_
  exact ze_virtV (as := [.int v2]) (rest := []) 142 zm129 dX10_read_139 r10_127 zm127 rfl rfl k173_10 rfl rfl rfl rfl
theorem b129_142 (sc : zScr) (v1 : Int32) (v2 : Int32) (i : Nat → Nat → Int32) (b : Bool) (l : Nat → Nat → Int64) : zev sc (129, 142, [some (.ref 173), some (.int v1), some (.int v2)], [], (197, i, (zRF b), l)) = if (i 173 16) = (3 : Int32) then zev sc (129, 151, [some (.ref 173), some (.int v1), some (.int v2)], [.ref 173], (197, i, (zRF b), l)) else zev sc (129, 155, [some (.ref 173), some (.int v1), some (.int v2)], [.ref 173], (197, i, (zRF b), l)) := by
  refine (ze_aload_n 143 zm129 dX10_read_142 rfl rfl).trans ?_
  refine (ze_aload_n 144 zm129 dX10_read_143 rfl rfl).trans ?_
  refine (ze_getI 147 zm129 dX10_read_144 f10_102 k173_10 (Or.inl t10_16) rfl).trans ?_
  refine (ze_iconst 148 zm129 dX10_read_147 ci_3 rfl).trans ?_
  exact ze_icmp_ne 155 151 zm129 dX10_read_148 (by decide) rfl
theorem b129_151 (sc : zScr) (v1 : Int32) (v2 : Int32) (i : Nat → Nat → Int32) (b : Bool) (l : Nat → Nat → Int64) : zev sc (129, 151, [some (.ref 173), some (.int v1), some (.int v2)], [.ref 173], (197, i, (zRF b), l)) = zev sc (129, 156, [some (.ref 173), some (.int v1), some (.int v2)], [.int (1 : Int32), .ref 173], (197, i, (zRF b), l)) := by
  refine (ze_iconst 152 zm129 dX10_read_151 ci_1 rfl).trans ?_
  exact ze_goto 156 zm129 dX10_read_152 (by decide)
theorem b129_155 (sc : zScr) (v1 : Int32) (v2 : Int32) (i : Nat → Nat → Int32) (b : Bool) (l : Nat → Nat → Int64) : zev sc (129, 155, [some (.ref 173), some (.int v1), some (.int v2)], [.ref 173], (197, i, (zRF b), l)) = zev sc (129, 156, [some (.ref 173), some (.int v1), some (.int v2)], [.int (0 : Int32), .ref 173], (197, i, (zRF b), l)) := by
  refine (ze_iconst 156 zm129 dX10_read_155 ci_0 rfl).trans ?_
  rfl
theorem b129_156 (sc : zScr) (v1 : Int32) (v2 : Int32) (s0 : Int32) (i : Nat → Nat → Int32) (b : Bool) (l : Nat → Nat → Int64) : zev sc (129, 156, [some (.ref 173), some (.int v1), some (.int v2)], [.int s0, .ref 173], (197, i, (zRF b), l)) = (zev sc (125, 0, [some (.ref 173), some (.int s0)], [], (197, i, (zRF b), l))).bind (fun x => zev sc (129, 159, [some (.ref 173), some (.int v1), some (.int v2)], [], x.2)) := by
  exact ze_virtV (as := [.int s0]) (rest := []) 159 zm129 dX10_read_156 r10_112 zm125 rfl rfl k173_10 rfl rfl rfl rfl
theorem b129_159 (sc : zScr) (v1 : Int32) (v2 : Int32) (i : Nat → Nat → Int32) (b : Bool) (l : Nat → Nat → Int64) : zev sc (129, 159, [some (.ref 173), some (.int v1), some (.int v2)], [], (197, i, (zRF b), l)) = zev sc (129, 169, [some (.ref 173), some (.int v1), some (.int v2)], [], (197, (zU i 173 19 ((i 173 19) + (1 : Int32))), (zRF b), l)) := by
  refine (ze_aload_n 160 zm129 dX10_read_159 rfl rfl).trans ?_
  refine (ze_dup 161 zm129 dX10_read_160 rfl rfl).trans ?_
  refine (ze_getI 164 zm129 dX10_read_161 f10_120 k173_10 (Or.inl t10_19) rfl).trans ?_
  refine (ze_iconst 165 zm129 dX10_read_164 ci_1 rfl).trans ?_
  refine (ze_iadd 166 zm129 dX10_read_165 rfl).trans ?_
  refine (ze_putI 169 zm129 dX10_read_166 f10_120 k173_10 (Or.inl fn10_19) t10_19 rfl).trans ?_
  rfl
theorem b129_169 (sc : zScr) (v1 : Int32) (v2 : Int32) (i : Nat → Nat → Int32) (b : Bool) (l : Nat → Nat → Int64) : zev sc (129, 169, [some (.ref 173), some (.int v1), some (.int v2)], [], (197, i, (zRF b), l)) = zev sc (129, 56, [some (.ref 173), some (.int v1), some (.int v2)], [], (197, i, (zRF b), l)) := by
  exact ze_goto 56 zm129 dX10_read_169 (by decide)
theorem b129_172 (sc : zScr) (v1 : Int32) (w2 : Option Value) (i : Nat → Nat → Int32) (b : Bool) (l : Nat → Nat → Int64) : zev sc (129, 172, [some (.ref 173), some (.int v1), w2], [], (197, i, (zRF b), l)) = some (.null, (197, i, (zRF b), l)) := by
  exact ze_return zm129 dX10_read_172 rfl
/-! HarpFencesModel.downs ()I: method 130 -/
theorem b130_0 (sc : zScr) (i : Nat → Nat → Int32) (b : Bool) (l : Nat → Nat → Int64) : zev sc (130, 0, [some (.ref 173), none], [], (197, i, (zRF b), l)) = (zev sc (129, 0, [some (.ref 173), none, none], [], (197, i, (zRF b), l))).bind (fun x => zev sc (130, 4, [some (.ref 173), none], [], x.2)) := by
  refine (ze_aload_n 1 zm130 dX10_downs_0 rfl rfl).trans ?_
  exact ze_virtV (as := []) (rest := []) 4 zm130 dX10_downs_1 r10_131 zm129 rfl rfl k173_10 rfl rfl rfl rfl
theorem b130_4 (sc : zScr) (i : Nat → Nat → Int32) (b : Bool) (l : Nat → Nat → Int64) : zev sc (130, 4, [some (.ref 173), none], [], (197, i, (zRF b), l)) = if (i 173 18) = 0 then zev sc (130, 19, [some (.ref 173), none], [], (197, i, (zRF b), l)) else zev sc (130, 11, [some (.ref 173), none], [], (197, i, (zRF b), l)) := by
  refine (ze_aload_n 5 zm130 dX10_downs_4 rfl rfl).trans ?_
  refine (ze_getI 8 zm130 dX10_downs_5 f10_105 k173_10 (Or.inr t10_18) rfl).trans ?_
  exact ze_if_eq 19 11 zm130 dX10_downs_8 (by decide) rfl
theorem b130_11 (sc : zScr) (i : Nat → Nat → Int32) (b : Bool) (l : Nat → Nat → Int64) : zev sc (130, 11, [some (.ref 173), none], [], (197, i, (zRF b), l)) = some (.int ((-10 : Int32) - (i 173 15)), (197, i, (zRF b), l)) := by
  refine (ze_bipush 13 zm130 dX10_downs_11 cb_m10 rfl).trans ?_
  refine (ze_aload_n 14 zm130 dX10_downs_13 rfl rfl).trans ?_
  refine (ze_getI 17 zm130 dX10_downs_14 f10_96 k173_10 (Or.inl t10_15) rfl).trans ?_
  refine (ze_isub 18 zm130 dX10_downs_17 rfl).trans ?_
  exact ze_ireturn zm130 dX10_downs_18 rfl
theorem b130_19 (sc : zScr) (i : Nat → Nat → Int32) (b : Bool) (l : Nat → Nat → Int64) : zev sc (130, 19, [some (.ref 173), none], [], (197, i, (zRF b), l)) = zev sc (130, 69, [some (.ref 173), some (.int (0 : Int32))], [], (197, (zU (zU (zU (zU i 175 0 (i 175 1)) 176 0 ((zU i 175 0 (i 175 1)) 176 1)) 180 0 ((zU (zU i 175 0 (i 175 1)) 176 0 ((zU i 175 0 (i 175 1)) 176 1)) 180 1)) 183 0 ((zU (zU (zU i 175 0 (i 175 1)) 176 0 ((zU i 175 0 (i 175 1)) 176 1)) 180 0 ((zU (zU i 175 0 (i 175 1)) 176 0 ((zU i 175 0 (i 175 1)) 176 1)) 180 1)) 183 1)), (zRF b), l)) := by
  refine (ze_aload_n 20 zm130 dX10_downs_19 rfl rfl).trans ?_
  refine (ze_getR 23 zm130 dX10_downs_20 f10_13 k173_10 t10_2 (rr173_2 b) rfl).trans ?_
  refine (ze_iconst 24 zm130 dX10_downs_23 ci_0 rfl).trans ?_
  refine (ze_aload_n 25 zm130 dX10_downs_24 rfl rfl).trans ?_
  refine (ze_getR 28 zm130 dX10_downs_25 f10_13 k173_10 t10_2 (rr173_2 b) rfl).trans ?_
  refine (ze_iconst 29 zm130 dX10_downs_28 ci_1 rfl).trans ?_
  refine (ze_iaload (t := 1) 30 zm130 dX10_downs_29 k175_100 n175 vi_1_2 tn_1 rfl).trans ?_
  refine (ze_iastore (t := 0) 31 zm130 dX10_downs_30 k175_100 n175 vi_0_2 tn_0 rfl).trans ?_
  refine (ze_aload_n 32 zm130 dX10_downs_31 rfl rfl).trans ?_
  refine (ze_getR 35 zm130 dX10_downs_32 f10_17 k173_10 t10_3 (rr173_3 b) rfl).trans ?_
  refine (ze_iconst 36 zm130 dX10_downs_35 ci_0 rfl).trans ?_
  refine (ze_aload_n 37 zm130 dX10_downs_36 rfl rfl).trans ?_
  refine (ze_getR 40 zm130 dX10_downs_37 f10_17 k173_10 t10_3 (rr173_3 b) rfl).trans ?_
  refine (ze_iconst 41 zm130 dX10_downs_40 ci_1 rfl).trans ?_
  refine (ze_iaload (t := 1) 42 zm130 dX10_downs_41 k176_100 n176 vi_1_2 tn_1 rfl).trans ?_
  refine (ze_iastore (t := 0) 43 zm130 dX10_downs_42 k176_100 n176 vi_0_2 tn_0 rfl).trans ?_
  refine (ze_aload_n 44 zm130 dX10_downs_43 rfl rfl).trans ?_
  refine (ze_getR 47 zm130 dX10_downs_44 f10_29 k173_10 t10_7 (rr173_7 b) rfl).trans ?_
  refine (ze_iconst 48 zm130 dX10_downs_47 ci_0 rfl).trans ?_
  refine (ze_aload_n 49 zm130 dX10_downs_48 rfl rfl).trans ?_
  refine (ze_getR 52 zm130 dX10_downs_49 f10_29 k173_10 t10_7 (rr173_7 b) rfl).trans ?_
  refine (ze_iconst 53 zm130 dX10_downs_52 ci_1 rfl).trans ?_
  refine (ze_iaload (t := 1) 54 zm130 dX10_downs_53 k180_100 n180 vi_1_2 tn_1 rfl).trans ?_
  refine (ze_iastore (t := 0) 55 zm130 dX10_downs_54 k180_100 n180 vi_0_2 tn_0 rfl).trans ?_
  refine (ze_aload_n 56 zm130 dX10_downs_55 rfl rfl).trans ?_
  refine (ze_getR 59 zm130 dX10_downs_56 f10_38 k173_10 t10_10 (rr173_10 b) rfl).trans ?_
  refine (ze_iconst 60 zm130 dX10_downs_59 ci_0 rfl).trans ?_
  refine (ze_aload_n 61 zm130 dX10_downs_60 rfl rfl).trans ?_
  refine (ze_getR 64 zm130 dX10_downs_61 f10_38 k173_10 t10_10 (rr173_10 b) rfl).trans ?_
  refine (ze_iconst 65 zm130 dX10_downs_64 ci_1 rfl).trans ?_
  refine (ze_iaload (t := 1) 66 zm130 dX10_downs_65 k183_100 n183 vi_1_2 tn_1 rfl).trans ?_
  refine (ze_iastore (t := 0) 67 zm130 dX10_downs_66 k183_100 n183 vi_0_2 tn_0 rfl).trans ?_
  refine (ze_iconst 68 zm130 dX10_downs_67 ci_0 rfl).trans ?_
  refine (ze_istore_n (A := 99) (ls' := [some (.ref 173), some (.int (0 : Int32))]) 69 zm130 dX10_downs_68 za130 rfl rfl rfl rfl rfl).trans ?_
  rfl
theorem b130_69 (sc : zScr) (v1 : Int32) (i : Nat → Nat → Int32) (b : Bool) (l : Nat → Nat → Int64) : zev sc (130, 69, [some (.ref 173), some (.int v1)], [], (197, i, (zRF b), l)) = if (30 : Int32) ≤ v1 then zev sc (130, 88, [some (.ref 173), some (.int v1)], [], (197, i, (zRF b), l)) else zev sc (130, 75, [some (.ref 173), some (.int v1)], [], (197, i, (zRF b), l)) := by
  refine (ze_iload_n 70 zm130 dX10_downs_69 rfl rfl).trans ?_
  refine (ze_bipush 72 zm130 dX10_downs_70 cb_30 rfl).trans ?_
  exact ze_icmp_ge 88 75 zm130 dX10_downs_72 (by decide) rfl
theorem b130_75 (sc : zScr) (v1 : Int32) (i : Nat → Nat → Int32) (b : Bool) (l : Nat → Nat → Int64) (h1 : vp_in v1 30) : zev sc (130, 75, [some (.ref 173), some (.int v1)], [], (197, i, (zRF b), l)) = zev sc (130, 69, [some (.ref 173), some (.int (v1 + 1))], [], (197, (zU i 187 v1.toNatClampNeg (0 : Int32)), (zRF b), l)) := by
  refine (ze_aload_n 76 zm130 dX10_downs_75 rfl rfl).trans ?_
  refine (ze_getR 79 zm130 dX10_downs_76 f10_50 k173_10 t10_20 (rr173_20 b) rfl).trans ?_
  refine (ze_iload_n 80 zm130 dX10_downs_79 rfl rfl).trans ?_
  refine (ze_iconst 81 zm130 dX10_downs_80 ci_0 rfl).trans ?_
  refine (ze_iastore (t := v1.toNatClampNeg) 82 zm130 dX10_downs_81 k187_100 n187 h1 rfl rfl).trans ?_
  refine (ze_iinc (v := (1 : Int32)) (A := 99) (ls' := [some (.ref 173), some (.int (v1 + 1))]) 85 zm130 dX10_downs_82 rfl ci_1 za130 rfl rfl rfl rfl rfl).trans ?_
  exact ze_goto 69 zm130 dX10_downs_85 (by decide)
theorem b130_88 (sc : zScr) (v1 : Int32) (i : Nat → Nat → Int32) (b : Bool) (l : Nat → Nat → Int64) : zev sc (130, 88, [some (.ref 173), some (.int v1)], [], (197, i, (zRF b), l)) = zev sc (130, 90, [some (.ref 173), some (.int (0 : Int32))], [], (197, i, (zRF b), l)) := by
  refine (ze_iconst 89 zm130 dX10_downs_88 ci_0 rfl).trans ?_
  refine (ze_istore_n (A := 99) (ls' := [some (.ref 173), some (.int (0 : Int32))]) 90 zm130 dX10_downs_89 za130 rfl rfl rfl rfl rfl).trans ?_
  rfl
theorem b130_90 (sc : zScr) (v1 : Int32) (i : Nat → Nat → Int32) (b : Bool) (l : Nat → Nat → Int64) : zev sc (130, 90, [some (.ref 173), some (.int v1)], [], (197, i, (zRF b), l)) = if (8 : Int32) ≤ v1 then zev sc (130, 164, [some (.ref 173), some (.int v1)], [], (197, i, (zRF b), l)) else zev sc (130, 96, [some (.ref 173), some (.int v1)], [], (197, i, (zRF b), l)) := by
  refine (ze_iload_n 91 zm130 dX10_downs_90 rfl rfl).trans ?_
  refine (ze_bipush 93 zm130 dX10_downs_91 cb_8 rfl).trans ?_
  exact ze_icmp_ge 164 96 zm130 dX10_downs_93 (by decide) rfl
theorem b130_96 (sc : zScr) (v1 : Int32) (i : Nat → Nat → Int32) (b : Bool) (l : Nat → Nat → Int64) (h1 : vp_in ((8 : Int32) + v1) 16) (h2 : vp_in v1 16) : zev sc (130, 96, [some (.ref 173), some (.int v1)], [], (197, i, (zRF b), l)) = if ((zU (zU i 177 v1.toNatClampNeg (i 177 (((8 : Int32) + v1)).toNatClampNeg)) 178 v1.toNatClampNeg ((zU i 177 v1.toNatClampNeg (i 177 (((8 : Int32) + v1)).toNatClampNeg)) 178 (((8 : Int32) + v1)).toNatClampNeg)) 176 0) ≤ v1 then zev sc (130, 156, [some (.ref 173), some (.int v1)], [.int ((6 : Int32) + v1), .ref 187], (197, (zU (zU i 177 v1.toNatClampNeg (i 177 (((8 : Int32) + v1)).toNatClampNeg)) 178 v1.toNatClampNeg ((zU i 177 v1.toNatClampNeg (i 177 (((8 : Int32) + v1)).toNatClampNeg)) 178 (((8 : Int32) + v1)).toNatClampNeg)), (zRF b), l)) else zev sc (130, 144, [some (.ref 173), some (.int v1)], [.int ((6 : Int32) + v1), .ref 187], (197, (zU (zU i 177 v1.toNatClampNeg (i 177 (((8 : Int32) + v1)).toNatClampNeg)) 178 v1.toNatClampNeg ((zU i 177 v1.toNatClampNeg (i 177 (((8 : Int32) + v1)).toNatClampNeg)) 178 (((8 : Int32) + v1)).toNatClampNeg)), (zRF b), l)) := by
  refine (ze_aload_n 97 zm130 dX10_downs_96 rfl rfl).trans ?_
  refine (ze_getR 100 zm130 dX10_downs_97 f10_20 k173_10 t10_4 (rr173_4 b) rfl).trans ?_
  refine (ze_iload_n 101 zm130 dX10_downs_100 rfl rfl).trans ?_
  refine (ze_aload_n 102 zm130 dX10_downs_101 rfl rfl).trans ?_
  refine (ze_getR 105 zm130 dX10_downs_102 f10_20 k173_10 t10_4 (rr173_4 b) rfl).trans ?_
  refine (ze_bipush 107 zm130 dX10_downs_105 cb_8 rfl).trans ?_
  refine (ze_iload_n 108 zm130 dX10_downs_107 rfl rfl).trans ?_
  refine (ze_iadd 109 zm130 dX10_downs_108 rfl).trans ?_
  refine (ze_iaload (t := (((8 : Int32) + v1)).toNatClampNeg) 110 zm130 dX10_downs_109 k177_100 n177 h1 rfl rfl).trans ?_
  refine (ze_iastore (t := v1.toNatClampNeg) 111 zm130 dX10_downs_110 k177_100 n177 h2 rfl rfl).trans ?_
  refine (ze_aload_n 112 zm130 dX10_downs_111 rfl rfl).trans ?_
  refine (ze_getR 115 zm130 dX10_downs_112 f10_23 k173_10 t10_5 (rr173_5 b) rfl).trans ?_
  refine (ze_iload_n 116 zm130 dX10_downs_115 rfl rfl).trans ?_
  refine (ze_aload_n 117 zm130 dX10_downs_116 rfl rfl).trans ?_
  refine (ze_getR 120 zm130 dX10_downs_117 f10_23 k173_10 t10_5 (rr173_5 b) rfl).trans ?_
  refine (ze_bipush 122 zm130 dX10_downs_120 cb_8 rfl).trans ?_
  refine (ze_iload_n 123 zm130 dX10_downs_122 rfl rfl).trans ?_
  refine (ze_iadd 124 zm130 dX10_downs_123 rfl).trans ?_
  refine (ze_iaload (t := (((8 : Int32) + v1)).toNatClampNeg) 125 zm130 dX10_downs_124 k178_100 n178 h1 rfl rfl).trans ?_
  refine (ze_iastore (t := v1.toNatClampNeg) 126 zm130 dX10_downs_125 k178_100 n178 h2 rfl rfl).trans ?_
  refine (ze_aload_n 127 zm130 dX10_downs_126 rfl rfl).trans ?_
  refine (ze_getR 130 zm130 dX10_downs_127 f10_50 k173_10 t10_20 (rr173_20 b) rfl).trans ?_
  refine (ze_bipush 132 zm130 dX10_downs_130 cb_6 rfl).trans ?_
  refine (ze_iload_n 133 zm130 dX10_downs_132 rfl rfl).trans ?_
  refine (ze_iadd 134 zm130 dX10_downs_133 rfl).trans ?_
  refine (ze_iload_n 135 zm130 dX10_downs_134 rfl rfl).trans ?_
  refine (ze_aload_n 136 zm130 dX10_downs_135 rfl rfl).trans ?_
  refine (ze_getR 139 zm130 dX10_downs_136 f10_17 k173_10 t10_3 (rr173_3 b) rfl).trans ?_
  refine (ze_iconst 140 zm130 dX10_downs_139 ci_0 rfl).trans ?_
  refine (ze_iaload (t := 0) 141 zm130 dX10_downs_140 k176_100 n176 vi_0_2 tn_0 rfl).trans ?_
  exact ze_icmp_ge 156 144 zm130 dX10_downs_141 (by decide) rfl
theorem b130_144 (sc : zScr) (v1 : Int32) (s0 : Int32) (i : Nat → Nat → Int32) (b : Bool) (l : Nat → Nat → Int64) (h1 : vp_in ((8 : Int32) + v1) 16) : zev sc (130, 144, [some (.ref 173), some (.int v1)], [.int s0, .ref 187], (197, i, (zRF b), l)) = zev sc (130, 157, [some (.ref 173), some (.int v1)], [.int (i 179 (((8 : Int32) + v1)).toNatClampNeg), .int s0, .ref 187], (197, i, (zRF b), l)) := by
  refine (ze_aload_n 145 zm130 dX10_downs_144 rfl rfl).trans ?_
  refine (ze_getR 148 zm130 dX10_downs_145 f10_26 k173_10 t10_6 (rr173_6 b) rfl).trans ?_
  refine (ze_bipush 150 zm130 dX10_downs_148 cb_8 rfl).trans ?_
  refine (ze_iload_n 151 zm130 dX10_downs_150 rfl rfl).trans ?_
  refine (ze_iadd 152 zm130 dX10_downs_151 rfl).trans ?_
  refine (ze_iaload (t := (((8 : Int32) + v1)).toNatClampNeg) 153 zm130 dX10_downs_152 k179_100 n179 h1 rfl rfl).trans ?_
  exact ze_goto 157 zm130 dX10_downs_153 (by decide)
theorem b130_156 (sc : zScr) (v1 : Int32) (s0 : Int32) (i : Nat → Nat → Int32) (b : Bool) (l : Nat → Nat → Int64) : zev sc (130, 156, [some (.ref 173), some (.int v1)], [.int s0, .ref 187], (197, i, (zRF b), l)) = zev sc (130, 157, [some (.ref 173), some (.int v1)], [.int (0 : Int32), .int s0, .ref 187], (197, i, (zRF b), l)) := by
  refine (ze_iconst 157 zm130 dX10_downs_156 ci_0 rfl).trans ?_
  rfl
theorem b130_157 (sc : zScr) (v1 : Int32) (s0 : Int32) (s1 : Int32) (i : Nat → Nat → Int32) (b : Bool) (l : Nat → Nat → Int64) (h1 : vp_in s1 30) : zev sc (130, 157, [some (.ref 173), some (.int v1)], [.int s0, .int s1, .ref 187], (197, i, (zRF b), l)) = zev sc (130, 90, [some (.ref 173), some (.int (v1 + 1))], [], (197, (zU i 187 s1.toNatClampNeg s0), (zRF b), l)) := by
  refine (ze_iastore (t := s1.toNatClampNeg) 158 zm130 dX10_downs_157 k187_100 n187 h1 rfl rfl).trans ?_
  refine (ze_iinc (v := (1 : Int32)) (A := 99) (ls' := [some (.ref 173), some (.int (v1 + 1))]) 161 zm130 dX10_downs_158 rfl ci_1 za130 rfl rfl rfl rfl rfl).trans ?_
  exact ze_goto 90 zm130 dX10_downs_161 (by decide)
theorem b130_164 (sc : zScr) (v1 : Int32) (i : Nat → Nat → Int32) (b : Bool) (l : Nat → Nat → Int64) : zev sc (130, 164, [some (.ref 173), some (.int v1)], [], (197, i, (zRF b), l)) = zev sc (130, 166, [some (.ref 173), some (.int (0 : Int32))], [], (197, i, (zRF b), l)) := by
  refine (ze_iconst 165 zm130 dX10_downs_164 ci_0 rfl).trans ?_
  refine (ze_istore_n (A := 99) (ls' := [some (.ref 173), some (.int (0 : Int32))]) 166 zm130 dX10_downs_165 za130 rfl rfl rfl rfl rfl).trans ?_
  rfl
theorem b130_166 (sc : zScr) (v1 : Int32) (i : Nat → Nat → Int32) (b : Bool) (l : Nat → Nat → Int64) : zev sc (130, 166, [some (.ref 173), some (.int v1)], [], (197, i, (zRF b), l)) = if (4 : Int32) ≤ v1 then zev sc (130, 205, [some (.ref 173), some (.int v1)], [], (197, i, (zRF b), l)) else zev sc (130, 171, [some (.ref 173), some (.int v1)], [], (197, i, (zRF b), l)) := by
  refine (ze_iload_n 167 zm130 dX10_downs_166 rfl rfl).trans ?_
  refine (ze_iconst 168 zm130 dX10_downs_167 ci_4 rfl).trans ?_
  exact ze_icmp_ge 205 171 zm130 dX10_downs_168 (by decide) rfl
theorem b130_171 (sc : zScr) (v1 : Int32) (i : Nat → Nat → Int32) (b : Bool) (l : Nat → Nat → Int64) (h1 : vp_in ((4 : Int32) + v1) 8) (h2 : vp_in v1 8) : zev sc (130, 171, [some (.ref 173), some (.int v1)], [], (197, i, (zRF b), l)) = zev sc (130, 166, [some (.ref 173), some (.int (v1 + 1))], [], (197, (zU (zU i 181 v1.toNatClampNeg (i 181 (((4 : Int32) + v1)).toNatClampNeg)) 182 v1.toNatClampNeg ((zU i 181 v1.toNatClampNeg (i 181 (((4 : Int32) + v1)).toNatClampNeg)) 182 (((4 : Int32) + v1)).toNatClampNeg)), (zRF b), l)) := by
  refine (ze_aload_n 172 zm130 dX10_downs_171 rfl rfl).trans ?_
  refine (ze_getR 175 zm130 dX10_downs_172 f10_32 k173_10 t10_8 (rr173_8 b) rfl).trans ?_
  refine (ze_iload_n 176 zm130 dX10_downs_175 rfl rfl).trans ?_
  refine (ze_aload_n 177 zm130 dX10_downs_176 rfl rfl).trans ?_
  refine (ze_getR 180 zm130 dX10_downs_177 f10_32 k173_10 t10_8 (rr173_8 b) rfl).trans ?_
  refine (ze_iconst 181 zm130 dX10_downs_180 ci_4 rfl).trans ?_
  refine (ze_iload_n 182 zm130 dX10_downs_181 rfl rfl).trans ?_
  refine (ze_iadd 183 zm130 dX10_downs_182 rfl).trans ?_
  refine (ze_iaload (t := (((4 : Int32) + v1)).toNatClampNeg) 184 zm130 dX10_downs_183 k181_100 n181 h1 rfl rfl).trans ?_
  refine (ze_iastore (t := v1.toNatClampNeg) 185 zm130 dX10_downs_184 k181_100 n181 h2 rfl rfl).trans ?_
  refine (ze_aload_n 186 zm130 dX10_downs_185 rfl rfl).trans ?_
  refine (ze_getR 189 zm130 dX10_downs_186 f10_35 k173_10 t10_9 (rr173_9 b) rfl).trans ?_
  refine (ze_iload_n 190 zm130 dX10_downs_189 rfl rfl).trans ?_
  refine (ze_aload_n 191 zm130 dX10_downs_190 rfl rfl).trans ?_
  refine (ze_getR 194 zm130 dX10_downs_191 f10_35 k173_10 t10_9 (rr173_9 b) rfl).trans ?_
  refine (ze_iconst 195 zm130 dX10_downs_194 ci_4 rfl).trans ?_
  refine (ze_iload_n 196 zm130 dX10_downs_195 rfl rfl).trans ?_
  refine (ze_iadd 197 zm130 dX10_downs_196 rfl).trans ?_
  refine (ze_iaload (t := (((4 : Int32) + v1)).toNatClampNeg) 198 zm130 dX10_downs_197 k182_100 n182 h1 rfl rfl).trans ?_
  refine (ze_iastore (t := v1.toNatClampNeg) 199 zm130 dX10_downs_198 k182_100 n182 h2 rfl rfl).trans ?_
  refine (ze_iinc (v := (1 : Int32)) (A := 99) (ls' := [some (.ref 173), some (.int (v1 + 1))]) 202 zm130 dX10_downs_199 rfl ci_1 za130 rfl rfl rfl rfl rfl).trans ?_
  exact ze_goto 166 zm130 dX10_downs_202 (by decide)
theorem b130_205 (sc : zScr) (v1 : Int32) (i : Nat → Nat → Int32) (b : Bool) (l : Nat → Nat → Int64) : zev sc (130, 205, [some (.ref 173), some (.int v1)], [], (197, i, (zRF b), l)) = zev sc (130, 207, [some (.ref 173), some (.int (0 : Int32))], [], (197, i, (zRF b), l)) := by
  refine (ze_iconst 206 zm130 dX10_downs_205 ci_0 rfl).trans ?_
  refine (ze_istore_n (A := 99) (ls' := [some (.ref 173), some (.int (0 : Int32))]) 207 zm130 dX10_downs_206 za130 rfl rfl rfl rfl rfl).trans ?_
  rfl
theorem b130_207 (sc : zScr) (v1 : Int32) (i : Nat → Nat → Int32) (b : Bool) (l : Nat → Nat → Int64) : zev sc (130, 207, [some (.ref 173), some (.int v1)], [], (197, i, (zRF b), l)) = if (6 : Int32) ≤ v1 then zev sc (130, 265, [some (.ref 173), some (.int v1)], [], (197, i, (zRF b), l)) else zev sc (130, 213, [some (.ref 173), some (.int v1)], [], (197, i, (zRF b), l)) := by
  refine (ze_iload_n 208 zm130 dX10_downs_207 rfl rfl).trans ?_
  refine (ze_bipush 210 zm130 dX10_downs_208 cb_6 rfl).trans ?_
  exact ze_icmp_ge 265 213 zm130 dX10_downs_210 (by decide) rfl
theorem b130_213 (sc : zScr) (v1 : Int32) (i : Nat → Nat → Int32) (b : Bool) (l : Nat → Nat → Int64) (h1 : vp_in ((6 : Int32) + v1) 12) (h2 : vp_in v1 12) : zev sc (130, 213, [some (.ref 173), some (.int v1)], [], (197, i, (zRF b), l)) = if ((zU i 184 v1.toNatClampNeg (i 184 (((6 : Int32) + v1)).toNatClampNeg)) 183 0) ≤ v1 then zev sc (130, 257, [some (.ref 173), some (.int v1)], [.int ((0 : Int32) + v1), .ref 187], (197, (zU i 184 v1.toNatClampNeg (i 184 (((6 : Int32) + v1)).toNatClampNeg)), (zRF b), l)) else zev sc (130, 245, [some (.ref 173), some (.int v1)], [.int ((0 : Int32) + v1), .ref 187], (197, (zU i 184 v1.toNatClampNeg (i 184 (((6 : Int32) + v1)).toNatClampNeg)), (zRF b), l)) := by
  refine (ze_aload_n 214 zm130 dX10_downs_213 rfl rfl).trans ?_
  refine (ze_getR 217 zm130 dX10_downs_214 f10_41 k173_10 t10_11 (rr173_11 b) rfl).trans ?_
  refine (ze_iload_n 218 zm130 dX10_downs_217 rfl rfl).trans ?_
  refine (ze_aload_n 219 zm130 dX10_downs_218 rfl rfl).trans ?_
  refine (ze_getR 222 zm130 dX10_downs_219 f10_41 k173_10 t10_11 (rr173_11 b) rfl).trans ?_
  refine (ze_bipush 224 zm130 dX10_downs_222 cb_6 rfl).trans ?_
  refine (ze_iload_n 225 zm130 dX10_downs_224 rfl rfl).trans ?_
  refine (ze_iadd 226 zm130 dX10_downs_225 rfl).trans ?_
  refine (ze_iaload (t := (((6 : Int32) + v1)).toNatClampNeg) 227 zm130 dX10_downs_226 k184_100 n184 h1 rfl rfl).trans ?_
  refine (ze_iastore (t := v1.toNatClampNeg) 228 zm130 dX10_downs_227 k184_100 n184 h2 rfl rfl).trans ?_
  refine (ze_aload_n 229 zm130 dX10_downs_228 rfl rfl).trans ?_
  refine (ze_getR 232 zm130 dX10_downs_229 f10_50 k173_10 t10_20 (rr173_20 b) rfl).trans ?_
  refine (ze_iconst 233 zm130 dX10_downs_232 ci_0 rfl).trans ?_
  refine (ze_iload_n 234 zm130 dX10_downs_233 rfl rfl).trans ?_
  refine (ze_iadd 235 zm130 dX10_downs_234 rfl).trans ?_
  refine (ze_iload_n 236 zm130 dX10_downs_235 rfl rfl).trans ?_
  refine (ze_aload_n 237 zm130 dX10_downs_236 rfl rfl).trans ?_
  refine (ze_getR 240 zm130 dX10_downs_237 f10_38 k173_10 t10_10 (rr173_10 b) rfl).trans ?_
  refine (ze_iconst 241 zm130 dX10_downs_240 ci_0 rfl).trans ?_
  refine (ze_iaload (t := 0) 242 zm130 dX10_downs_241 k183_100 n183 vi_0_2 tn_0 rfl).trans ?_
  exact ze_icmp_ge 257 245 zm130 dX10_downs_242 (by decide) rfl
theorem b130_245 (sc : zScr) (v1 : Int32) (s0 : Int32) (i : Nat → Nat → Int32) (b : Bool) (l : Nat → Nat → Int64) (h1 : vp_in ((6 : Int32) + v1) 12) : zev sc (130, 245, [some (.ref 173), some (.int v1)], [.int s0, .ref 187], (197, i, (zRF b), l)) = zev sc (130, 258, [some (.ref 173), some (.int v1)], [.int (i 185 (((6 : Int32) + v1)).toNatClampNeg), .int s0, .ref 187], (197, i, (zRF b), l)) := by
  refine (ze_aload_n 246 zm130 dX10_downs_245 rfl rfl).trans ?_
  refine (ze_getR 249 zm130 dX10_downs_246 f10_44 k173_10 t10_12 (rr173_12 b) rfl).trans ?_
  refine (ze_bipush 251 zm130 dX10_downs_249 cb_6 rfl).trans ?_
  refine (ze_iload_n 252 zm130 dX10_downs_251 rfl rfl).trans ?_
  refine (ze_iadd 253 zm130 dX10_downs_252 rfl).trans ?_
  refine (ze_iaload (t := (((6 : Int32) + v1)).toNatClampNeg) 254 zm130 dX10_downs_253 k185_100 n185 h1 rfl rfl).trans ?_
  exact ze_goto 258 zm130 dX10_downs_254 (by decide)
theorem b130_257 (sc : zScr) (v1 : Int32) (s0 : Int32) (i : Nat → Nat → Int32) (b : Bool) (l : Nat → Nat → Int64) : zev sc (130, 257, [some (.ref 173), some (.int v1)], [.int s0, .ref 187], (197, i, (zRF b), l)) = zev sc (130, 258, [some (.ref 173), some (.int v1)], [.int (0 : Int32), .int s0, .ref 187], (197, i, (zRF b), l)) := by
  refine (ze_iconst 258 zm130 dX10_downs_257 ci_0 rfl).trans ?_
  rfl
theorem b130_258 (sc : zScr) (v1 : Int32) (s0 : Int32) (s1 : Int32) (i : Nat → Nat → Int32) (b : Bool) (l : Nat → Nat → Int64) (h1 : vp_in s1 30) : zev sc (130, 258, [some (.ref 173), some (.int v1)], [.int s0, .int s1, .ref 187], (197, i, (zRF b), l)) = zev sc (130, 207, [some (.ref 173), some (.int (v1 + 1))], [], (197, (zU i 187 s1.toNatClampNeg s0), (zRF b), l)) := by
  refine (ze_iastore (t := s1.toNatClampNeg) 259 zm130 dX10_downs_258 k187_100 n187 h1 rfl rfl).trans ?_
  refine (ze_iinc (v := (1 : Int32)) (A := 99) (ls' := [some (.ref 173), some (.int (v1 + 1))]) 262 zm130 dX10_downs_259 rfl ci_1 za130 rfl rfl rfl rfl rfl).trans ?_
  exact ze_goto 207 zm130 dX10_downs_262 (by decide)
theorem b130_265 (sc : zScr) (v1 : Int32) (i : Nat → Nat → Int32) (b : Bool) (l : Nat → Nat → Int64) : zev sc (130, 265, [some (.ref 173), some (.int v1)], [], (197, i, (zRF b), l)) = some (.int ((zU (zU (zU (zU (zU (zU i 187 16 (i 186 1)) 188 0 (0 : Int32)) 191 0 (vp_nar .boolean (0 : Int32))) 191 1 (vp_nar .boolean (0 : Int32))) 173 26 (0 : Int32)) 173 1 (0 : Int32)) 173 19), (197, (zU (zU (zU (zU (zU (zU i 187 16 (i 186 1)) 188 0 (0 : Int32)) 191 0 (vp_nar .boolean (0 : Int32))) 191 1 (vp_nar .boolean (0 : Int32))) 173 26 (0 : Int32)) 173 1 (0 : Int32)), (zRF b), l)) := by
  refine (ze_aload_n 266 zm130 dX10_downs_265 rfl rfl).trans ?_
  refine (ze_getR 269 zm130 dX10_downs_266 f10_50 k173_10 t10_20 (rr173_20 b) rfl).trans ?_
  refine (ze_bipush 271 zm130 dX10_downs_269 cb_16 rfl).trans ?_
  refine (ze_aload_n 272 zm130 dX10_downs_271 rfl rfl).trans ?_
  refine (ze_getR 275 zm130 dX10_downs_272 f10_47 k173_10 t10_13 (rr173_13 b) rfl).trans ?_
  refine (ze_iconst 276 zm130 dX10_downs_275 ci_1 rfl).trans ?_
  refine (ze_iaload (t := 1) 277 zm130 dX10_downs_276 k186_100 n186 vi_1_2 tn_1 rfl).trans ?_
  refine (ze_iastore (t := 16) 278 zm130 dX10_downs_277 k187_100 n187 vi_16_30 tn_16 rfl).trans ?_
  refine (ze_aload_n 279 zm130 dX10_downs_278 rfl rfl).trans ?_
  refine (ze_getR 282 zm130 dX10_downs_279 f10_53 k173_10 t10_21 (rr173_21 b) rfl).trans ?_
  refine (ze_iconst 283 zm130 dX10_downs_282 ci_0 rfl).trans ?_
  refine (ze_iconst 284 zm130 dX10_downs_283 ci_0 rfl).trans ?_
  refine (ze_iastore (t := 0) 285 zm130 dX10_downs_284 k188_100 n188 vi_0_3 tn_0 rfl).trans ?_
  refine (ze_aload_n 286 zm130 dX10_downs_285 rfl rfl).trans ?_
  refine (ze_getR 289 zm130 dX10_downs_286 f10_62 k173_10 t10_24 (rr173_24 b) rfl).trans ?_
  refine (ze_iconst 290 zm130 dX10_downs_289 ci_0 rfl).trans ?_
  refine (ze_iconst 291 zm130 dX10_downs_290 ci_0 rfl).trans ?_
  refine (ze_bastoreZ (t := 0) 292 zm130 dX10_downs_291 kn191 k191_102 n191 vi_0_2 tn_0 rfl).trans ?_
  refine (ze_aload_n 293 zm130 dX10_downs_292 rfl rfl).trans ?_
  refine (ze_getR 296 zm130 dX10_downs_293 f10_62 k173_10 t10_24 (rr173_24 b) rfl).trans ?_
  refine (ze_iconst 297 zm130 dX10_downs_296 ci_1 rfl).trans ?_
  refine (ze_iconst 298 zm130 dX10_downs_297 ci_0 rfl).trans ?_
  refine (ze_bastoreZ (t := 1) 299 zm130 dX10_downs_298 kn191 k191_102 n191 vi_1_2 tn_1 rfl).trans ?_
  refine (ze_aload_n 300 zm130 dX10_downs_299 rfl rfl).trans ?_
  refine (ze_iconst 301 zm130 dX10_downs_300 ci_0 rfl).trans ?_
  refine (ze_putI 304 zm130 dX10_downs_301 f10_134 k173_10 (Or.inl fn10_26) t10_26 rfl).trans ?_
  refine (ze_aload_n 305 zm130 dX10_downs_304 rfl rfl).trans ?_
  refine (ze_iconst 306 zm130 dX10_downs_305 ci_0 rfl).trans ?_
  refine (ze_putI 309 zm130 dX10_downs_306 f10_85 k173_10 (Or.inl fn10_1) t10_1 rfl).trans ?_
  refine (ze_aload_n 310 zm130 dX10_downs_309 rfl rfl).trans ?_
  refine (ze_getI 313 zm130 dX10_downs_310 f10_120 k173_10 (Or.inl t10_19) rfl).trans ?_
  exact ze_ireturn zm130 dX10_downs_313 rfl
/-! HarpFencesModel.isField (I)Z: method 131 -/
theorem b131_0 (sc : zScr) (v1 : Int32) (i : Nat → Nat → Int32) (b : Bool) (l : Nat → Nat → Int64) : zev sc (131, 0, [some (.ref 173), some (.int v1)], [], (197, i, (zRF b), l)) = (zev sc (119, 0, [some (.int v1), some (.int (0 : Int32)), some (.int ((i 175 0) - (1 : Int32)))], [], (197, i, (zRF b), l))).bind (fun x => zev sc (131, 13, [some (.ref 173), some (.int v1)], [x.1], x.2)) := by
  refine (ze_iload_n 1 zm131 dX10_isField_0 rfl rfl).trans ?_
  refine (ze_iconst 2 zm131 dX10_isField_1 ci_0 rfl).trans ?_
  refine (ze_aload_n 3 zm131 dX10_isField_2 rfl rfl).trans ?_
  refine (ze_getR 6 zm131 dX10_isField_3 f10_13 k173_10 t10_2 (rr173_2 b) rfl).trans ?_
  refine (ze_iconst 7 zm131 dX10_isField_6 ci_0 rfl).trans ?_
  refine (ze_iaload (t := 0) 8 zm131 dX10_isField_7 k175_100 n175 vi_0_2 tn_0 rfl).trans ?_
  refine (ze_iconst 9 zm131 dX10_isField_8 ci_1 rfl).trans ?_
  refine (ze_isub 10 zm131 dX10_isField_9 rfl).trans ?_
  exact ze_statI (as := [.int v1, .int (0 : Int32), .int ((i 175 0) - (1 : Int32))]) (rest := []) 13 zm131 dX10_isField_10 r10_81 zm119 rfl rfl rfl rfl rfl rfl
theorem b131_13 (sc : zScr) (v1 : Int32) (s0 : Int32) (i : Nat → Nat → Int32) (b : Bool) (l : Nat → Nat → Int64) (h1 : s0 = 0 ∨ s0 = 1) : zev sc (131, 13, [some (.ref 173), some (.int v1)], [.int s0], (197, i, (zRF b), l)) = some (.int s0, (197, i, (zRF b), l)) := by
  exact ze_zreturn zm131 dX10_isField_13 rfl h1
/-! HarpFencesModel.isFence (I)Z: method 132 -/
theorem b132_0 (sc : zScr) (v1 : Int32) (i : Nat → Nat → Int32) (b : Bool) (l : Nat → Nat → Int64) : zev sc (132, 0, [some (.ref 173), some (.int v1)], [], (197, i, (zRF b), l)) = (zev sc (119, 0, [some (.int v1), some (.int (0 : Int32)), some (.int ((i 176 0) - (1 : Int32)))], [], (197, i, (zRF b), l))).bind (fun x => zev sc (132, 13, [some (.ref 173), some (.int v1)], [x.1], x.2)) := by
  refine (ze_iload_n 1 zm132 dX10_isFence_0 rfl rfl).trans ?_
  refine (ze_iconst 2 zm132 dX10_isFence_1 ci_0 rfl).trans ?_
  refine (ze_aload_n 3 zm132 dX10_isFence_2 rfl rfl).trans ?_
  refine (ze_getR 6 zm132 dX10_isFence_3 f10_17 k173_10 t10_3 (rr173_3 b) rfl).trans ?_
  refine (ze_iconst 7 zm132 dX10_isFence_6 ci_0 rfl).trans ?_
  refine (ze_iaload (t := 0) 8 zm132 dX10_isFence_7 k176_100 n176 vi_0_2 tn_0 rfl).trans ?_
  refine (ze_iconst 9 zm132 dX10_isFence_8 ci_1 rfl).trans ?_
  refine (ze_isub 10 zm132 dX10_isFence_9 rfl).trans ?_
  exact ze_statI (as := [.int v1, .int (0 : Int32), .int ((i 176 0) - (1 : Int32))]) (rest := []) 13 zm132 dX10_isFence_10 r10_81 zm119 rfl rfl rfl rfl rfl rfl
theorem b132_13 (sc : zScr) (v1 : Int32) (s0 : Int32) (i : Nat → Nat → Int32) (b : Bool) (l : Nat → Nat → Int64) (h1 : s0 = 0 ∨ s0 = 1) : zev sc (132, 13, [some (.ref 173), some (.int v1)], [.int s0], (197, i, (zRF b), l)) = some (.int s0, (197, i, (zRF b), l)) := by
  exact ze_zreturn zm132 dX10_isFence_13 rfl h1
/-! HarpFencesModel.isKind (I)Z: method 133 -/
theorem b133_0 (sc : zScr) (v1 : Int32) (i : Nat → Nat → Int32) (b : Bool) (l : Nat → Nat → Int64) : zev sc (133, 0, [some (.ref 173), some (.int v1)], [], (197, i, (zRF b), l)) = (zev sc (119, 0, [some (.int v1), some (.int (0 : Int32)), some (.int ((i 180 0) - (1 : Int32)))], [], (197, i, (zRF b), l))).bind (fun x => zev sc (133, 13, [some (.ref 173), some (.int v1)], [x.1], x.2)) := by
  refine (ze_iload_n 1 zm133 dX10_isKind_0 rfl rfl).trans ?_
  refine (ze_iconst 2 zm133 dX10_isKind_1 ci_0 rfl).trans ?_
  refine (ze_aload_n 3 zm133 dX10_isKind_2 rfl rfl).trans ?_
  refine (ze_getR 6 zm133 dX10_isKind_3 f10_29 k173_10 t10_7 (rr173_7 b) rfl).trans ?_
  refine (ze_iconst 7 zm133 dX10_isKind_6 ci_0 rfl).trans ?_
  refine (ze_iaload (t := 0) 8 zm133 dX10_isKind_7 k180_100 n180 vi_0_2 tn_0 rfl).trans ?_
  refine (ze_iconst 9 zm133 dX10_isKind_8 ci_1 rfl).trans ?_
  refine (ze_isub 10 zm133 dX10_isKind_9 rfl).trans ?_
  exact ze_statI (as := [.int v1, .int (0 : Int32), .int ((i 180 0) - (1 : Int32))]) (rest := []) 13 zm133 dX10_isKind_10 r10_81 zm119 rfl rfl rfl rfl rfl rfl
theorem b133_13 (sc : zScr) (v1 : Int32) (s0 : Int32) (i : Nat → Nat → Int32) (b : Bool) (l : Nat → Nat → Int64) (h1 : s0 = 0 ∨ s0 = 1) : zev sc (133, 13, [some (.ref 173), some (.int v1)], [.int s0], (197, i, (zRF b), l)) = some (.int s0, (197, i, (zRF b), l)) := by
  exact ze_zreturn zm133 dX10_isKind_13 rfl h1
/-! HarpFencesModel.isBeast (I)Z: method 134 -/
theorem b134_0 (sc : zScr) (v1 : Int32) (i : Nat → Nat → Int32) (b : Bool) (l : Nat → Nat → Int64) : zev sc (134, 0, [some (.ref 173), some (.int v1)], [], (197, i, (zRF b), l)) = (zev sc (119, 0, [some (.int v1), some (.int (0 : Int32)), some (.int ((i 183 0) - (1 : Int32)))], [], (197, i, (zRF b), l))).bind (fun x => zev sc (134, 13, [some (.ref 173), some (.int v1)], [x.1], x.2)) := by
  refine (ze_iload_n 1 zm134 dX10_isBeast_0 rfl rfl).trans ?_
  refine (ze_iconst 2 zm134 dX10_isBeast_1 ci_0 rfl).trans ?_
  refine (ze_aload_n 3 zm134 dX10_isBeast_2 rfl rfl).trans ?_
  refine (ze_getR 6 zm134 dX10_isBeast_3 f10_38 k173_10 t10_10 (rr173_10 b) rfl).trans ?_
  refine (ze_iconst 7 zm134 dX10_isBeast_6 ci_0 rfl).trans ?_
  refine (ze_iaload (t := 0) 8 zm134 dX10_isBeast_7 k183_100 n183 vi_0_2 tn_0 rfl).trans ?_
  refine (ze_iconst 9 zm134 dX10_isBeast_8 ci_1 rfl).trans ?_
  refine (ze_isub 10 zm134 dX10_isBeast_9 rfl).trans ?_
  exact ze_statI (as := [.int v1, .int (0 : Int32), .int ((i 183 0) - (1 : Int32))]) (rest := []) 13 zm134 dX10_isBeast_10 r10_81 zm119 rfl rfl rfl rfl rfl rfl
theorem b134_13 (sc : zScr) (v1 : Int32) (s0 : Int32) (i : Nat → Nat → Int32) (b : Bool) (l : Nat → Nat → Int64) (h1 : s0 = 0 ∨ s0 = 1) : zev sc (134, 13, [some (.ref 173), some (.int v1)], [.int s0], (197, i, (zRF b), l)) = some (.int s0, (197, i, (zRF b), l)) := by
  exact ze_zreturn zm134 dX10_isBeast_13 rfl h1
/-! HarpFencesModel.soundOf (II)I: method 135 -/
theorem b135_0 (sc : zScr) (v1 : Int32) (v2 : Int32) (i : Nat → Nat → Int32) (b : Bool) (l : Nat → Nat → Int64) (h1 : vp_in ((6 : Int32) + v2) 30) : zev sc (135, 0, [some (.ref 173), some (.int v1), some (.int v2), none], [], (197, i, (zRF b), l)) = if (i 187 (((6 : Int32) + v2)).toNatClampNeg) = 0 then zev sc (135, 40, [some (.ref 173), some (.int v1), some (.int v2), none], [], (197, i, (zRF b), l)) else zev sc (135, 12, [some (.ref 173), some (.int v1), some (.int v2), none], [], (197, i, (zRF b), l)) := by
  refine (ze_aload_n 1 zm135 dX10_soundOf_0 rfl rfl).trans ?_
  refine (ze_getR 4 zm135 dX10_soundOf_1 f10_50 k173_10 t10_20 (rr173_20 b) rfl).trans ?_
  refine (ze_bipush 6 zm135 dX10_soundOf_4 cb_6 rfl).trans ?_
  refine (ze_iload_n 7 zm135 dX10_soundOf_6 rfl rfl).trans ?_
  refine (ze_iadd 8 zm135 dX10_soundOf_7 rfl).trans ?_
  refine (ze_iaload (t := (((6 : Int32) + v2)).toNatClampNeg) 9 zm135 dX10_soundOf_8 k187_100 n187 h1 rfl rfl).trans ?_
  exact ze_if_eq 40 12 zm135 dX10_soundOf_9 (by decide) rfl
theorem b135_12 (sc : zScr) (v1 : Int32) (v2 : Int32) (i : Nat → Nat → Int32) (b : Bool) (l : Nat → Nat → Int64) : zev sc (135, 12, [some (.ref 173), some (.int v1), some (.int v2), none], [], (197, i, (zRF b), l)) = (zev sc (120, 0, [some (.int (i 187 14)), some (.int v2)], [], (197, i, (zRF b), l))).bind (fun x => zev sc (135, 23, [some (.ref 173), some (.int v1), some (.int v2), none], [x.1], x.2)) := by
  refine (ze_aload_n 13 zm135 dX10_soundOf_12 rfl rfl).trans ?_
  refine (ze_getR 16 zm135 dX10_soundOf_13 f10_50 k173_10 t10_20 (rr173_20 b) rfl).trans ?_
  refine (ze_bipush 18 zm135 dX10_soundOf_16 cb_14 rfl).trans ?_
  refine (ze_iaload (t := 14) 19 zm135 dX10_soundOf_18 k187_100 n187 vi_14_30 tn_14 rfl).trans ?_
  refine (ze_iload_n 20 zm135 dX10_soundOf_19 rfl rfl).trans ?_
  exact ze_statI (as := [.int (i 187 14), .int v2]) (rest := []) 23 zm135 dX10_soundOf_20 r10_137 zm120 rfl rfl rfl rfl rfl rfl
theorem b135_23 (sc : zScr) (v1 : Int32) (v2 : Int32) (s0 : Int32) (i : Nat → Nat → Int32) (b : Bool) (l : Nat → Nat → Int64) : zev sc (135, 23, [some (.ref 173), some (.int v1), some (.int v2), none], [.int s0], (197, i, (zRF b), l)) = if s0 = 0 then zev sc (135, 26, [some (.ref 173), some (.int v1), some (.int v2), none], [], (197, i, (zRF b), l)) else zev sc (135, 40, [some (.ref 173), some (.int v1), some (.int v2), none], [], (197, i, (zRF b), l)) := by
  exact ze_if_ne 40 26 zm135 dX10_soundOf_23 (by decide) rfl
theorem b135_26 (sc : zScr) (v1 : Int32) (v2 : Int32) (i : Nat → Nat → Int32) (b : Bool) (l : Nat → Nat → Int64) : zev sc (135, 26, [some (.ref 173), some (.int v1), some (.int v2), none], [], (197, i, (zRF b), l)) = (zev sc (120, 0, [some (.int (i 187 15)), some (.int v2)], [], (197, i, (zRF b), l))).bind (fun x => zev sc (135, 37, [some (.ref 173), some (.int v1), some (.int v2), none], [x.1], x.2)) := by
  refine (ze_aload_n 27 zm135 dX10_soundOf_26 rfl rfl).trans ?_
  refine (ze_getR 30 zm135 dX10_soundOf_27 f10_50 k173_10 t10_20 (rr173_20 b) rfl).trans ?_
  refine (ze_bipush 32 zm135 dX10_soundOf_30 cb_15 rfl).trans ?_
  refine (ze_iaload (t := 15) 33 zm135 dX10_soundOf_32 k187_100 n187 vi_15_30 tn_15 rfl).trans ?_
  refine (ze_iload_n 34 zm135 dX10_soundOf_33 rfl rfl).trans ?_
  exact ze_statI (as := [.int (i 187 15), .int v2]) (rest := []) 37 zm135 dX10_soundOf_34 r10_137 zm120 rfl rfl rfl rfl rfl rfl
theorem b135_37 (sc : zScr) (v1 : Int32) (v2 : Int32) (s0 : Int32) (i : Nat → Nat → Int32) (b : Bool) (l : Nat → Nat → Int64) : zev sc (135, 37, [some (.ref 173), some (.int v1), some (.int v2), none], [.int s0], (197, i, (zRF b), l)) = if s0 = 0 then zev sc (135, 42, [some (.ref 173), some (.int v1), some (.int v2), none], [], (197, i, (zRF b), l)) else zev sc (135, 40, [some (.ref 173), some (.int v1), some (.int v2), none], [], (197, i, (zRF b), l)) := by
  exact ze_if_eq 42 40 zm135 dX10_soundOf_37 (by decide) rfl
theorem b135_40 (sc : zScr) (v1 : Int32) (v2 : Int32) (i : Nat → Nat → Int32) (b : Bool) (l : Nat → Nat → Int64) : zev sc (135, 40, [some (.ref 173), some (.int v1), some (.int v2), none], [], (197, i, (zRF b), l)) = some (.int (0 : Int32), (197, i, (zRF b), l)) := by
  refine (ze_iconst 41 zm135 dX10_soundOf_40 ci_0 rfl).trans ?_
  exact ze_ireturn zm135 dX10_soundOf_41 rfl
theorem b135_42 (sc : zScr) (v1 : Int32) (v2 : Int32) (i : Nat → Nat → Int32) (b : Bool) (l : Nat → Nat → Int64) (h1 : vp_in ((6 : Int32) + v2) 30) (h2 : vp_in v1 8) : zev sc (135, 42, [some (.ref 173), some (.int v1), some (.int v2), none], [], (197, i, (zRF b), l)) = if 0 ≤ (((i 187 (((6 : Int32) + v2)).toNatClampNeg) + (i 181 v1.toNatClampNeg)) - (i 187 16)) then zev sc (135, 75, [some (.ref 173), some (.int v1), some (.int v2), some (.int (((i 187 (((6 : Int32) + v2)).toNatClampNeg) + (i 181 v1.toNatClampNeg)) - (i 187 16)))], [], (197, i, (zRF b), l)) else zev sc (135, 71, [some (.ref 173), some (.int v1), some (.int v2), some (.int (((i 187 (((6 : Int32) + v2)).toNatClampNeg) + (i 181 v1.toNatClampNeg)) - (i 187 16)))], [], (197, i, (zRF b), l)) := by
  refine (ze_aload_n 43 zm135 dX10_soundOf_42 rfl rfl).trans ?_
  refine (ze_getR 46 zm135 dX10_soundOf_43 f10_50 k173_10 t10_20 (rr173_20 b) rfl).trans ?_
  refine (ze_bipush 48 zm135 dX10_soundOf_46 cb_6 rfl).trans ?_
  refine (ze_iload_n 49 zm135 dX10_soundOf_48 rfl rfl).trans ?_
  refine (ze_iadd 50 zm135 dX10_soundOf_49 rfl).trans ?_
  refine (ze_iaload (t := (((6 : Int32) + v2)).toNatClampNeg) 51 zm135 dX10_soundOf_50 k187_100 n187 h1 rfl rfl).trans ?_
  refine (ze_aload_n 52 zm135 dX10_soundOf_51 rfl rfl).trans ?_
  refine (ze_getR 55 zm135 dX10_soundOf_52 f10_32 k173_10 t10_8 (rr173_8 b) rfl).trans ?_
  refine (ze_iload_n 56 zm135 dX10_soundOf_55 rfl rfl).trans ?_
  refine (ze_iaload (t := v1.toNatClampNeg) 57 zm135 dX10_soundOf_56 k181_100 n181 h2 rfl rfl).trans ?_
  refine (ze_iadd 58 zm135 dX10_soundOf_57 rfl).trans ?_
  refine (ze_aload_n 59 zm135 dX10_soundOf_58 rfl rfl).trans ?_
  refine (ze_getR 62 zm135 dX10_soundOf_59 f10_50 k173_10 t10_20 (rr173_20 b) rfl).trans ?_
  refine (ze_bipush 64 zm135 dX10_soundOf_62 cb_16 rfl).trans ?_
  refine (ze_iaload (t := 16) 65 zm135 dX10_soundOf_64 k187_100 n187 vi_16_30 tn_16 rfl).trans ?_
  refine (ze_isub 66 zm135 dX10_soundOf_65 rfl).trans ?_
  refine (ze_istore_n (A := 99) (ls' := [some (.ref 173), some (.int v1), some (.int v2), some (.int (((i 187 (((6 : Int32) + v2)).toNatClampNeg) + (i 181 v1.toNatClampNeg)) - (i 187 16)))]) 67 zm135 dX10_soundOf_66 za135 rfl rfl rfl rfl rfl).trans ?_
  refine (ze_iload_n 68 zm135 dX10_soundOf_67 rfl rfl).trans ?_
  exact ze_if_ge 75 71 zm135 dX10_soundOf_68 (by decide) rfl
theorem b135_71 (sc : zScr) (v1 : Int32) (v2 : Int32) (v3 : Int32) (i : Nat → Nat → Int32) (b : Bool) (l : Nat → Nat → Int64) : zev sc (135, 71, [some (.ref 173), some (.int v1), some (.int v2), some (.int v3)], [], (197, i, (zRF b), l)) = zev sc (135, 76, [some (.ref 173), some (.int v1), some (.int v2), some (.int v3)], [.int (0 : Int32)], (197, i, (zRF b), l)) := by
  refine (ze_iconst 72 zm135 dX10_soundOf_71 ci_0 rfl).trans ?_
  exact ze_goto 76 zm135 dX10_soundOf_72 (by decide)
theorem b135_75 (sc : zScr) (v1 : Int32) (v2 : Int32) (v3 : Int32) (i : Nat → Nat → Int32) (b : Bool) (l : Nat → Nat → Int64) : zev sc (135, 75, [some (.ref 173), some (.int v1), some (.int v2), some (.int v3)], [], (197, i, (zRF b), l)) = zev sc (135, 76, [some (.ref 173), some (.int v1), some (.int v2), some (.int v3)], [.int v3], (197, i, (zRF b), l)) := by
  refine (ze_iload_n 76 zm135 dX10_soundOf_75 rfl rfl).trans ?_
  rfl
theorem b135_76 (sc : zScr) (v1 : Int32) (v2 : Int32) (v3 : Int32) (s0 : Int32) (i : Nat → Nat → Int32) (b : Bool) (l : Nat → Nat → Int64) : zev sc (135, 76, [some (.ref 173), some (.int v1), some (.int v2), some (.int v3)], [.int s0], (197, i, (zRF b), l)) = some (.int s0, (197, i, (zRF b), l)) := by
  exact ze_ireturn zm135 dX10_soundOf_76 rfl
/-! HarpFencesModel.isAt (II)Z: method 136 -/
theorem b136_0 (sc : zScr) (v1 : Int32) (v2 : Int32) (i : Nat → Nat → Int32) (b : Bool) (l : Nat → Nat → Int64) (h1 : vp_in v1 16) : zev sc (136, 0, [some (.ref 173), some (.int v1), some (.int v2)], [], (197, i, (zRF b), l)) = if (i 177 v1.toNatClampNeg) = v2 then zev sc (136, 20, [some (.ref 173), some (.int v1), some (.int v2)], [], (197, i, (zRF b), l)) else zev sc (136, 10, [some (.ref 173), some (.int v1), some (.int v2)], [], (197, i, (zRF b), l)) := by
  refine (ze_aload_n 1 zm136 dX10_isAt_0 rfl rfl).trans ?_
  refine (ze_getR 4 zm136 dX10_isAt_1 f10_20 k173_10 t10_4 (rr173_4 b) rfl).trans ?_
  refine (ze_iload_n 5 zm136 dX10_isAt_4 rfl rfl).trans ?_
  refine (ze_iaload (t := v1.toNatClampNeg) 6 zm136 dX10_isAt_5 k177_100 n177 h1 rfl rfl).trans ?_
  refine (ze_iload_n 7 zm136 dX10_isAt_6 rfl rfl).trans ?_
  exact ze_icmp_eq 20 10 zm136 dX10_isAt_7 (by decide) rfl
theorem b136_10 (sc : zScr) (v1 : Int32) (v2 : Int32) (i : Nat → Nat → Int32) (b : Bool) (l : Nat → Nat → Int64) (h1 : vp_in v1 16) : zev sc (136, 10, [some (.ref 173), some (.int v1), some (.int v2)], [], (197, i, (zRF b), l)) = if (i 178 v1.toNatClampNeg) = v2 then zev sc (136, 20, [some (.ref 173), some (.int v1), some (.int v2)], [], (197, i, (zRF b), l)) else zev sc (136, 24, [some (.ref 173), some (.int v1), some (.int v2)], [], (197, i, (zRF b), l)) := by
  refine (ze_aload_n 11 zm136 dX10_isAt_10 rfl rfl).trans ?_
  refine (ze_getR 14 zm136 dX10_isAt_11 f10_23 k173_10 t10_5 (rr173_5 b) rfl).trans ?_
  refine (ze_iload_n 15 zm136 dX10_isAt_14 rfl rfl).trans ?_
  refine (ze_iaload (t := v1.toNatClampNeg) 16 zm136 dX10_isAt_15 k178_100 n178 h1 rfl rfl).trans ?_
  refine (ze_iload_n 17 zm136 dX10_isAt_16 rfl rfl).trans ?_
  exact ze_icmp_ne 24 20 zm136 dX10_isAt_17 (by decide) rfl
theorem b136_20 (sc : zScr) (v1 : Int32) (v2 : Int32) (i : Nat → Nat → Int32) (b : Bool) (l : Nat → Nat → Int64) : zev sc (136, 20, [some (.ref 173), some (.int v1), some (.int v2)], [], (197, i, (zRF b), l)) = zev sc (136, 25, [some (.ref 173), some (.int v1), some (.int v2)], [.int (1 : Int32)], (197, i, (zRF b), l)) := by
  refine (ze_iconst 21 zm136 dX10_isAt_20 ci_1 rfl).trans ?_
  exact ze_goto 25 zm136 dX10_isAt_21 (by decide)
theorem b136_24 (sc : zScr) (v1 : Int32) (v2 : Int32) (i : Nat → Nat → Int32) (b : Bool) (l : Nat → Nat → Int64) : zev sc (136, 24, [some (.ref 173), some (.int v1), some (.int v2)], [], (197, i, (zRF b), l)) = zev sc (136, 25, [some (.ref 173), some (.int v1), some (.int v2)], [.int (0 : Int32)], (197, i, (zRF b), l)) := by
  refine (ze_iconst 25 zm136 dX10_isAt_24 ci_0 rfl).trans ?_
  rfl
theorem b136_25 (sc : zScr) (v1 : Int32) (v2 : Int32) (s0 : Int32) (i : Nat → Nat → Int32) (b : Bool) (l : Nat → Nat → Int64) (h1 : s0 = 0 ∨ s0 = 1) : zev sc (136, 25, [some (.ref 173), some (.int v1), some (.int v2)], [.int s0], (197, i, (zRF b), l)) = some (.int s0, (197, i, (zRF b), l)) := by
  exact ze_zreturn zm136 dX10_isAt_25 rfl h1
/-! HarpFencesModel.across (II)I: method 137 -/
theorem b137_0 (sc : zScr) (v1 : Int32) (v2 : Int32) (i : Nat → Nat → Int32) (b : Bool) (l : Nat → Nat → Int64) (h1 : vp_in v1 16) : zev sc (137, 0, [some (.ref 173), some (.int v1), some (.int v2)], [], (197, i, (zRF b), l)) = if (i 177 v1.toNatClampNeg) = v2 then zev sc (137, 10, [some (.ref 173), some (.int v1), some (.int v2)], [], (197, i, (zRF b), l)) else zev sc (137, 19, [some (.ref 173), some (.int v1), some (.int v2)], [], (197, i, (zRF b), l)) := by
  refine (ze_aload_n 1 zm137 dX10_across_0 rfl rfl).trans ?_
  refine (ze_getR 4 zm137 dX10_across_1 f10_20 k173_10 t10_4 (rr173_4 b) rfl).trans ?_
  refine (ze_iload_n 5 zm137 dX10_across_4 rfl rfl).trans ?_
  refine (ze_iaload (t := v1.toNatClampNeg) 6 zm137 dX10_across_5 k177_100 n177 h1 rfl rfl).trans ?_
  refine (ze_iload_n 7 zm137 dX10_across_6 rfl rfl).trans ?_
  exact ze_icmp_ne 19 10 zm137 dX10_across_7 (by decide) rfl
theorem b137_10 (sc : zScr) (v1 : Int32) (v2 : Int32) (i : Nat → Nat → Int32) (b : Bool) (l : Nat → Nat → Int64) (h1 : vp_in v1 16) : zev sc (137, 10, [some (.ref 173), some (.int v1), some (.int v2)], [], (197, i, (zRF b), l)) = zev sc (137, 25, [some (.ref 173), some (.int v1), some (.int v2)], [.int (i 178 v1.toNatClampNeg)], (197, i, (zRF b), l)) := by
  refine (ze_aload_n 11 zm137 dX10_across_10 rfl rfl).trans ?_
  refine (ze_getR 14 zm137 dX10_across_11 f10_23 k173_10 t10_5 (rr173_5 b) rfl).trans ?_
  refine (ze_iload_n 15 zm137 dX10_across_14 rfl rfl).trans ?_
  refine (ze_iaload (t := v1.toNatClampNeg) 16 zm137 dX10_across_15 k178_100 n178 h1 rfl rfl).trans ?_
  exact ze_goto 25 zm137 dX10_across_16 (by decide)
theorem b137_19 (sc : zScr) (v1 : Int32) (v2 : Int32) (i : Nat → Nat → Int32) (b : Bool) (l : Nat → Nat → Int64) (h1 : vp_in v1 16) : zev sc (137, 19, [some (.ref 173), some (.int v1), some (.int v2)], [], (197, i, (zRF b), l)) = zev sc (137, 25, [some (.ref 173), some (.int v1), some (.int v2)], [.int (i 177 v1.toNatClampNeg)], (197, i, (zRF b), l)) := by
  refine (ze_aload_n 20 zm137 dX10_across_19 rfl rfl).trans ?_
  refine (ze_getR 23 zm137 dX10_across_20 f10_20 k173_10 t10_4 (rr173_4 b) rfl).trans ?_
  refine (ze_iload_n 24 zm137 dX10_across_23 rfl rfl).trans ?_
  refine (ze_iaload (t := v1.toNatClampNeg) 25 zm137 dX10_across_24 k177_100 n177 h1 rfl rfl).trans ?_
  rfl
theorem b137_25 (sc : zScr) (v1 : Int32) (v2 : Int32) (s0 : Int32) (i : Nat → Nat → Int32) (b : Bool) (l : Nat → Nat → Int64) : zev sc (137, 25, [some (.ref 173), some (.int v1), some (.int v2)], [.int s0], (197, i, (zRF b), l)) = some (.int s0, (197, i, (zRF b), l)) := by
  exact ze_ireturn zm137 dX10_across_25 rfl
/-! HarpFencesModel.isString (I)Z: method 138 -/
theorem b138_0 (sc : zScr) (v1 : Int32) (i : Nat → Nat → Int32) (b : Bool) (l : Nat → Nat → Int64) (h1 : vp_in ((6 : Int32) + v1) 30) : zev sc (138, 0, [some (.ref 173), some (.int v1)], [], (197, i, (zRF b), l)) = if (i 187 (((6 : Int32) + v1)).toNatClampNeg) = 0 then zev sc (138, 30, [some (.ref 173), some (.int v1)], [], (197, i, (zRF b), l)) else zev sc (138, 12, [some (.ref 173), some (.int v1)], [], (197, i, (zRF b), l)) := by
  refine (ze_aload_n 1 zm138 dX10_isString_0 rfl rfl).trans ?_
  refine (ze_getR 4 zm138 dX10_isString_1 f10_50 k173_10 t10_20 (rr173_20 b) rfl).trans ?_
  refine (ze_bipush 6 zm138 dX10_isString_4 cb_6 rfl).trans ?_
  refine (ze_iload_n 7 zm138 dX10_isString_6 rfl rfl).trans ?_
  refine (ze_iadd 8 zm138 dX10_isString_7 rfl).trans ?_
  refine (ze_iaload (t := (((6 : Int32) + v1)).toNatClampNeg) 9 zm138 dX10_isString_8 k187_100 n187 h1 rfl rfl).trans ?_
  exact ze_if_eq 30 12 zm138 dX10_isString_9 (by decide) rfl
theorem b138_12 (sc : zScr) (v1 : Int32) (i : Nat → Nat → Int32) (b : Bool) (l : Nat → Nat → Int64) : zev sc (138, 12, [some (.ref 173), some (.int v1)], [], (197, i, (zRF b), l)) = (zev sc (120, 0, [some (.int (i 187 14)), some (.int v1)], [], (197, i, (zRF b), l))).bind (fun x => zev sc (138, 23, [some (.ref 173), some (.int v1)], [x.1], x.2)) := by
  refine (ze_aload_n 13 zm138 dX10_isString_12 rfl rfl).trans ?_
  refine (ze_getR 16 zm138 dX10_isString_13 f10_50 k173_10 t10_20 (rr173_20 b) rfl).trans ?_
  refine (ze_bipush 18 zm138 dX10_isString_16 cb_14 rfl).trans ?_
  refine (ze_iaload (t := 14) 19 zm138 dX10_isString_18 k187_100 n187 vi_14_30 tn_14 rfl).trans ?_
  refine (ze_iload_n 20 zm138 dX10_isString_19 rfl rfl).trans ?_
  exact ze_statI (as := [.int (i 187 14), .int v1]) (rest := []) 23 zm138 dX10_isString_20 r10_137 zm120 rfl rfl rfl rfl rfl rfl
theorem b138_23 (sc : zScr) (v1 : Int32) (s0 : Int32) (i : Nat → Nat → Int32) (b : Bool) (l : Nat → Nat → Int64) : zev sc (138, 23, [some (.ref 173), some (.int v1)], [.int s0], (197, i, (zRF b), l)) = if s0 = 0 then zev sc (138, 26, [some (.ref 173), some (.int v1)], [], (197, i, (zRF b), l)) else zev sc (138, 30, [some (.ref 173), some (.int v1)], [], (197, i, (zRF b), l)) := by
  exact ze_if_ne 30 26 zm138 dX10_isString_23 (by decide) rfl
theorem b138_26 (sc : zScr) (v1 : Int32) (i : Nat → Nat → Int32) (b : Bool) (l : Nat → Nat → Int64) : zev sc (138, 26, [some (.ref 173), some (.int v1)], [], (197, i, (zRF b), l)) = zev sc (138, 31, [some (.ref 173), some (.int v1)], [.int (1 : Int32)], (197, i, (zRF b), l)) := by
  refine (ze_iconst 27 zm138 dX10_isString_26 ci_1 rfl).trans ?_
  exact ze_goto 31 zm138 dX10_isString_27 (by decide)
theorem b138_30 (sc : zScr) (v1 : Int32) (i : Nat → Nat → Int32) (b : Bool) (l : Nat → Nat → Int64) : zev sc (138, 30, [some (.ref 173), some (.int v1)], [], (197, i, (zRF b), l)) = zev sc (138, 31, [some (.ref 173), some (.int v1)], [.int (0 : Int32)], (197, i, (zRF b), l)) := by
  refine (ze_iconst 31 zm138 dX10_isString_30 ci_0 rfl).trans ?_
  rfl
theorem b138_31 (sc : zScr) (v1 : Int32) (s0 : Int32) (i : Nat → Nat → Int32) (b : Bool) (l : Nat → Nat → Int64) (h1 : s0 = 0 ∨ s0 = 1) : zev sc (138, 31, [some (.ref 173), some (.int v1)], [.int s0], (197, i, (zRF b), l)) = some (.int s0, (197, i, (zRF b), l)) := by
  exact ze_zreturn zm138 dX10_isString_31 rfl h1
/-! HarpFencesModel.bitsOf (I)I: method 139 -/
theorem b139_0 (sc : zScr) (v0 : Int32) (i : Nat → Nat → Int32) (b : Bool) (l : Nat → Nat → Int64) : zev sc (139, 0, [some (.int v0), none, none], [], (197, i, (zRF b), l)) = zev sc (139, 4, [some (.int v0), some (.int (0 : Int32)), some (.int (0 : Int32))], [], (197, i, (zRF b), l)) := by
  refine (ze_iconst 1 zm139 dX10_bitsOf_0 ci_0 rfl).trans ?_
  refine (ze_istore_n (A := 99) (ls' := [some (.int v0), some (.int (0 : Int32)), none]) 2 zm139 dX10_bitsOf_1 za139 rfl rfl rfl rfl rfl).trans ?_
  refine (ze_iconst 3 zm139 dX10_bitsOf_2 ci_0 rfl).trans ?_
  refine (ze_istore_n (A := 99) (ls' := [some (.int v0), some (.int (0 : Int32)), some (.int (0 : Int32))]) 4 zm139 dX10_bitsOf_3 za139 rfl rfl rfl rfl rfl).trans ?_
  rfl
theorem b139_4 (sc : zScr) (v0 : Int32) (v1 : Int32) (v2 : Int32) (i : Nat → Nat → Int32) (b : Bool) (l : Nat → Nat → Int64) : zev sc (139, 4, [some (.int v0), some (.int v1), some (.int v2)], [], (197, i, (zRF b), l)) = if (8 : Int32) ≤ v2 then zev sc (139, 24, [some (.int v0), some (.int v1), some (.int v2)], [], (197, i, (zRF b), l)) else zev sc (139, 10, [some (.int v0), some (.int v1), some (.int v2)], [], (197, i, (zRF b), l)) := by
  refine (ze_iload_n 5 zm139 dX10_bitsOf_4 rfl rfl).trans ?_
  refine (ze_bipush 7 zm139 dX10_bitsOf_5 cb_8 rfl).trans ?_
  exact ze_icmp_ge 24 10 zm139 dX10_bitsOf_7 (by decide) rfl
theorem b139_10 (sc : zScr) (v0 : Int32) (v1 : Int32) (v2 : Int32) (i : Nat → Nat → Int32) (b : Bool) (l : Nat → Nat → Int64) : zev sc (139, 10, [some (.int v0), some (.int v1), some (.int v2)], [], (197, i, (zRF b), l)) = zev sc (139, 4, [some (.int v0), some (.int (v1 + ((v0 >>> (v2 &&& 31)) &&& (1 : Int32)))), some (.int (v2 + 1))], [], (197, i, (zRF b), l)) := by
  refine (ze_iload_n 11 zm139 dX10_bitsOf_10 rfl rfl).trans ?_
  refine (ze_iload_n 12 zm139 dX10_bitsOf_11 rfl rfl).trans ?_
  refine (ze_iload_n 13 zm139 dX10_bitsOf_12 rfl rfl).trans ?_
  refine (ze_ishr 14 zm139 dX10_bitsOf_13 rfl).trans ?_
  refine (ze_iconst 15 zm139 dX10_bitsOf_14 ci_1 rfl).trans ?_
  refine (ze_iand 16 zm139 dX10_bitsOf_15 rfl).trans ?_
  refine (ze_iadd 17 zm139 dX10_bitsOf_16 rfl).trans ?_
  refine (ze_istore_n (A := 99) (ls' := [some (.int v0), some (.int (v1 + ((v0 >>> (v2 &&& 31)) &&& (1 : Int32)))), some (.int v2)]) 18 zm139 dX10_bitsOf_17 za139 rfl rfl rfl rfl rfl).trans ?_
  refine (ze_iinc (v := (1 : Int32)) (A := 99) (ls' := [some (.int v0), some (.int (v1 + ((v0 >>> (v2 &&& 31)) &&& (1 : Int32)))), some (.int (v2 + 1))]) 21 zm139 dX10_bitsOf_18 rfl ci_1 za139 rfl rfl rfl rfl rfl).trans ?_
  exact ze_goto 4 zm139 dX10_bitsOf_21 (by decide)
theorem b139_24 (sc : zScr) (v0 : Int32) (v1 : Int32) (v2 : Int32) (i : Nat → Nat → Int32) (b : Bool) (l : Nat → Nat → Int64) : zev sc (139, 24, [some (.int v0), some (.int v1), some (.int v2)], [], (197, i, (zRF b), l)) = some (.int v1, (197, i, (zRF b), l)) := by
  refine (ze_iload_n 25 zm139 dX10_bitsOf_24 rfl rfl).trans ?_
  exact ze_ireturn zm139 dX10_bitsOf_25 rfl
/-! HarpFencesModel.allOf (I)I: method 140 -/
theorem b140_0 (sc : zScr) (v0 : Int32) (i : Nat → Nat → Int32) (b : Bool) (l : Nat → Nat → Int64) : zev sc (140, 0, [some (.int v0)], [], (197, i, (zRF b), l)) = some (.int (((1 : Int32) <<< (v0 &&& 31)) - (1 : Int32)), (197, i, (zRF b), l)) := by
  refine (ze_iconst 1 zm140 dX10_allOf_0 ci_1 rfl).trans ?_
  refine (ze_iload_n 2 zm140 dX10_allOf_1 rfl rfl).trans ?_
  refine (ze_ishl 3 zm140 dX10_allOf_2 rfl).trans ?_
  refine (ze_iconst 4 zm140 dX10_allOf_3 ci_1 rfl).trans ?_
  refine (ze_isub 5 zm140 dX10_allOf_4 rfl).trans ?_
  exact ze_ireturn zm140 dX10_allOf_5 rfl
/-! HarpFencesModel.fence (II)I: method 141 -/
theorem b141_0 (sc : zScr) (v1 : Int32) (v2 : Int32) (i : Nat → Nat → Int32) (b : Bool) (l : Nat → Nat → Int64) : zev sc (141, 0, [some (.ref 173), some (.int v1), some (.int v2)], [], (197, i, (zRF b), l)) = (zev sc (132, 0, [some (.ref 173), some (.int v1)], [], (197, i, (zRF b), l))).bind (fun x => zev sc (141, 5, [some (.ref 173), some (.int v1), some (.int v2)], [x.1], x.2)) := by
  refine (ze_aload_n 1 zm141 dX10_fence_0 rfl rfl).trans ?_
  refine (ze_iload_n 2 zm141 dX10_fence_1 rfl rfl).trans ?_
  exact ze_virtI (as := [.int v1]) (rest := []) 5 zm141 dX10_fence_2 r10_141 zm132 rfl rfl k173_10 rfl rfl rfl rfl
theorem b141_5 (sc : zScr) (v1 : Int32) (v2 : Int32) (s0 : Int32) (i : Nat → Nat → Int32) (b : Bool) (l : Nat → Nat → Int64) : zev sc (141, 5, [some (.ref 173), some (.int v1), some (.int v2)], [.int s0], (197, i, (zRF b), l)) = if s0 = 0 then zev sc (141, 8, [some (.ref 173), some (.int v1), some (.int v2)], [], (197, i, (zRF b), l)) else zev sc (141, 10, [some (.ref 173), some (.int v1), some (.int v2)], [], (197, i, (zRF b), l)) := by
  exact ze_if_ne 10 8 zm141 dX10_fence_5 (by decide) rfl
theorem b141_8 (sc : zScr) (v1 : Int32) (v2 : Int32) (i : Nat → Nat → Int32) (b : Bool) (l : Nat → Nat → Int64) : zev sc (141, 8, [some (.ref 173), some (.int v1), some (.int v2)], [], (197, i, (zRF b), l)) = some (.int (-1 : Int32), (197, i, (zRF b), l)) := by
  refine (ze_iconst 9 zm141 dX10_fence_8 ci_m1 rfl).trans ?_
  exact ze_ireturn zm141 dX10_fence_9 rfl
theorem b141_10 (sc : zScr) (v1 : Int32) (v2 : Int32) (i : Nat → Nat → Int32) (b : Bool) (l : Nat → Nat → Int64) : zev sc (141, 10, [some (.ref 173), some (.int v1), some (.int v2)], [], (197, i, (zRF b), l)) = zev sc (141, zcs v2 108 [((0 : Int32), 44), ((1 : Int32), 51), ((2 : Int32), 58), ((3 : Int32), 68), ((4 : Int32), 88)], [some (.ref 173), some (.int v1), some (.int v2)], [], (197, i, (zRF b), l)) := by
  refine (ze_iload_n 11 zm141 dX10_fence_10 rfl rfl).trans ?_
  exact ze_table zm141 dX10_fence_11 (sw_141_11 _)
theorem b141_44 (sc : zScr) (v1 : Int32) (v2 : Int32) (i : Nat → Nat → Int32) (b : Bool) (l : Nat → Nat → Int64) (h1 : vp_in v1 16) : zev sc (141, 44, [some (.ref 173), some (.int v1), some (.int v2)], [], (197, i, (zRF b), l)) = some (.int (i 177 v1.toNatClampNeg), (197, i, (zRF b), l)) := by
  refine (ze_aload_n 45 zm141 dX10_fence_44 rfl rfl).trans ?_
  refine (ze_getR 48 zm141 dX10_fence_45 f10_20 k173_10 t10_4 (rr173_4 b) rfl).trans ?_
  refine (ze_iload_n 49 zm141 dX10_fence_48 rfl rfl).trans ?_
  refine (ze_iaload (t := v1.toNatClampNeg) 50 zm141 dX10_fence_49 k177_100 n177 h1 rfl rfl).trans ?_
  exact ze_ireturn zm141 dX10_fence_50 rfl
theorem b141_51 (sc : zScr) (v1 : Int32) (v2 : Int32) (i : Nat → Nat → Int32) (b : Bool) (l : Nat → Nat → Int64) (h1 : vp_in v1 16) : zev sc (141, 51, [some (.ref 173), some (.int v1), some (.int v2)], [], (197, i, (zRF b), l)) = some (.int (i 178 v1.toNatClampNeg), (197, i, (zRF b), l)) := by
  refine (ze_aload_n 52 zm141 dX10_fence_51 rfl rfl).trans ?_
  refine (ze_getR 55 zm141 dX10_fence_52 f10_23 k173_10 t10_5 (rr173_5 b) rfl).trans ?_
  refine (ze_iload_n 56 zm141 dX10_fence_55 rfl rfl).trans ?_
  refine (ze_iaload (t := v1.toNatClampNeg) 57 zm141 dX10_fence_56 k178_100 n178 h1 rfl rfl).trans ?_
  exact ze_ireturn zm141 dX10_fence_57 rfl
theorem b141_58 (sc : zScr) (v1 : Int32) (v2 : Int32) (i : Nat → Nat → Int32) (b : Bool) (l : Nat → Nat → Int64) (h1 : vp_in ((6 : Int32) + v1) 30) : zev sc (141, 58, [some (.ref 173), some (.int v1), some (.int v2)], [], (197, i, (zRF b), l)) = some (.int (i 187 (((6 : Int32) + v1)).toNatClampNeg), (197, i, (zRF b), l)) := by
  refine (ze_aload_n 59 zm141 dX10_fence_58 rfl rfl).trans ?_
  refine (ze_getR 62 zm141 dX10_fence_59 f10_50 k173_10 t10_20 (rr173_20 b) rfl).trans ?_
  refine (ze_bipush 64 zm141 dX10_fence_62 cb_6 rfl).trans ?_
  refine (ze_iload_n 65 zm141 dX10_fence_64 rfl rfl).trans ?_
  refine (ze_iadd 66 zm141 dX10_fence_65 rfl).trans ?_
  refine (ze_iaload (t := (((6 : Int32) + v1)).toNatClampNeg) 67 zm141 dX10_fence_66 k187_100 n187 h1 rfl rfl).trans ?_
  exact ze_ireturn zm141 dX10_fence_67 rfl
theorem b141_68 (sc : zScr) (v1 : Int32) (v2 : Int32) (i : Nat → Nat → Int32) (b : Bool) (l : Nat → Nat → Int64) : zev sc (141, 68, [some (.ref 173), some (.int v1), some (.int v2)], [], (197, i, (zRF b), l)) = (zev sc (120, 0, [some (.int (i 187 14)), some (.int v1)], [], (197, i, (zRF b), l))).bind (fun x => zev sc (141, 79, [some (.ref 173), some (.int v1), some (.int v2)], [x.1], x.2)) := by
  refine (ze_aload_n 69 zm141 dX10_fence_68 rfl rfl).trans ?_
  refine (ze_getR 72 zm141 dX10_fence_69 f10_50 k173_10 t10_20 (rr173_20 b) rfl).trans ?_
  refine (ze_bipush 74 zm141 dX10_fence_72 cb_14 rfl).trans ?_
  refine (ze_iaload (t := 14) 75 zm141 dX10_fence_74 k187_100 n187 vi_14_30 tn_14 rfl).trans ?_
  refine (ze_iload_n 76 zm141 dX10_fence_75 rfl rfl).trans ?_
  exact ze_statI (as := [.int (i 187 14), .int v1]) (rest := []) 79 zm141 dX10_fence_76 r10_137 zm120 rfl rfl rfl rfl rfl rfl
theorem b141_79 (sc : zScr) (v1 : Int32) (v2 : Int32) (s0 : Int32) (i : Nat → Nat → Int32) (b : Bool) (l : Nat → Nat → Int64) : zev sc (141, 79, [some (.ref 173), some (.int v1), some (.int v2)], [.int s0], (197, i, (zRF b), l)) = if s0 = 0 then zev sc (141, 86, [some (.ref 173), some (.int v1), some (.int v2)], [], (197, i, (zRF b), l)) else zev sc (141, 82, [some (.ref 173), some (.int v1), some (.int v2)], [], (197, i, (zRF b), l)) := by
  exact ze_if_eq 86 82 zm141 dX10_fence_79 (by decide) rfl
theorem b141_82 (sc : zScr) (v1 : Int32) (v2 : Int32) (i : Nat → Nat → Int32) (b : Bool) (l : Nat → Nat → Int64) : zev sc (141, 82, [some (.ref 173), some (.int v1), some (.int v2)], [], (197, i, (zRF b), l)) = zev sc (141, 87, [some (.ref 173), some (.int v1), some (.int v2)], [.int (1 : Int32)], (197, i, (zRF b), l)) := by
  refine (ze_iconst 83 zm141 dX10_fence_82 ci_1 rfl).trans ?_
  exact ze_goto 87 zm141 dX10_fence_83 (by decide)
theorem b141_86 (sc : zScr) (v1 : Int32) (v2 : Int32) (i : Nat → Nat → Int32) (b : Bool) (l : Nat → Nat → Int64) : zev sc (141, 86, [some (.ref 173), some (.int v1), some (.int v2)], [], (197, i, (zRF b), l)) = zev sc (141, 87, [some (.ref 173), some (.int v1), some (.int v2)], [.int (0 : Int32)], (197, i, (zRF b), l)) := by
  refine (ze_iconst 87 zm141 dX10_fence_86 ci_0 rfl).trans ?_
  rfl
theorem b141_87 (sc : zScr) (v1 : Int32) (v2 : Int32) (s0 : Int32) (i : Nat → Nat → Int32) (b : Bool) (l : Nat → Nat → Int64) : zev sc (141, 87, [some (.ref 173), some (.int v1), some (.int v2)], [.int s0], (197, i, (zRF b), l)) = some (.int s0, (197, i, (zRF b), l)) := by
  exact ze_ireturn zm141 dX10_fence_87 rfl
theorem b141_88 (sc : zScr) (v1 : Int32) (v2 : Int32) (i : Nat → Nat → Int32) (b : Bool) (l : Nat → Nat → Int64) : zev sc (141, 88, [some (.ref 173), some (.int v1), some (.int v2)], [], (197, i, (zRF b), l)) = (zev sc (120, 0, [some (.int (i 187 15)), some (.int v1)], [], (197, i, (zRF b), l))).bind (fun x => zev sc (141, 99, [some (.ref 173), some (.int v1), some (.int v2)], [x.1], x.2)) := by
  refine (ze_aload_n 89 zm141 dX10_fence_88 rfl rfl).trans ?_
  refine (ze_getR 92 zm141 dX10_fence_89 f10_50 k173_10 t10_20 (rr173_20 b) rfl).trans ?_
  refine (ze_bipush 94 zm141 dX10_fence_92 cb_15 rfl).trans ?_
  refine (ze_iaload (t := 15) 95 zm141 dX10_fence_94 k187_100 n187 vi_15_30 tn_15 rfl).trans ?_
  refine (ze_iload_n 96 zm141 dX10_fence_95 rfl rfl).trans ?_
  exact ze_statI (as := [.int (i 187 15), .int v1]) (rest := []) 99 zm141 dX10_fence_96 r10_137 zm120 rfl rfl rfl rfl rfl rfl
theorem b141_99 (sc : zScr) (v1 : Int32) (v2 : Int32) (s0 : Int32) (i : Nat → Nat → Int32) (b : Bool) (l : Nat → Nat → Int64) : zev sc (141, 99, [some (.ref 173), some (.int v1), some (.int v2)], [.int s0], (197, i, (zRF b), l)) = if s0 = 0 then zev sc (141, 106, [some (.ref 173), some (.int v1), some (.int v2)], [], (197, i, (zRF b), l)) else zev sc (141, 102, [some (.ref 173), some (.int v1), some (.int v2)], [], (197, i, (zRF b), l)) := by
  exact ze_if_eq 106 102 zm141 dX10_fence_99 (by decide) rfl
theorem b141_102 (sc : zScr) (v1 : Int32) (v2 : Int32) (i : Nat → Nat → Int32) (b : Bool) (l : Nat → Nat → Int64) : zev sc (141, 102, [some (.ref 173), some (.int v1), some (.int v2)], [], (197, i, (zRF b), l)) = zev sc (141, 107, [some (.ref 173), some (.int v1), some (.int v2)], [.int (1 : Int32)], (197, i, (zRF b), l)) := by
  refine (ze_iconst 103 zm141 dX10_fence_102 ci_1 rfl).trans ?_
  exact ze_goto 107 zm141 dX10_fence_103 (by decide)
theorem b141_106 (sc : zScr) (v1 : Int32) (v2 : Int32) (i : Nat → Nat → Int32) (b : Bool) (l : Nat → Nat → Int64) : zev sc (141, 106, [some (.ref 173), some (.int v1), some (.int v2)], [], (197, i, (zRF b), l)) = zev sc (141, 107, [some (.ref 173), some (.int v1), some (.int v2)], [.int (0 : Int32)], (197, i, (zRF b), l)) := by
  refine (ze_iconst 107 zm141 dX10_fence_106 ci_0 rfl).trans ?_
  rfl
theorem b141_107 (sc : zScr) (v1 : Int32) (v2 : Int32) (s0 : Int32) (i : Nat → Nat → Int32) (b : Bool) (l : Nat → Nat → Int64) : zev sc (141, 107, [some (.ref 173), some (.int v1), some (.int v2)], [.int s0], (197, i, (zRF b), l)) = some (.int s0, (197, i, (zRF b), l)) := by
  exact ze_ireturn zm141 dX10_fence_107 rfl
theorem b141_108 (sc : zScr) (v1 : Int32) (v2 : Int32) (i : Nat → Nat → Int32) (b : Bool) (l : Nat → Nat → Int64) : zev sc (141, 108, [some (.ref 173), some (.int v1), some (.int v2)], [], (197, i, (zRF b), l)) = some (.int (-1 : Int32), (197, i, (zRF b), l)) := by
  refine (ze_iconst 109 zm141 dX10_fence_108 ci_m1 rfl).trans ?_
  exact ze_ireturn zm141 dX10_fence_109 rfl
/-! HarpFencesModel.kind (II)I: method 142 -/
theorem b142_0 (sc : zScr) (v1 : Int32) (v2 : Int32) (i : Nat → Nat → Int32) (b : Bool) (l : Nat → Nat → Int64) : zev sc (142, 0, [some (.ref 173), some (.int v1), some (.int v2)], [], (197, i, (zRF b), l)) = (zev sc (133, 0, [some (.ref 173), some (.int v1)], [], (197, i, (zRF b), l))).bind (fun x => zev sc (142, 5, [some (.ref 173), some (.int v1), some (.int v2)], [x.1], x.2)) := by
  refine (ze_aload_n 1 zm142 dX10_kind_0 rfl rfl).trans ?_
  refine (ze_iload_n 2 zm142 dX10_kind_1 rfl rfl).trans ?_
  exact ze_virtI (as := [.int v1]) (rest := []) 5 zm142 dX10_kind_2 r10_145 zm133 rfl rfl k173_10 rfl rfl rfl rfl
theorem b142_5 (sc : zScr) (v1 : Int32) (v2 : Int32) (s0 : Int32) (i : Nat → Nat → Int32) (b : Bool) (l : Nat → Nat → Int64) : zev sc (142, 5, [some (.ref 173), some (.int v1), some (.int v2)], [.int s0], (197, i, (zRF b), l)) = if s0 = 0 then zev sc (142, 17, [some (.ref 173), some (.int v1), some (.int v2)], [], (197, i, (zRF b), l)) else zev sc (142, 8, [some (.ref 173), some (.int v1), some (.int v2)], [], (197, i, (zRF b), l)) := by
  exact ze_if_eq 17 8 zm142 dX10_kind_5 (by decide) rfl
theorem b142_8 (sc : zScr) (v1 : Int32) (v2 : Int32) (i : Nat → Nat → Int32) (b : Bool) (l : Nat → Nat → Int64) : zev sc (142, 8, [some (.ref 173), some (.int v1), some (.int v2)], [], (197, i, (zRF b), l)) = (zev sc (119, 0, [some (.int v2), some (.int (0 : Int32)), some (.int (1 : Int32))], [], (197, i, (zRF b), l))).bind (fun x => zev sc (142, 14, [some (.ref 173), some (.int v1), some (.int v2)], [x.1], x.2)) := by
  refine (ze_iload_n 9 zm142 dX10_kind_8 rfl rfl).trans ?_
  refine (ze_iconst 10 zm142 dX10_kind_9 ci_0 rfl).trans ?_
  refine (ze_iconst 11 zm142 dX10_kind_10 ci_1 rfl).trans ?_
  exact ze_statI (as := [.int v2, .int (0 : Int32), .int (1 : Int32)]) (rest := []) 14 zm142 dX10_kind_11 r10_81 zm119 rfl rfl rfl rfl rfl rfl
theorem b142_14 (sc : zScr) (v1 : Int32) (v2 : Int32) (s0 : Int32) (i : Nat → Nat → Int32) (b : Bool) (l : Nat → Nat → Int64) : zev sc (142, 14, [some (.ref 173), some (.int v1), some (.int v2)], [.int s0], (197, i, (zRF b), l)) = if s0 = 0 then zev sc (142, 17, [some (.ref 173), some (.int v1), some (.int v2)], [], (197, i, (zRF b), l)) else zev sc (142, 20, [some (.ref 173), some (.int v1), some (.int v2)], [], (197, i, (zRF b), l)) := by
  exact ze_if_ne 20 17 zm142 dX10_kind_14 (by decide) rfl
theorem b142_17 (sc : zScr) (v1 : Int32) (v2 : Int32) (i : Nat → Nat → Int32) (b : Bool) (l : Nat → Nat → Int64) : zev sc (142, 17, [some (.ref 173), some (.int v1), some (.int v2)], [], (197, i, (zRF b), l)) = some (.int (-1000000 : Int32), (197, i, (zRF b), l)) := by
  refine (ze_ldc 19 zm142 dX10_kind_17 zi_10_148 rfl).trans ?_
  exact ze_ireturn zm142 dX10_kind_19 rfl
theorem b142_20 (sc : zScr) (v1 : Int32) (v2 : Int32) (i : Nat → Nat → Int32) (b : Bool) (l : Nat → Nat → Int64) : zev sc (142, 20, [some (.ref 173), some (.int v1), some (.int v2)], [], (197, i, (zRF b), l)) = if v2 = 0 then zev sc (142, 24, [some (.ref 173), some (.int v1), some (.int v2)], [], (197, i, (zRF b), l)) else zev sc (142, 33, [some (.ref 173), some (.int v1), some (.int v2)], [], (197, i, (zRF b), l)) := by
  refine (ze_iload_n 21 zm142 dX10_kind_20 rfl rfl).trans ?_
  exact ze_if_ne 33 24 zm142 dX10_kind_21 (by decide) rfl
theorem b142_24 (sc : zScr) (v1 : Int32) (v2 : Int32) (i : Nat → Nat → Int32) (b : Bool) (l : Nat → Nat → Int64) (h1 : vp_in v1 8) : zev sc (142, 24, [some (.ref 173), some (.int v1), some (.int v2)], [], (197, i, (zRF b), l)) = zev sc (142, 39, [some (.ref 173), some (.int v1), some (.int v2)], [.int (i 181 v1.toNatClampNeg)], (197, i, (zRF b), l)) := by
  refine (ze_aload_n 25 zm142 dX10_kind_24 rfl rfl).trans ?_
  refine (ze_getR 28 zm142 dX10_kind_25 f10_32 k173_10 t10_8 (rr173_8 b) rfl).trans ?_
  refine (ze_iload_n 29 zm142 dX10_kind_28 rfl rfl).trans ?_
  refine (ze_iaload (t := v1.toNatClampNeg) 30 zm142 dX10_kind_29 k181_100 n181 h1 rfl rfl).trans ?_
  exact ze_goto 39 zm142 dX10_kind_30 (by decide)
theorem b142_33 (sc : zScr) (v1 : Int32) (v2 : Int32) (i : Nat → Nat → Int32) (b : Bool) (l : Nat → Nat → Int64) (h1 : vp_in v1 8) : zev sc (142, 33, [some (.ref 173), some (.int v1), some (.int v2)], [], (197, i, (zRF b), l)) = zev sc (142, 39, [some (.ref 173), some (.int v1), some (.int v2)], [.int (i 182 v1.toNatClampNeg)], (197, i, (zRF b), l)) := by
  refine (ze_aload_n 34 zm142 dX10_kind_33 rfl rfl).trans ?_
  refine (ze_getR 37 zm142 dX10_kind_34 f10_35 k173_10 t10_9 (rr173_9 b) rfl).trans ?_
  refine (ze_iload_n 38 zm142 dX10_kind_37 rfl rfl).trans ?_
  refine (ze_iaload (t := v1.toNatClampNeg) 39 zm142 dX10_kind_38 k182_100 n182 h1 rfl rfl).trans ?_
  rfl
theorem b142_39 (sc : zScr) (v1 : Int32) (v2 : Int32) (s0 : Int32) (i : Nat → Nat → Int32) (b : Bool) (l : Nat → Nat → Int64) : zev sc (142, 39, [some (.ref 173), some (.int v1), some (.int v2)], [.int s0], (197, i, (zRF b), l)) = some (.int s0, (197, i, (zRF b), l)) := by
  exact ze_ireturn zm142 dX10_kind_39 rfl
/-! HarpFencesModel.beast (II)I: method 143 -/
theorem b143_0 (sc : zScr) (v1 : Int32) (v2 : Int32) (i : Nat → Nat → Int32) (b : Bool) (l : Nat → Nat → Int64) : zev sc (143, 0, [some (.ref 173), some (.int v1), some (.int v2)], [], (197, i, (zRF b), l)) = (zev sc (134, 0, [some (.ref 173), some (.int v1)], [], (197, i, (zRF b), l))).bind (fun x => zev sc (143, 5, [some (.ref 173), some (.int v1), some (.int v2)], [x.1], x.2)) := by
  refine (ze_aload_n 1 zm143 dX10_beast_0 rfl rfl).trans ?_
  refine (ze_iload_n 2 zm143 dX10_beast_1 rfl rfl).trans ?_
  exact ze_virtI (as := [.int v1]) (rest := []) 5 zm143 dX10_beast_2 r10_149 zm134 rfl rfl k173_10 rfl rfl rfl rfl
theorem b143_5 (sc : zScr) (v1 : Int32) (v2 : Int32) (s0 : Int32) (i : Nat → Nat → Int32) (b : Bool) (l : Nat → Nat → Int64) : zev sc (143, 5, [some (.ref 173), some (.int v1), some (.int v2)], [.int s0], (197, i, (zRF b), l)) = if s0 = 0 then zev sc (143, 17, [some (.ref 173), some (.int v1), some (.int v2)], [], (197, i, (zRF b), l)) else zev sc (143, 8, [some (.ref 173), some (.int v1), some (.int v2)], [], (197, i, (zRF b), l)) := by
  exact ze_if_eq 17 8 zm143 dX10_beast_5 (by decide) rfl
theorem b143_8 (sc : zScr) (v1 : Int32) (v2 : Int32) (i : Nat → Nat → Int32) (b : Bool) (l : Nat → Nat → Int64) : zev sc (143, 8, [some (.ref 173), some (.int v1), some (.int v2)], [], (197, i, (zRF b), l)) = (zev sc (119, 0, [some (.int v2), some (.int (0 : Int32)), some (.int (1 : Int32))], [], (197, i, (zRF b), l))).bind (fun x => zev sc (143, 14, [some (.ref 173), some (.int v1), some (.int v2)], [x.1], x.2)) := by
  refine (ze_iload_n 9 zm143 dX10_beast_8 rfl rfl).trans ?_
  refine (ze_iconst 10 zm143 dX10_beast_9 ci_0 rfl).trans ?_
  refine (ze_iconst 11 zm143 dX10_beast_10 ci_1 rfl).trans ?_
  exact ze_statI (as := [.int v2, .int (0 : Int32), .int (1 : Int32)]) (rest := []) 14 zm143 dX10_beast_11 r10_81 zm119 rfl rfl rfl rfl rfl rfl
theorem b143_14 (sc : zScr) (v1 : Int32) (v2 : Int32) (s0 : Int32) (i : Nat → Nat → Int32) (b : Bool) (l : Nat → Nat → Int64) : zev sc (143, 14, [some (.ref 173), some (.int v1), some (.int v2)], [.int s0], (197, i, (zRF b), l)) = if s0 = 0 then zev sc (143, 17, [some (.ref 173), some (.int v1), some (.int v2)], [], (197, i, (zRF b), l)) else zev sc (143, 19, [some (.ref 173), some (.int v1), some (.int v2)], [], (197, i, (zRF b), l)) := by
  exact ze_if_ne 19 17 zm143 dX10_beast_14 (by decide) rfl
theorem b143_17 (sc : zScr) (v1 : Int32) (v2 : Int32) (i : Nat → Nat → Int32) (b : Bool) (l : Nat → Nat → Int64) : zev sc (143, 17, [some (.ref 173), some (.int v1), some (.int v2)], [], (197, i, (zRF b), l)) = some (.int (-1 : Int32), (197, i, (zRF b), l)) := by
  refine (ze_iconst 18 zm143 dX10_beast_17 ci_m1 rfl).trans ?_
  exact ze_ireturn zm143 dX10_beast_18 rfl
theorem b143_19 (sc : zScr) (v1 : Int32) (v2 : Int32) (i : Nat → Nat → Int32) (b : Bool) (l : Nat → Nat → Int64) : zev sc (143, 19, [some (.ref 173), some (.int v1), some (.int v2)], [], (197, i, (zRF b), l)) = if v2 = 0 then zev sc (143, 23, [some (.ref 173), some (.int v1), some (.int v2)], [], (197, i, (zRF b), l)) else zev sc (143, 32, [some (.ref 173), some (.int v1), some (.int v2)], [], (197, i, (zRF b), l)) := by
  refine (ze_iload_n 20 zm143 dX10_beast_19 rfl rfl).trans ?_
  exact ze_if_ne 32 23 zm143 dX10_beast_20 (by decide) rfl
theorem b143_23 (sc : zScr) (v1 : Int32) (v2 : Int32) (i : Nat → Nat → Int32) (b : Bool) (l : Nat → Nat → Int64) (h1 : vp_in v1 12) : zev sc (143, 23, [some (.ref 173), some (.int v1), some (.int v2)], [], (197, i, (zRF b), l)) = zev sc (143, 40, [some (.ref 173), some (.int v1), some (.int v2)], [.int (i 184 v1.toNatClampNeg)], (197, i, (zRF b), l)) := by
  refine (ze_aload_n 24 zm143 dX10_beast_23 rfl rfl).trans ?_
  refine (ze_getR 27 zm143 dX10_beast_24 f10_41 k173_10 t10_11 (rr173_11 b) rfl).trans ?_
  refine (ze_iload_n 28 zm143 dX10_beast_27 rfl rfl).trans ?_
  refine (ze_iaload (t := v1.toNatClampNeg) 29 zm143 dX10_beast_28 k184_100 n184 h1 rfl rfl).trans ?_
  exact ze_goto 40 zm143 dX10_beast_29 (by decide)
theorem b143_32 (sc : zScr) (v1 : Int32) (v2 : Int32) (i : Nat → Nat → Int32) (b : Bool) (l : Nat → Nat → Int64) (h1 : vp_in ((0 : Int32) + v1) 30) : zev sc (143, 32, [some (.ref 173), some (.int v1), some (.int v2)], [], (197, i, (zRF b), l)) = zev sc (143, 40, [some (.ref 173), some (.int v1), some (.int v2)], [.int (i 187 (((0 : Int32) + v1)).toNatClampNeg)], (197, i, (zRF b), l)) := by
  refine (ze_aload_n 33 zm143 dX10_beast_32 rfl rfl).trans ?_
  refine (ze_getR 36 zm143 dX10_beast_33 f10_50 k173_10 t10_20 (rr173_20 b) rfl).trans ?_
  refine (ze_iconst 37 zm143 dX10_beast_36 ci_0 rfl).trans ?_
  refine (ze_iload_n 38 zm143 dX10_beast_37 rfl rfl).trans ?_
  refine (ze_iadd 39 zm143 dX10_beast_38 rfl).trans ?_
  refine (ze_iaload (t := (((0 : Int32) + v1)).toNatClampNeg) 40 zm143 dX10_beast_39 k187_100 n187 h1 rfl rfl).trans ?_
  rfl
theorem b143_40 (sc : zScr) (v1 : Int32) (v2 : Int32) (s0 : Int32) (i : Nat → Nat → Int32) (b : Bool) (l : Nat → Nat → Int64) : zev sc (143, 40, [some (.ref 173), some (.int v1), some (.int v2)], [.int s0], (197, i, (zRF b), l)) = some (.int s0, (197, i, (zRF b), l)) := by
  exact ze_ireturn zm143 dX10_beast_40 rfl
/-! HarpFencesModel.sound (II)I: method 144 -/
theorem b144_0 (sc : zScr) (v1 : Int32) (v2 : Int32) (i : Nat → Nat → Int32) (b : Bool) (l : Nat → Nat → Int64) : zev sc (144, 0, [some (.ref 173), some (.int v1), some (.int v2)], [], (197, i, (zRF b), l)) = (zev sc (133, 0, [some (.ref 173), some (.int v1)], [], (197, i, (zRF b), l))).bind (fun x => zev sc (144, 5, [some (.ref 173), some (.int v1), some (.int v2)], [x.1], x.2)) := by
  refine (ze_aload_n 1 zm144 dX10_sound_0 rfl rfl).trans ?_
  refine (ze_iload_n 2 zm144 dX10_sound_1 rfl rfl).trans ?_
  exact ze_virtI (as := [.int v1]) (rest := []) 5 zm144 dX10_sound_2 r10_145 zm133 rfl rfl k173_10 rfl rfl rfl rfl
theorem b144_5 (sc : zScr) (v1 : Int32) (v2 : Int32) (s0 : Int32) (i : Nat → Nat → Int32) (b : Bool) (l : Nat → Nat → Int64) : zev sc (144, 5, [some (.ref 173), some (.int v1), some (.int v2)], [.int s0], (197, i, (zRF b), l)) = if s0 = 0 then zev sc (144, 25, [some (.ref 173), some (.int v1), some (.int v2)], [], (197, i, (zRF b), l)) else zev sc (144, 8, [some (.ref 173), some (.int v1), some (.int v2)], [], (197, i, (zRF b), l)) := by
  exact ze_if_eq 25 8 zm144 dX10_sound_5 (by decide) rfl
theorem b144_8 (sc : zScr) (v1 : Int32) (v2 : Int32) (i : Nat → Nat → Int32) (b : Bool) (l : Nat → Nat → Int64) : zev sc (144, 8, [some (.ref 173), some (.int v1), some (.int v2)], [], (197, i, (zRF b), l)) = (zev sc (132, 0, [some (.ref 173), some (.int v2)], [], (197, i, (zRF b), l))).bind (fun x => zev sc (144, 13, [some (.ref 173), some (.int v1), some (.int v2)], [x.1], x.2)) := by
  refine (ze_aload_n 9 zm144 dX10_sound_8 rfl rfl).trans ?_
  refine (ze_iload_n 10 zm144 dX10_sound_9 rfl rfl).trans ?_
  exact ze_virtI (as := [.int v2]) (rest := []) 13 zm144 dX10_sound_10 r10_141 zm132 rfl rfl k173_10 rfl rfl rfl rfl
theorem b144_13 (sc : zScr) (v1 : Int32) (v2 : Int32) (s0 : Int32) (i : Nat → Nat → Int32) (b : Bool) (l : Nat → Nat → Int64) : zev sc (144, 13, [some (.ref 173), some (.int v1), some (.int v2)], [.int s0], (197, i, (zRF b), l)) = if s0 = 0 then zev sc (144, 25, [some (.ref 173), some (.int v1), some (.int v2)], [], (197, i, (zRF b), l)) else zev sc (144, 16, [some (.ref 173), some (.int v1), some (.int v2)], [], (197, i, (zRF b), l)) := by
  exact ze_if_eq 25 16 zm144 dX10_sound_13 (by decide) rfl
theorem b144_16 (sc : zScr) (v1 : Int32) (v2 : Int32) (i : Nat → Nat → Int32) (b : Bool) (l : Nat → Nat → Int64) : zev sc (144, 16, [some (.ref 173), some (.int v1), some (.int v2)], [], (197, i, (zRF b), l)) = (zev sc (135, 0, [some (.ref 173), some (.int v1), some (.int v2), none], [], (197, i, (zRF b), l))).bind (fun x => zev sc (144, 22, [some (.ref 173), some (.int v1), some (.int v2)], [x.1], x.2)) := by
  refine (ze_aload_n 17 zm144 dX10_sound_16 rfl rfl).trans ?_
  refine (ze_iload_n 18 zm144 dX10_sound_17 rfl rfl).trans ?_
  refine (ze_iload_n 19 zm144 dX10_sound_18 rfl rfl).trans ?_
  exact ze_virtI (as := [.int v1, .int v2]) (rest := []) 22 zm144 dX10_sound_19 r10_152 zm135 rfl rfl k173_10 rfl rfl rfl rfl
theorem b144_22 (sc : zScr) (v1 : Int32) (v2 : Int32) (s0 : Int32) (i : Nat → Nat → Int32) (b : Bool) (l : Nat → Nat → Int64) : zev sc (144, 22, [some (.ref 173), some (.int v1), some (.int v2)], [.int s0], (197, i, (zRF b), l)) = zev sc (144, 26, [some (.ref 173), some (.int v1), some (.int v2)], [.int s0], (197, i, (zRF b), l)) := by
  exact ze_goto 26 zm144 dX10_sound_22 (by decide)
theorem b144_25 (sc : zScr) (v1 : Int32) (v2 : Int32) (i : Nat → Nat → Int32) (b : Bool) (l : Nat → Nat → Int64) : zev sc (144, 25, [some (.ref 173), some (.int v1), some (.int v2)], [], (197, i, (zRF b), l)) = zev sc (144, 26, [some (.ref 173), some (.int v1), some (.int v2)], [.int (-1 : Int32)], (197, i, (zRF b), l)) := by
  refine (ze_iconst 26 zm144 dX10_sound_25 ci_m1 rfl).trans ?_
  rfl
theorem b144_26 (sc : zScr) (v1 : Int32) (v2 : Int32) (s0 : Int32) (i : Nat → Nat → Int32) (b : Bool) (l : Nat → Nat → Int64) : zev sc (144, 26, [some (.ref 173), some (.int v1), some (.int v2)], [.int s0], (197, i, (zRF b), l)) = some (.int s0, (197, i, (zRF b), l)) := by
  exact ze_ireturn zm144 dX10_sound_26 rfl
/-! HarpFencesModel.know ()V: method 145 -/
theorem b145_0 (sc : zScr) (i : Nat → Nat → Int32) (b : Bool) (l : Nat → Nat → Int64) : zev sc (145, 0, [some (.ref 173), none], [], (197, i, (zRF b), l)) = if (i 188 0) = (10 : Int32) then zev sc (145, 11, [some (.ref 173), none], [], (197, i, (zRF b), l)) else zev sc (145, 51, [some (.ref 173), none], [], (197, i, (zRF b), l)) := by
  refine (ze_aload_n 1 zm145 dX10_know_0 rfl rfl).trans ?_
  refine (ze_getR 4 zm145 dX10_know_1 f10_53 k173_10 t10_21 (rr173_21 b) rfl).trans ?_
  refine (ze_iconst 5 zm145 dX10_know_4 ci_0 rfl).trans ?_
  refine (ze_iaload (t := 0) 6 zm145 dX10_know_5 k188_100 n188 vi_0_3 tn_0 rfl).trans ?_
  refine (ze_bipush 8 zm145 dX10_know_6 cb_10 rfl).trans ?_
  exact ze_icmp_ne 51 11 zm145 dX10_know_8 (by decide) rfl
theorem b145_11 (sc : zScr) (i : Nat → Nat → Int32) (b : Bool) (l : Nat → Nat → Int64) : zev sc (145, 11, [some (.ref 173), none], [], (197, i, (zRF b), l)) = zev sc (145, 13, [some (.ref 173), some (.int (0 : Int32))], [], (197, i, (zRF b), l)) := by
  refine (ze_iconst 12 zm145 dX10_know_11 ci_0 rfl).trans ?_
  refine (ze_istore_n (A := 99) (ls' := [some (.ref 173), some (.int (0 : Int32))]) 13 zm145 dX10_know_12 za145 rfl rfl rfl rfl rfl).trans ?_
  rfl
theorem b145_13 (sc : zScr) (v1 : Int32) (i : Nat → Nat → Int32) (b : Bool) (l : Nat → Nat → Int64) : zev sc (145, 13, [some (.ref 173), some (.int v1)], [], (197, i, (zRF b), l)) = if (270 : Int32) ≤ v1 then zev sc (145, 41, [some (.ref 173), some (.int v1)], [], (197, i, (zRF b), l)) else zev sc (145, 20, [some (.ref 173), some (.int v1)], [], (197, i, (zRF b), l)) := by
  refine (ze_iload_n 14 zm145 dX10_know_13 rfl rfl).trans ?_
  refine (ze_sipush 17 zm145 dX10_know_14 cs_270 rfl).trans ?_
  exact ze_icmp_ge 41 20 zm145 dX10_know_17 (by decide) rfl
theorem b145_20 (sc : zScr) (v1 : Int32) (i : Nat → Nat → Int32) (b : Bool) (l : Nat → Nat → Int64) (h1 : vp_in ((30 : Int32) + v1) 900) (h2 : vp_in v1 900) : zev sc (145, 20, [some (.ref 173), some (.int v1)], [], (197, i, (zRF b), l)) = zev sc (145, 13, [some (.ref 173), some (.int (v1 + 1))], [], (197, (zU i 189 v1.toNatClampNeg (i 189 (((30 : Int32) + v1)).toNatClampNeg)), (zRF b), l)) := by
  refine (ze_aload_n 21 zm145 dX10_know_20 rfl rfl).trans ?_
  refine (ze_getR 24 zm145 dX10_know_21 f10_56 k173_10 t10_22 (rr173_22 b) rfl).trans ?_
  refine (ze_iload_n 25 zm145 dX10_know_24 rfl rfl).trans ?_
  refine (ze_aload_n 26 zm145 dX10_know_25 rfl rfl).trans ?_
  refine (ze_getR 29 zm145 dX10_know_26 f10_56 k173_10 t10_22 (rr173_22 b) rfl).trans ?_
  refine (ze_bipush 31 zm145 dX10_know_29 cb_30 rfl).trans ?_
  refine (ze_iload_n 32 zm145 dX10_know_31 rfl rfl).trans ?_
  refine (ze_iadd 33 zm145 dX10_know_32 rfl).trans ?_
  refine (ze_iaload (t := (((30 : Int32) + v1)).toNatClampNeg) 34 zm145 dX10_know_33 k189_100 n189 h1 rfl rfl).trans ?_
  refine (ze_iastore (t := v1.toNatClampNeg) 35 zm145 dX10_know_34 k189_100 n189 h2 rfl rfl).trans ?_
  refine (ze_iinc (v := (1 : Int32)) (A := 99) (ls' := [some (.ref 173), some (.int (v1 + 1))]) 38 zm145 dX10_know_35 rfl ci_1 za145 rfl rfl rfl rfl rfl).trans ?_
  exact ze_goto 13 zm145 dX10_know_38 (by decide)
theorem b145_41 (sc : zScr) (v1 : Int32) (i : Nat → Nat → Int32) (b : Bool) (l : Nat → Nat → Int64) : zev sc (145, 41, [some (.ref 173), some (.int v1)], [], (197, i, (zRF b), l)) = zev sc (145, 51, [some (.ref 173), some (.int v1)], [], (197, (zU i 188 0 ((i 188 0) - (1 : Int32))), (zRF b), l)) := by
  refine (ze_aload_n 42 zm145 dX10_know_41 rfl rfl).trans ?_
  refine (ze_getR 45 zm145 dX10_know_42 f10_53 k173_10 t10_21 (rr173_21 b) rfl).trans ?_
  refine (ze_iconst 46 zm145 dX10_know_45 ci_0 rfl).trans ?_
  refine (ze_dup2 47 zm145 dX10_know_46 rfl rfl rfl).trans ?_
  refine (ze_iaload (t := 0) 48 zm145 dX10_know_47 k188_100 n188 vi_0_3 tn_0 rfl).trans ?_
  refine (ze_iconst 49 zm145 dX10_know_48 ci_1 rfl).trans ?_
  refine (ze_isub 50 zm145 dX10_know_49 rfl).trans ?_
  refine (ze_iastore (t := 0) 51 zm145 dX10_know_50 k188_100 n188 vi_0_3 tn_0 rfl).trans ?_
  rfl
theorem b145_51 (sc : zScr) (w1 : Option Value) (i : Nat → Nat → Int32) (b : Bool) (l : Nat → Nat → Int64) : zev sc (145, 51, [some (.ref 173), w1], [], (197, i, (zRF b), l)) = zev sc (145, 53, [some (.ref 173), some (.int (0 : Int32))], [], (197, i, (zRF b), l)) := by
  refine (ze_iconst 52 zm145 dX10_know_51 ci_0 rfl).trans ?_
  refine (ze_istore_n (A := 99) (ls' := [some (.ref 173), some (.int (0 : Int32))]) 53 zm145 dX10_know_52 za145 rfl rfl rfl rfl rfl).trans ?_
  rfl
theorem b145_53 (sc : zScr) (v1 : Int32) (i : Nat → Nat → Int32) (b : Bool) (l : Nat → Nat → Int64) : zev sc (145, 53, [some (.ref 173), some (.int v1)], [], (197, i, (zRF b), l)) = if (30 : Int32) ≤ v1 then zev sc (145, 87, [some (.ref 173), some (.int v1)], [], (197, i, (zRF b), l)) else zev sc (145, 59, [some (.ref 173), some (.int v1)], [], (197, i, (zRF b), l)) := by
  refine (ze_iload_n 54 zm145 dX10_know_53 rfl rfl).trans ?_
  refine (ze_bipush 56 zm145 dX10_know_54 cb_30 rfl).trans ?_
  exact ze_icmp_ge 87 59 zm145 dX10_know_56 (by decide) rfl
theorem b145_59 (sc : zScr) (v1 : Int32) (i : Nat → Nat → Int32) (b : Bool) (l : Nat → Nat → Int64) (h1 : vp_in v1 30) (h2 : vp_in (((30 : Int32) * (i 188 0)) + v1) 900) : zev sc (145, 59, [some (.ref 173), some (.int v1)], [], (197, i, (zRF b), l)) = zev sc (145, 53, [some (.ref 173), some (.int (v1 + 1))], [], (197, (zU i 189 ((((30 : Int32) * (i 188 0)) + v1)).toNatClampNeg (i 187 v1.toNatClampNeg)), (zRF b), l)) := by
  refine (ze_aload_n 60 zm145 dX10_know_59 rfl rfl).trans ?_
  refine (ze_getR 63 zm145 dX10_know_60 f10_56 k173_10 t10_22 (rr173_22 b) rfl).trans ?_
  refine (ze_bipush 65 zm145 dX10_know_63 cb_30 rfl).trans ?_
  refine (ze_aload_n 66 zm145 dX10_know_65 rfl rfl).trans ?_
  refine (ze_getR 69 zm145 dX10_know_66 f10_53 k173_10 t10_21 (rr173_21 b) rfl).trans ?_
  refine (ze_iconst 70 zm145 dX10_know_69 ci_0 rfl).trans ?_
  refine (ze_iaload (t := 0) 71 zm145 dX10_know_70 k188_100 n188 vi_0_3 tn_0 rfl).trans ?_
  refine (ze_imul 72 zm145 dX10_know_71 rfl).trans ?_
  refine (ze_iload_n 73 zm145 dX10_know_72 rfl rfl).trans ?_
  refine (ze_iadd 74 zm145 dX10_know_73 rfl).trans ?_
  refine (ze_aload_n 75 zm145 dX10_know_74 rfl rfl).trans ?_
  refine (ze_getR 78 zm145 dX10_know_75 f10_50 k173_10 t10_20 (rr173_20 b) rfl).trans ?_
  refine (ze_iload_n 79 zm145 dX10_know_78 rfl rfl).trans ?_
  refine (ze_iaload (t := v1.toNatClampNeg) 80 zm145 dX10_know_79 k187_100 n187 h1 rfl rfl).trans ?_
  refine (ze_iastore (t := ((((30 : Int32) * (i 188 0)) + v1)).toNatClampNeg) 81 zm145 dX10_know_80 k189_100 n189 h2 rfl rfl).trans ?_
  refine (ze_iinc (v := (1 : Int32)) (A := 99) (ls' := [some (.ref 173), some (.int (v1 + 1))]) 84 zm145 dX10_know_81 rfl ci_1 za145 rfl rfl rfl rfl rfl).trans ?_
  exact ze_goto 53 zm145 dX10_know_84 (by decide)
theorem b145_87 (sc : zScr) (v1 : Int32) (i : Nat → Nat → Int32) (b : Bool) (l : Nat → Nat → Int64) : zev sc (145, 87, [some (.ref 173), some (.int v1)], [], (197, i, (zRF b), l)) = some (.null, (197, (zU i 188 0 ((i 188 0) + (1 : Int32))), (zRF b), l)) := by
  refine (ze_aload_n 88 zm145 dX10_know_87 rfl rfl).trans ?_
  refine (ze_getR 91 zm145 dX10_know_88 f10_53 k173_10 t10_21 (rr173_21 b) rfl).trans ?_
  refine (ze_iconst 92 zm145 dX10_know_91 ci_0 rfl).trans ?_
  refine (ze_dup2 93 zm145 dX10_know_92 rfl rfl rfl).trans ?_
  refine (ze_iaload (t := 0) 94 zm145 dX10_know_93 k188_100 n188 vi_0_3 tn_0 rfl).trans ?_
  refine (ze_iconst 95 zm145 dX10_know_94 ci_1 rfl).trans ?_
  refine (ze_iadd 96 zm145 dX10_know_95 rfl).trans ?_
  refine (ze_iastore (t := 0) 97 zm145 dX10_know_96 k188_100 n188 vi_0_3 tn_0 rfl).trans ?_
  exact ze_return zm145 dX10_know_97 rfl
/-! HarpFencesModel.sing (I)V: method 146 -/
theorem b146_0 (sc : zScr) (v1 : Int32) (i : Nat → Nat → Int32) (b : Bool) (l : Nat → Nat → Int64) : zev sc (146, 0, [some (.ref 173), some (.int v1), none], [], (197, i, (zRF b), l)) = if (i 187 17) = (12 : Int32) then zev sc (146, 12, [some (.ref 173), some (.int v1), none], [], (197, i, (zRF b), l)) else zev sc (146, 59, [some (.ref 173), some (.int v1), none], [], (197, i, (zRF b), l)) := by
  refine (ze_aload_n 1 zm146 dX10_sing_0 rfl rfl).trans ?_
  refine (ze_getR 4 zm146 dX10_sing_1 f10_50 k173_10 t10_20 (rr173_20 b) rfl).trans ?_
  refine (ze_bipush 6 zm146 dX10_sing_4 cb_17 rfl).trans ?_
  refine (ze_iaload (t := 17) 7 zm146 dX10_sing_6 k187_100 n187 vi_17_30 tn_17 rfl).trans ?_
  refine (ze_bipush 9 zm146 dX10_sing_7 cb_12 rfl).trans ?_
  exact ze_icmp_ne 59 12 zm146 dX10_sing_9 (by decide) rfl
theorem b146_12 (sc : zScr) (v1 : Int32) (i : Nat → Nat → Int32) (b : Bool) (l : Nat → Nat → Int64) : zev sc (146, 12, [some (.ref 173), some (.int v1), none], [], (197, i, (zRF b), l)) = zev sc (146, 14, [some (.ref 173), some (.int v1), some (.int (0 : Int32))], [], (197, i, (zRF b), l)) := by
  refine (ze_iconst 13 zm146 dX10_sing_12 ci_0 rfl).trans ?_
  refine (ze_istore_n (A := 99) (ls' := [some (.ref 173), some (.int v1), some (.int (0 : Int32))]) 14 zm146 dX10_sing_13 za146 rfl rfl rfl rfl rfl).trans ?_
  rfl
theorem b146_14 (sc : zScr) (v1 : Int32) (v2 : Int32) (i : Nat → Nat → Int32) (b : Bool) (l : Nat → Nat → Int64) : zev sc (146, 14, [some (.ref 173), some (.int v1), some (.int v2)], [], (197, i, (zRF b), l)) = if (12 : Int32) ≤ (v2 + (1 : Int32)) then zev sc (146, 48, [some (.ref 173), some (.int v1), some (.int v2)], [], (197, i, (zRF b), l)) else zev sc (146, 22, [some (.ref 173), some (.int v1), some (.int v2)], [], (197, i, (zRF b), l)) := by
  refine (ze_iload_n 15 zm146 dX10_sing_14 rfl rfl).trans ?_
  refine (ze_iconst 16 zm146 dX10_sing_15 ci_1 rfl).trans ?_
  refine (ze_iadd 17 zm146 dX10_sing_16 rfl).trans ?_
  refine (ze_bipush 19 zm146 dX10_sing_17 cb_12 rfl).trans ?_
  exact ze_icmp_ge 48 22 zm146 dX10_sing_19 (by decide) rfl
theorem b146_22 (sc : zScr) (v1 : Int32) (v2 : Int32) (i : Nat → Nat → Int32) (b : Bool) (l : Nat → Nat → Int64) (h1 : vp_in (((18 : Int32) + v2) + (1 : Int32)) 30) (h2 : vp_in ((18 : Int32) + v2) 30) : zev sc (146, 22, [some (.ref 173), some (.int v1), some (.int v2)], [], (197, i, (zRF b), l)) = zev sc (146, 14, [some (.ref 173), some (.int v1), some (.int (v2 + 1))], [], (197, (zU i 187 (((18 : Int32) + v2)).toNatClampNeg (i 187 ((((18 : Int32) + v2) + (1 : Int32))).toNatClampNeg)), (zRF b), l)) := by
  refine (ze_aload_n 23 zm146 dX10_sing_22 rfl rfl).trans ?_
  refine (ze_getR 26 zm146 dX10_sing_23 f10_50 k173_10 t10_20 (rr173_20 b) rfl).trans ?_
  refine (ze_bipush 28 zm146 dX10_sing_26 cb_18 rfl).trans ?_
  refine (ze_iload_n 29 zm146 dX10_sing_28 rfl rfl).trans ?_
  refine (ze_iadd 30 zm146 dX10_sing_29 rfl).trans ?_
  refine (ze_aload_n 31 zm146 dX10_sing_30 rfl rfl).trans ?_
  refine (ze_getR 34 zm146 dX10_sing_31 f10_50 k173_10 t10_20 (rr173_20 b) rfl).trans ?_
  refine (ze_bipush 36 zm146 dX10_sing_34 cb_18 rfl).trans ?_
  refine (ze_iload_n 37 zm146 dX10_sing_36 rfl rfl).trans ?_
  refine (ze_iadd 38 zm146 dX10_sing_37 rfl).trans ?_
  refine (ze_iconst 39 zm146 dX10_sing_38 ci_1 rfl).trans ?_
  refine (ze_iadd 40 zm146 dX10_sing_39 rfl).trans ?_
  refine (ze_iaload (t := ((((18 : Int32) + v2) + (1 : Int32))).toNatClampNeg) 41 zm146 dX10_sing_40 k187_100 n187 h1 rfl rfl).trans ?_
  refine (ze_iastore (t := (((18 : Int32) + v2)).toNatClampNeg) 42 zm146 dX10_sing_41 k187_100 n187 h2 rfl rfl).trans ?_
  refine (ze_iinc (v := (1 : Int32)) (A := 99) (ls' := [some (.ref 173), some (.int v1), some (.int (v2 + 1))]) 45 zm146 dX10_sing_42 rfl ci_1 za146 rfl rfl rfl rfl rfl).trans ?_
  exact ze_goto 14 zm146 dX10_sing_45 (by decide)
theorem b146_48 (sc : zScr) (v1 : Int32) (v2 : Int32) (i : Nat → Nat → Int32) (b : Bool) (l : Nat → Nat → Int64) : zev sc (146, 48, [some (.ref 173), some (.int v1), some (.int v2)], [], (197, i, (zRF b), l)) = zev sc (146, 59, [some (.ref 173), some (.int v1), some (.int v2)], [], (197, (zU i 187 17 ((i 187 17) - (1 : Int32))), (zRF b), l)) := by
  refine (ze_aload_n 49 zm146 dX10_sing_48 rfl rfl).trans ?_
  refine (ze_getR 52 zm146 dX10_sing_49 f10_50 k173_10 t10_20 (rr173_20 b) rfl).trans ?_
  refine (ze_bipush 54 zm146 dX10_sing_52 cb_17 rfl).trans ?_
  refine (ze_dup2 55 zm146 dX10_sing_54 rfl rfl rfl).trans ?_
  refine (ze_iaload (t := 17) 56 zm146 dX10_sing_55 k187_100 n187 vi_17_30 tn_17 rfl).trans ?_
  refine (ze_iconst 57 zm146 dX10_sing_56 ci_1 rfl).trans ?_
  refine (ze_isub 58 zm146 dX10_sing_57 rfl).trans ?_
  refine (ze_iastore (t := 17) 59 zm146 dX10_sing_58 k187_100 n187 vi_17_30 tn_17 rfl).trans ?_
  rfl
theorem b146_59 (sc : zScr) (v1 : Int32) (w2 : Option Value) (i : Nat → Nat → Int32) (b : Bool) (l : Nat → Nat → Int64) (h1 : vp_in ((18 : Int32) + (i 187 17)) 30) : zev sc (146, 59, [some (.ref 173), some (.int v1), w2], [], (197, i, (zRF b), l)) = some (.null, (197, (zU (zU i 187 (((18 : Int32) + (i 187 17))).toNatClampNeg v1) 187 17 (((zU i 187 (((18 : Int32) + (i 187 17))).toNatClampNeg v1) 187 17) + (1 : Int32))), (zRF b), l)) := by
  refine (ze_aload_n 60 zm146 dX10_sing_59 rfl rfl).trans ?_
  refine (ze_getR 63 zm146 dX10_sing_60 f10_50 k173_10 t10_20 (rr173_20 b) rfl).trans ?_
  refine (ze_bipush 65 zm146 dX10_sing_63 cb_18 rfl).trans ?_
  refine (ze_aload_n 66 zm146 dX10_sing_65 rfl rfl).trans ?_
  refine (ze_getR 69 zm146 dX10_sing_66 f10_50 k173_10 t10_20 (rr173_20 b) rfl).trans ?_
  refine (ze_bipush 71 zm146 dX10_sing_69 cb_17 rfl).trans ?_
  refine (ze_iaload (t := 17) 72 zm146 dX10_sing_71 k187_100 n187 vi_17_30 tn_17 rfl).trans ?_
  refine (ze_iadd 73 zm146 dX10_sing_72 rfl).trans ?_
  refine (ze_iload_n 74 zm146 dX10_sing_73 rfl rfl).trans ?_
  refine (ze_iastore (t := (((18 : Int32) + (i 187 17))).toNatClampNeg) 75 zm146 dX10_sing_74 k187_100 n187 h1 rfl rfl).trans ?_
  refine (ze_aload_n 76 zm146 dX10_sing_75 rfl rfl).trans ?_
  refine (ze_getR 79 zm146 dX10_sing_76 f10_50 k173_10 t10_20 (rr173_20 b) rfl).trans ?_
  refine (ze_bipush 81 zm146 dX10_sing_79 cb_17 rfl).trans ?_
  refine (ze_dup2 82 zm146 dX10_sing_81 rfl rfl rfl).trans ?_
  refine (ze_iaload (t := 17) 83 zm146 dX10_sing_82 k187_100 n187 vi_17_30 tn_17 rfl).trans ?_
  refine (ze_iconst 84 zm146 dX10_sing_83 ci_1 rfl).trans ?_
  refine (ze_iadd 85 zm146 dX10_sing_84 rfl).trans ?_
  refine (ze_iastore (t := 17) 86 zm146 dX10_sing_85 k187_100 n187 vi_17_30 tn_17 rfl).trans ?_
  exact ze_return zm146 dX10_sing_86 rfl
/-! HarpFencesModel.goes (II)I: method 147 -/
theorem b147_0 (sc : zScr) (v1 : Int32) (v2 : Int32) (i : Nat → Nat → Int32) (b : Bool) (l : Nat → Nat → Int64) : zev sc (147, 0, [some (.ref 173), some (.int v1), some (.int v2), none], [], (197, i, (zRF b), l)) = (zev sc (134, 0, [some (.ref 173), some (.int v1)], [], (197, i, (zRF b), l))).bind (fun x => zev sc (147, 5, [some (.ref 173), some (.int v1), some (.int v2), none], [x.1], x.2)) := by
  refine (ze_aload_n 1 zm147 dX10_goes_0 rfl rfl).trans ?_
  refine (ze_iload_n 2 zm147 dX10_goes_1 rfl rfl).trans ?_
  exact ze_virtI (as := [.int v1]) (rest := []) 5 zm147 dX10_goes_2 r10_149 zm134 rfl rfl k173_10 rfl rfl rfl rfl
theorem b147_5 (sc : zScr) (v1 : Int32) (v2 : Int32) (s0 : Int32) (i : Nat → Nat → Int32) (b : Bool) (l : Nat → Nat → Int64) : zev sc (147, 5, [some (.ref 173), some (.int v1), some (.int v2), none], [.int s0], (197, i, (zRF b), l)) = if s0 = 0 then zev sc (147, 16, [some (.ref 173), some (.int v1), some (.int v2), none], [], (197, i, (zRF b), l)) else zev sc (147, 8, [some (.ref 173), some (.int v1), some (.int v2), none], [], (197, i, (zRF b), l)) := by
  exact ze_if_eq 16 8 zm147 dX10_goes_5 (by decide) rfl
theorem b147_8 (sc : zScr) (v1 : Int32) (v2 : Int32) (i : Nat → Nat → Int32) (b : Bool) (l : Nat → Nat → Int64) : zev sc (147, 8, [some (.ref 173), some (.int v1), some (.int v2), none], [], (197, i, (zRF b), l)) = (zev sc (132, 0, [some (.ref 173), some (.int v2)], [], (197, i, (zRF b), l))).bind (fun x => zev sc (147, 13, [some (.ref 173), some (.int v1), some (.int v2), none], [x.1], x.2)) := by
  refine (ze_aload_n 9 zm147 dX10_goes_8 rfl rfl).trans ?_
  refine (ze_iload_n 10 zm147 dX10_goes_9 rfl rfl).trans ?_
  exact ze_virtI (as := [.int v2]) (rest := []) 13 zm147 dX10_goes_10 r10_141 zm132 rfl rfl k173_10 rfl rfl rfl rfl
theorem b147_13 (sc : zScr) (v1 : Int32) (v2 : Int32) (s0 : Int32) (i : Nat → Nat → Int32) (b : Bool) (l : Nat → Nat → Int64) : zev sc (147, 13, [some (.ref 173), some (.int v1), some (.int v2), none], [.int s0], (197, i, (zRF b), l)) = if s0 = 0 then zev sc (147, 16, [some (.ref 173), some (.int v1), some (.int v2), none], [], (197, i, (zRF b), l)) else zev sc (147, 18, [some (.ref 173), some (.int v1), some (.int v2), none], [], (197, i, (zRF b), l)) := by
  exact ze_if_ne 18 16 zm147 dX10_goes_13 (by decide) rfl
theorem b147_16 (sc : zScr) (v1 : Int32) (v2 : Int32) (i : Nat → Nat → Int32) (b : Bool) (l : Nat → Nat → Int64) : zev sc (147, 16, [some (.ref 173), some (.int v1), some (.int v2), none], [], (197, i, (zRF b), l)) = some (.int (-1 : Int32), (197, i, (zRF b), l)) := by
  refine (ze_iconst 17 zm147 dX10_goes_16 ci_m1 rfl).trans ?_
  exact ze_ireturn zm147 dX10_goes_17 rfl
theorem b147_18 (sc : zScr) (v1 : Int32) (v2 : Int32) (i : Nat → Nat → Int32) (b : Bool) (l : Nat → Nat → Int64) (h1 : vp_in ((0 : Int32) + v1) 30) : zev sc (147, 18, [some (.ref 173), some (.int v1), some (.int v2), none], [], (197, i, (zRF b), l)) = (zev sc (136, 0, [some (.ref 173), some (.int v2), some (.int (i 187 (((0 : Int32) + v1)).toNatClampNeg))], [], (197, i, (zRF b), l))).bind (fun x => zev sc (147, 31, [some (.ref 173), some (.int v1), some (.int v2), none], [x.1], x.2)) := by
  refine (ze_aload_n 19 zm147 dX10_goes_18 rfl rfl).trans ?_
  refine (ze_iload_n 20 zm147 dX10_goes_19 rfl rfl).trans ?_
  refine (ze_aload_n 21 zm147 dX10_goes_20 rfl rfl).trans ?_
  refine (ze_getR 24 zm147 dX10_goes_21 f10_50 k173_10 t10_20 (rr173_20 b) rfl).trans ?_
  refine (ze_iconst 25 zm147 dX10_goes_24 ci_0 rfl).trans ?_
  refine (ze_iload_n 26 zm147 dX10_goes_25 rfl rfl).trans ?_
  refine (ze_iadd 27 zm147 dX10_goes_26 rfl).trans ?_
  refine (ze_iaload (t := (((0 : Int32) + v1)).toNatClampNeg) 28 zm147 dX10_goes_27 k187_100 n187 h1 rfl rfl).trans ?_
  exact ze_virtI (as := [.int v2, .int (i 187 (((0 : Int32) + v1)).toNatClampNeg)]) (rest := []) 31 zm147 dX10_goes_28 r10_155 zm136 rfl rfl k173_10 rfl rfl rfl rfl
theorem b147_31 (sc : zScr) (v1 : Int32) (v2 : Int32) (s0 : Int32) (i : Nat → Nat → Int32) (b : Bool) (l : Nat → Nat → Int64) : zev sc (147, 31, [some (.ref 173), some (.int v1), some (.int v2), none], [.int s0], (197, i, (zRF b), l)) = if s0 = 0 then zev sc (147, 34, [some (.ref 173), some (.int v1), some (.int v2), none], [], (197, i, (zRF b), l)) else zev sc (147, 37, [some (.ref 173), some (.int v1), some (.int v2), none], [], (197, i, (zRF b), l)) := by
  exact ze_if_ne 37 34 zm147 dX10_goes_31 (by decide) rfl
theorem b147_34 (sc : zScr) (v1 : Int32) (v2 : Int32) (i : Nat → Nat → Int32) (b : Bool) (l : Nat → Nat → Int64) : zev sc (147, 34, [some (.ref 173), some (.int v1), some (.int v2), none], [], (197, i, (zRF b), l)) = some (.int (-2 : Int32), (197, i, (zRF b), l)) := by
  refine (ze_bipush 36 zm147 dX10_goes_34 cb_m2 rfl).trans ?_
  exact ze_ireturn zm147 dX10_goes_36 rfl
theorem b147_37 (sc : zScr) (v1 : Int32) (v2 : Int32) (i : Nat → Nat → Int32) (b : Bool) (l : Nat → Nat → Int64) : zev sc (147, 37, [some (.ref 173), some (.int v1), some (.int v2), none], [], (197, i, (zRF b), l)) = (zev sc (145, 0, [some (.ref 173), none], [], (197, i, (zRF b), l))).bind (fun x => zev sc (147, 41, [some (.ref 173), some (.int v1), some (.int v2), none], [], x.2)) := by
  refine (ze_aload_n 38 zm147 dX10_goes_37 rfl rfl).trans ?_
  exact ze_virtV (as := []) (rest := []) 41 zm147 dX10_goes_38 r10_158 zm145 rfl rfl k173_10 rfl rfl rfl rfl
theorem b147_41 (sc : zScr) (v1 : Int32) (v2 : Int32) (i : Nat → Nat → Int32) (b : Bool) (l : Nat → Nat → Int64) (h1 : vp_in v1 12) : zev sc (147, 41, [some (.ref 173), some (.int v1), some (.int v2), none], [], (197, i, (zRF b), l)) = (zev sc (135, 0, [some (.ref 173), some (.int (i 184 v1.toNatClampNeg)), some (.int v2), none], [], (197, i, (zRF b), l))).bind (fun x => zev sc (147, 52, [some (.ref 173), some (.int v1), some (.int v2), none], [x.1], x.2)) := by
  refine (ze_aload_n 42 zm147 dX10_goes_41 rfl rfl).trans ?_
  refine (ze_aload_n 43 zm147 dX10_goes_42 rfl rfl).trans ?_
  refine (ze_getR 46 zm147 dX10_goes_43 f10_41 k173_10 t10_11 (rr173_11 b) rfl).trans ?_
  refine (ze_iload_n 47 zm147 dX10_goes_46 rfl rfl).trans ?_
  refine (ze_iaload (t := v1.toNatClampNeg) 48 zm147 dX10_goes_47 k184_100 n184 h1 rfl rfl).trans ?_
  refine (ze_iload_n 49 zm147 dX10_goes_48 rfl rfl).trans ?_
  exact ze_virtI (as := [.int (i 184 v1.toNatClampNeg), .int v2]) (rest := []) 52 zm147 dX10_goes_49 r10_152 zm135 rfl rfl k173_10 rfl rfl rfl rfl
theorem b147_52 (sc : zScr) (v1 : Int32) (v2 : Int32) (s0 : Int32) (i : Nat → Nat → Int32) (b : Bool) (l : Nat → Nat → Int64) (h1 : vp_in ((0 : Int32) + v1) 30) : zev sc (147, 52, [some (.ref 173), some (.int v1), some (.int v2), none], [.int s0], (197, i, (zRF b), l)) = (zev sc (137, 0, [some (.ref 173), some (.int v2), some (.int (i 187 (((0 : Int32) + v1)).toNatClampNeg))], [], (197, i, (zRF b), l))).bind (fun x => zev sc (147, 73, [some (.ref 173), some (.int v1), some (.int v2), some (.int s0)], [x.1, .int ((0 : Int32) + v1), .ref 187], x.2)) := by
  refine (ze_istore_n (A := 99) (ls' := [some (.ref 173), some (.int v1), some (.int v2), some (.int s0)]) 53 zm147 dX10_goes_52 za147 rfl rfl rfl rfl rfl).trans ?_
  refine (ze_aload_n 54 zm147 dX10_goes_53 rfl rfl).trans ?_
  refine (ze_getR 57 zm147 dX10_goes_54 f10_50 k173_10 t10_20 (rr173_20 b) rfl).trans ?_
  refine (ze_iconst 58 zm147 dX10_goes_57 ci_0 rfl).trans ?_
  refine (ze_iload_n 59 zm147 dX10_goes_58 rfl rfl).trans ?_
  refine (ze_iadd 60 zm147 dX10_goes_59 rfl).trans ?_
  refine (ze_aload_n 61 zm147 dX10_goes_60 rfl rfl).trans ?_
  refine (ze_iload_n 62 zm147 dX10_goes_61 rfl rfl).trans ?_
  refine (ze_aload_n 63 zm147 dX10_goes_62 rfl rfl).trans ?_
  refine (ze_getR 66 zm147 dX10_goes_63 f10_50 k173_10 t10_20 (rr173_20 b) rfl).trans ?_
  refine (ze_iconst 67 zm147 dX10_goes_66 ci_0 rfl).trans ?_
  refine (ze_iload_n 68 zm147 dX10_goes_67 rfl rfl).trans ?_
  refine (ze_iadd 69 zm147 dX10_goes_68 rfl).trans ?_
  refine (ze_iaload (t := (((0 : Int32) + v1)).toNatClampNeg) 70 zm147 dX10_goes_69 k187_100 n187 h1 rfl rfl).trans ?_
  exact ze_virtI (as := [.int v2, .int (i 187 (((0 : Int32) + v1)).toNatClampNeg)]) (rest := [.int ((0 : Int32) + v1), .ref 187]) 73 zm147 dX10_goes_70 r10_161 zm137 rfl rfl k173_10 rfl rfl rfl rfl
theorem b147_73 (sc : zScr) (v1 : Int32) (v2 : Int32) (v3 : Int32) (s0 : Int32) (s1 : Int32) (i : Nat → Nat → Int32) (b : Bool) (l : Nat → Nat → Int64) (h1 : vp_in s1 30) : zev sc (147, 73, [some (.ref 173), some (.int v1), some (.int v2), some (.int v3)], [.int s0, .int s1, .ref 187], (197, i, (zRF b), l)) = if v3 ≤ 0 then zev sc (147, 83, [some (.ref 173), some (.int v1), some (.int v2), some (.int v3)], [], (197, (zU i 187 s1.toNatClampNeg s0), (zRF b), l)) else zev sc (147, 78, [some (.ref 173), some (.int v1), some (.int v2), some (.int v3)], [], (197, (zU i 187 s1.toNatClampNeg s0), (zRF b), l)) := by
  refine (ze_iastore (t := s1.toNatClampNeg) 74 zm147 dX10_goes_73 k187_100 n187 h1 rfl rfl).trans ?_
  refine (ze_iload_n 75 zm147 dX10_goes_74 rfl rfl).trans ?_
  exact ze_if_le 83 78 zm147 dX10_goes_75 (by decide) rfl
theorem b147_78 (sc : zScr) (v1 : Int32) (v2 : Int32) (v3 : Int32) (i : Nat → Nat → Int32) (b : Bool) (l : Nat → Nat → Int64) : zev sc (147, 78, [some (.ref 173), some (.int v1), some (.int v2), some (.int v3)], [], (197, i, (zRF b), l)) = (zev sc (146, 0, [some (.ref 173), some (.int v3), none], [], (197, i, (zRF b), l))).bind (fun x => zev sc (147, 83, [some (.ref 173), some (.int v1), some (.int v2), some (.int v3)], [], x.2)) := by
  refine (ze_aload_n 79 zm147 dX10_goes_78 rfl rfl).trans ?_
  refine (ze_iload_n 80 zm147 dX10_goes_79 rfl rfl).trans ?_
  exact ze_virtV (as := [.int v3]) (rest := []) 83 zm147 dX10_goes_80 r10_164 zm146 rfl rfl k173_10 rfl rfl rfl rfl
theorem b147_83 (sc : zScr) (v1 : Int32) (v2 : Int32) (v3 : Int32) (i : Nat → Nat → Int32) (b : Bool) (l : Nat → Nat → Int64) : zev sc (147, 83, [some (.ref 173), some (.int v1), some (.int v2), some (.int v3)], [], (197, i, (zRF b), l)) = some (.int v3, (197, i, (zRF b), l)) := by
  refine (ze_iload_n 84 zm147 dX10_goes_83 rfl rfl).trans ?_
  exact ze_ireturn zm147 dX10_goes_84 rfl
/-! HarpFencesModel.cuts (II)I: method 148 -/
theorem b148_0 (sc : zScr) (v1 : Int32) (v2 : Int32) (i : Nat → Nat → Int32) (b : Bool) (l : Nat → Nat → Int64) : zev sc (148, 0, [some (.ref 173), some (.int v1), some (.int v2)], [], (197, i, (zRF b), l)) = (zev sc (132, 0, [some (.ref 173), some (.int v1)], [], (197, i, (zRF b), l))).bind (fun x => zev sc (148, 5, [some (.ref 173), some (.int v1), some (.int v2)], [x.1], x.2)) := by
  refine (ze_aload_n 1 zm148 dX10_cuts_0 rfl rfl).trans ?_
  refine (ze_iload_n 2 zm148 dX10_cuts_1 rfl rfl).trans ?_
  exact ze_virtI (as := [.int v1]) (rest := []) 5 zm148 dX10_cuts_2 r10_141 zm132 rfl rfl k173_10 rfl rfl rfl rfl
theorem b148_5 (sc : zScr) (v1 : Int32) (v2 : Int32) (s0 : Int32) (i : Nat → Nat → Int32) (b : Bool) (l : Nat → Nat → Int64) : zev sc (148, 5, [some (.ref 173), some (.int v1), some (.int v2)], [.int s0], (197, i, (zRF b), l)) = if s0 = 0 then zev sc (148, 17, [some (.ref 173), some (.int v1), some (.int v2)], [], (197, i, (zRF b), l)) else zev sc (148, 8, [some (.ref 173), some (.int v1), some (.int v2)], [], (197, i, (zRF b), l)) := by
  exact ze_if_eq 17 8 zm148 dX10_cuts_5 (by decide) rfl
theorem b148_8 (sc : zScr) (v1 : Int32) (v2 : Int32) (i : Nat → Nat → Int32) (b : Bool) (l : Nat → Nat → Int64) : zev sc (148, 8, [some (.ref 173), some (.int v1), some (.int v2)], [], (197, i, (zRF b), l)) = (zev sc (119, 0, [some (.int v2), some (.int (0 : Int32)), some (.int (1 : Int32))], [], (197, i, (zRF b), l))).bind (fun x => zev sc (148, 14, [some (.ref 173), some (.int v1), some (.int v2)], [x.1], x.2)) := by
  refine (ze_iload_n 9 zm148 dX10_cuts_8 rfl rfl).trans ?_
  refine (ze_iconst 10 zm148 dX10_cuts_9 ci_0 rfl).trans ?_
  refine (ze_iconst 11 zm148 dX10_cuts_10 ci_1 rfl).trans ?_
  exact ze_statI (as := [.int v2, .int (0 : Int32), .int (1 : Int32)]) (rest := []) 14 zm148 dX10_cuts_11 r10_81 zm119 rfl rfl rfl rfl rfl rfl
theorem b148_14 (sc : zScr) (v1 : Int32) (v2 : Int32) (s0 : Int32) (i : Nat → Nat → Int32) (b : Bool) (l : Nat → Nat → Int64) : zev sc (148, 14, [some (.ref 173), some (.int v1), some (.int v2)], [.int s0], (197, i, (zRF b), l)) = if s0 = 0 then zev sc (148, 17, [some (.ref 173), some (.int v1), some (.int v2)], [], (197, i, (zRF b), l)) else zev sc (148, 19, [some (.ref 173), some (.int v1), some (.int v2)], [], (197, i, (zRF b), l)) := by
  exact ze_if_ne 19 17 zm148 dX10_cuts_14 (by decide) rfl
theorem b148_17 (sc : zScr) (v1 : Int32) (v2 : Int32) (i : Nat → Nat → Int32) (b : Bool) (l : Nat → Nat → Int64) : zev sc (148, 17, [some (.ref 173), some (.int v1), some (.int v2)], [], (197, i, (zRF b), l)) = some (.int (-1 : Int32), (197, i, (zRF b), l)) := by
  refine (ze_iconst 18 zm148 dX10_cuts_17 ci_m1 rfl).trans ?_
  exact ze_ireturn zm148 dX10_cuts_18 rfl
theorem b148_19 (sc : zScr) (v1 : Int32) (v2 : Int32) (i : Nat → Nat → Int32) (b : Bool) (l : Nat → Nat → Int64) : zev sc (148, 19, [some (.ref 173), some (.int v1), some (.int v2)], [], (197, i, (zRF b), l)) = (zev sc (120, 0, [some (.int (i 187 14)), some (.int v1)], [], (197, i, (zRF b), l))).bind (fun x => zev sc (148, 30, [some (.ref 173), some (.int v1), some (.int v2)], [x.1], x.2)) := by
  refine (ze_aload_n 20 zm148 dX10_cuts_19 rfl rfl).trans ?_
  refine (ze_getR 23 zm148 dX10_cuts_20 f10_50 k173_10 t10_20 (rr173_20 b) rfl).trans ?_
  refine (ze_bipush 25 zm148 dX10_cuts_23 cb_14 rfl).trans ?_
  refine (ze_iaload (t := 14) 26 zm148 dX10_cuts_25 k187_100 n187 vi_14_30 tn_14 rfl).trans ?_
  refine (ze_iload_n 27 zm148 dX10_cuts_26 rfl rfl).trans ?_
  exact ze_statI (as := [.int (i 187 14), .int v1]) (rest := []) 30 zm148 dX10_cuts_27 r10_137 zm120 rfl rfl rfl rfl rfl rfl
theorem b148_30 (sc : zScr) (v1 : Int32) (v2 : Int32) (s0 : Int32) (i : Nat → Nat → Int32) (b : Bool) (l : Nat → Nat → Int64) : zev sc (148, 30, [some (.ref 173), some (.int v1), some (.int v2)], [.int s0], (197, i, (zRF b), l)) = if v2 = (1 : Int32) then zev sc (148, 35, [some (.ref 173), some (.int v1), some (.int v2)], [.int s0], (197, i, (zRF b), l)) else zev sc (148, 39, [some (.ref 173), some (.int v1), some (.int v2)], [.int s0], (197, i, (zRF b), l)) := by
  refine (ze_iload_n 31 zm148 dX10_cuts_30 rfl rfl).trans ?_
  refine (ze_iconst 32 zm148 dX10_cuts_31 ci_1 rfl).trans ?_
  exact ze_icmp_ne 39 35 zm148 dX10_cuts_32 (by decide) rfl
theorem b148_35 (sc : zScr) (v1 : Int32) (v2 : Int32) (s0 : Int32) (i : Nat → Nat → Int32) (b : Bool) (l : Nat → Nat → Int64) : zev sc (148, 35, [some (.ref 173), some (.int v1), some (.int v2)], [.int s0], (197, i, (zRF b), l)) = zev sc (148, 40, [some (.ref 173), some (.int v1), some (.int v2)], [.int (1 : Int32), .int s0], (197, i, (zRF b), l)) := by
  refine (ze_iconst 36 zm148 dX10_cuts_35 ci_1 rfl).trans ?_
  exact ze_goto 40 zm148 dX10_cuts_36 (by decide)
theorem b148_39 (sc : zScr) (v1 : Int32) (v2 : Int32) (s0 : Int32) (i : Nat → Nat → Int32) (b : Bool) (l : Nat → Nat → Int64) : zev sc (148, 39, [some (.ref 173), some (.int v1), some (.int v2)], [.int s0], (197, i, (zRF b), l)) = zev sc (148, 40, [some (.ref 173), some (.int v1), some (.int v2)], [.int (0 : Int32), .int s0], (197, i, (zRF b), l)) := by
  refine (ze_iconst 40 zm148 dX10_cuts_39 ci_0 rfl).trans ?_
  rfl
theorem b148_40 (sc : zScr) (v1 : Int32) (v2 : Int32) (s0 : Int32) (s1 : Int32) (i : Nat → Nat → Int32) (b : Bool) (l : Nat → Nat → Int64) : zev sc (148, 40, [some (.ref 173), some (.int v1), some (.int v2)], [.int s0, .int s1], (197, i, (zRF b), l)) = if s1 = s0 then zev sc (148, 43, [some (.ref 173), some (.int v1), some (.int v2)], [], (197, i, (zRF b), l)) else zev sc (148, 46, [some (.ref 173), some (.int v1), some (.int v2)], [], (197, i, (zRF b), l)) := by
  exact ze_icmp_ne 46 43 zm148 dX10_cuts_40 (by decide) rfl
theorem b148_43 (sc : zScr) (v1 : Int32) (v2 : Int32) (i : Nat → Nat → Int32) (b : Bool) (l : Nat → Nat → Int64) : zev sc (148, 43, [some (.ref 173), some (.int v1), some (.int v2)], [], (197, i, (zRF b), l)) = some (.int (-2 : Int32), (197, i, (zRF b), l)) := by
  refine (ze_bipush 45 zm148 dX10_cuts_43 cb_m2 rfl).trans ?_
  exact ze_ireturn zm148 dX10_cuts_45 rfl
theorem b148_46 (sc : zScr) (v1 : Int32) (v2 : Int32) (i : Nat → Nat → Int32) (b : Bool) (l : Nat → Nat → Int64) : zev sc (148, 46, [some (.ref 173), some (.int v1), some (.int v2)], [], (197, i, (zRF b), l)) = (zev sc (145, 0, [some (.ref 173), none], [], (197, i, (zRF b), l))).bind (fun x => zev sc (148, 50, [some (.ref 173), some (.int v1), some (.int v2)], [], x.2)) := by
  refine (ze_aload_n 47 zm148 dX10_cuts_46 rfl rfl).trans ?_
  exact ze_virtV (as := []) (rest := []) 50 zm148 dX10_cuts_47 r10_158 zm145 rfl rfl k173_10 rfl rfl rfl rfl
theorem b148_50 (sc : zScr) (v1 : Int32) (v2 : Int32) (i : Nat → Nat → Int32) (b : Bool) (l : Nat → Nat → Int64) : zev sc (148, 50, [some (.ref 173), some (.int v1), some (.int v2)], [], (197, i, (zRF b), l)) = (zev sc (139, 0, [some (.int ((zU i 187 14 ((i 187 14) ^^^ ((1 : Int32) <<< (v1 &&& 31)))) 187 14)), none, none], [], (197, (zU i 187 14 ((i 187 14) ^^^ ((1 : Int32) <<< (v1 &&& 31)))), (zRF b), l))).bind (fun x => zev sc (148, 73, [some (.ref 173), some (.int v1), some (.int v2)], [x.1], x.2)) := by
  refine (ze_aload_n 51 zm148 dX10_cuts_50 rfl rfl).trans ?_
  refine (ze_getR 54 zm148 dX10_cuts_51 f10_50 k173_10 t10_20 (rr173_20 b) rfl).trans ?_
  refine (ze_bipush 56 zm148 dX10_cuts_54 cb_14 rfl).trans ?_
  refine (ze_dup2 57 zm148 dX10_cuts_56 rfl rfl rfl).trans ?_
  refine (ze_iaload (t := 14) 58 zm148 dX10_cuts_57 k187_100 n187 vi_14_30 tn_14 rfl).trans ?_
  refine (ze_iconst 59 zm148 dX10_cuts_58 ci_1 rfl).trans ?_
  refine (ze_iload_n 60 zm148 dX10_cuts_59 rfl rfl).trans ?_
  refine (ze_ishl 61 zm148 dX10_cuts_60 rfl).trans ?_
  refine (ze_ixor 62 zm148 dX10_cuts_61 rfl).trans ?_
  refine (ze_iastore (t := 14) 63 zm148 dX10_cuts_62 k187_100 n187 vi_14_30 tn_14 rfl).trans ?_
  refine (ze_aload_n 64 zm148 dX10_cuts_63 rfl rfl).trans ?_
  refine (ze_getR 67 zm148 dX10_cuts_64 f10_50 k173_10 t10_20 (rr173_20 b) rfl).trans ?_
  refine (ze_bipush 69 zm148 dX10_cuts_67 cb_14 rfl).trans ?_
  refine (ze_iaload (t := 14) 70 zm148 dX10_cuts_69 k187_100 n187 vi_14_30 tn_14 rfl).trans ?_
  exact ze_statI (as := [.int ((zU i 187 14 ((i 187 14) ^^^ ((1 : Int32) <<< (v1 &&& 31)))) 187 14)]) (rest := []) 73 zm148 dX10_cuts_70 r10_167 zm139 rfl rfl rfl rfl rfl rfl
theorem b148_73 (sc : zScr) (v1 : Int32) (v2 : Int32) (s0 : Int32) (i : Nat → Nat → Int32) (b : Bool) (l : Nat → Nat → Int64) : zev sc (148, 73, [some (.ref 173), some (.int v1), some (.int v2)], [.int s0], (197, i, (zRF b), l)) = some (.int s0, (197, i, (zRF b), l)) := by
  exact ze_ireturn zm148 dX10_cuts_73 rfl
/-! HarpFencesModel.tunes (II)I: method 149 -/
theorem b149_0 (sc : zScr) (v1 : Int32) (v2 : Int32) (i : Nat → Nat → Int32) (b : Bool) (l : Nat → Nat → Int64) : zev sc (149, 0, [some (.ref 173), some (.int v1), some (.int v2), none], [], (197, i, (zRF b), l)) = (zev sc (132, 0, [some (.ref 173), some (.int v1)], [], (197, i, (zRF b), l))).bind (fun x => zev sc (149, 5, [some (.ref 173), some (.int v1), some (.int v2), none], [x.1], x.2)) := by
  refine (ze_aload_n 1 zm149 dX10_tunes_0 rfl rfl).trans ?_
  refine (ze_iload_n 2 zm149 dX10_tunes_1 rfl rfl).trans ?_
  exact ze_virtI (as := [.int v1]) (rest := []) 5 zm149 dX10_tunes_2 r10_141 zm132 rfl rfl k173_10 rfl rfl rfl rfl
theorem b149_5 (sc : zScr) (v1 : Int32) (v2 : Int32) (s0 : Int32) (i : Nat → Nat → Int32) (b : Bool) (l : Nat → Nat → Int64) : zev sc (149, 5, [some (.ref 173), some (.int v1), some (.int v2), none], [.int s0], (197, i, (zRF b), l)) = if s0 = 0 then zev sc (149, 18, [some (.ref 173), some (.int v1), some (.int v2), none], [], (197, i, (zRF b), l)) else zev sc (149, 8, [some (.ref 173), some (.int v1), some (.int v2), none], [], (197, i, (zRF b), l)) := by
  exact ze_if_eq 18 8 zm149 dX10_tunes_5 (by decide) rfl
theorem b149_8 (sc : zScr) (v1 : Int32) (v2 : Int32) (i : Nat → Nat → Int32) (b : Bool) (l : Nat → Nat → Int64) : zev sc (149, 8, [some (.ref 173), some (.int v1), some (.int v2), none], [], (197, i, (zRF b), l)) = (zev sc (119, 0, [some (.int v2), some (.int (1 : Int32)), some (.int (40 : Int32))], [], (197, i, (zRF b), l))).bind (fun x => zev sc (149, 15, [some (.ref 173), some (.int v1), some (.int v2), none], [x.1], x.2)) := by
  refine (ze_iload_n 9 zm149 dX10_tunes_8 rfl rfl).trans ?_
  refine (ze_iconst 10 zm149 dX10_tunes_9 ci_1 rfl).trans ?_
  refine (ze_bipush 12 zm149 dX10_tunes_10 cb_40 rfl).trans ?_
  exact ze_statI (as := [.int v2, .int (1 : Int32), .int (40 : Int32)]) (rest := []) 15 zm149 dX10_tunes_12 r10_81 zm119 rfl rfl rfl rfl rfl rfl
theorem b149_15 (sc : zScr) (v1 : Int32) (v2 : Int32) (s0 : Int32) (i : Nat → Nat → Int32) (b : Bool) (l : Nat → Nat → Int64) : zev sc (149, 15, [some (.ref 173), some (.int v1), some (.int v2), none], [.int s0], (197, i, (zRF b), l)) = if s0 = 0 then zev sc (149, 18, [some (.ref 173), some (.int v1), some (.int v2), none], [], (197, i, (zRF b), l)) else zev sc (149, 20, [some (.ref 173), some (.int v1), some (.int v2), none], [], (197, i, (zRF b), l)) := by
  exact ze_if_ne 20 18 zm149 dX10_tunes_15 (by decide) rfl
theorem b149_18 (sc : zScr) (v1 : Int32) (v2 : Int32) (i : Nat → Nat → Int32) (b : Bool) (l : Nat → Nat → Int64) : zev sc (149, 18, [some (.ref 173), some (.int v1), some (.int v2), none], [], (197, i, (zRF b), l)) = some (.int (-1 : Int32), (197, i, (zRF b), l)) := by
  refine (ze_iconst 19 zm149 dX10_tunes_18 ci_m1 rfl).trans ?_
  exact ze_ireturn zm149 dX10_tunes_19 rfl
theorem b149_20 (sc : zScr) (v1 : Int32) (v2 : Int32) (i : Nat → Nat → Int32) (b : Bool) (l : Nat → Nat → Int64) (h1 : vp_in ((6 : Int32) + v1) 30) : zev sc (149, 20, [some (.ref 173), some (.int v1), some (.int v2), none], [], (197, i, (zRF b), l)) = if (i 187 (((6 : Int32) + v1)).toNatClampNeg) = 0 then zev sc (149, 39, [some (.ref 173), some (.int v1), some (.int v2), some (.int (i 187 (((6 : Int32) + v1)).toNatClampNeg))], [], (197, i, (zRF b), l)) else zev sc (149, 34, [some (.ref 173), some (.int v1), some (.int v2), some (.int (i 187 (((6 : Int32) + v1)).toNatClampNeg))], [], (197, i, (zRF b), l)) := by
  refine (ze_aload_n 21 zm149 dX10_tunes_20 rfl rfl).trans ?_
  refine (ze_getR 24 zm149 dX10_tunes_21 f10_50 k173_10 t10_20 (rr173_20 b) rfl).trans ?_
  refine (ze_bipush 26 zm149 dX10_tunes_24 cb_6 rfl).trans ?_
  refine (ze_iload_n 27 zm149 dX10_tunes_26 rfl rfl).trans ?_
  refine (ze_iadd 28 zm149 dX10_tunes_27 rfl).trans ?_
  refine (ze_iaload (t := (((6 : Int32) + v1)).toNatClampNeg) 29 zm149 dX10_tunes_28 k187_100 n187 h1 rfl rfl).trans ?_
  refine (ze_istore_n (A := 99) (ls' := [some (.ref 173), some (.int v1), some (.int v2), some (.int (i 187 (((6 : Int32) + v1)).toNatClampNeg))]) 30 zm149 dX10_tunes_29 za149 rfl rfl rfl rfl rfl).trans ?_
  refine (ze_iload_n 31 zm149 dX10_tunes_30 rfl rfl).trans ?_
  exact ze_if_eq 39 34 zm149 dX10_tunes_31 (by decide) rfl
theorem b149_34 (sc : zScr) (v1 : Int32) (v2 : Int32) (v3 : Int32) (i : Nat → Nat → Int32) (b : Bool) (l : Nat → Nat → Int64) : zev sc (149, 34, [some (.ref 173), some (.int v1), some (.int v2), some (.int v3)], [], (197, i, (zRF b), l)) = if v3 = v2 then zev sc (149, 39, [some (.ref 173), some (.int v1), some (.int v2), some (.int v3)], [], (197, i, (zRF b), l)) else zev sc (149, 42, [some (.ref 173), some (.int v1), some (.int v2), some (.int v3)], [], (197, i, (zRF b), l)) := by
  refine (ze_iload_n 35 zm149 dX10_tunes_34 rfl rfl).trans ?_
  refine (ze_iload_n 36 zm149 dX10_tunes_35 rfl rfl).trans ?_
  exact ze_icmp_ne 42 39 zm149 dX10_tunes_36 (by decide) rfl
theorem b149_39 (sc : zScr) (v1 : Int32) (v2 : Int32) (v3 : Int32) (i : Nat → Nat → Int32) (b : Bool) (l : Nat → Nat → Int64) : zev sc (149, 39, [some (.ref 173), some (.int v1), some (.int v2), some (.int v3)], [], (197, i, (zRF b), l)) = some (.int (-2 : Int32), (197, i, (zRF b), l)) := by
  refine (ze_bipush 41 zm149 dX10_tunes_39 cb_m2 rfl).trans ?_
  exact ze_ireturn zm149 dX10_tunes_41 rfl
theorem b149_42 (sc : zScr) (v1 : Int32) (v2 : Int32) (v3 : Int32) (i : Nat → Nat → Int32) (b : Bool) (l : Nat → Nat → Int64) : zev sc (149, 42, [some (.ref 173), some (.int v1), some (.int v2), some (.int v3)], [], (197, i, (zRF b), l)) = (zev sc (145, 0, [some (.ref 173), none], [], (197, i, (zRF b), l))).bind (fun x => zev sc (149, 46, [some (.ref 173), some (.int v1), some (.int v2), some (.int v3)], [], x.2)) := by
  refine (ze_aload_n 43 zm149 dX10_tunes_42 rfl rfl).trans ?_
  exact ze_virtV (as := []) (rest := []) 46 zm149 dX10_tunes_43 r10_158 zm145 rfl rfl k173_10 rfl rfl rfl rfl
theorem b149_46 (sc : zScr) (v1 : Int32) (v2 : Int32) (v3 : Int32) (i : Nat → Nat → Int32) (b : Bool) (l : Nat → Nat → Int64) (h1 : vp_in ((6 : Int32) + v1) 30) : zev sc (149, 46, [some (.ref 173), some (.int v1), some (.int v2), some (.int v3)], [], (197, i, (zRF b), l)) = some (.int v3, (197, (zU i 187 (((6 : Int32) + v1)).toNatClampNeg v2), (zRF b), l)) := by
  refine (ze_aload_n 47 zm149 dX10_tunes_46 rfl rfl).trans ?_
  refine (ze_getR 50 zm149 dX10_tunes_47 f10_50 k173_10 t10_20 (rr173_20 b) rfl).trans ?_
  refine (ze_bipush 52 zm149 dX10_tunes_50 cb_6 rfl).trans ?_
  refine (ze_iload_n 53 zm149 dX10_tunes_52 rfl rfl).trans ?_
  refine (ze_iadd 54 zm149 dX10_tunes_53 rfl).trans ?_
  refine (ze_iload_n 55 zm149 dX10_tunes_54 rfl rfl).trans ?_
  refine (ze_iastore (t := (((6 : Int32) + v1)).toNatClampNeg) 56 zm149 dX10_tunes_55 k187_100 n187 h1 rfl rfl).trans ?_
  refine (ze_iload_n 57 zm149 dX10_tunes_56 rfl rfl).trans ?_
  exact ze_ireturn zm149 dX10_tunes_57 rfl
/-! HarpFencesModel.lays (I)I: method 150 -/
theorem b150_0 (sc : zScr) (v1 : Int32) (i : Nat → Nat → Int32) (b : Bool) (l : Nat → Nat → Int64) : zev sc (150, 0, [some (.ref 173), some (.int v1), none], [], (197, i, (zRF b), l)) = (zev sc (119, 0, [some (.int v1), some (.int (0 : Int32)), some (.int (1 : Int32))], [], (197, i, (zRF b), l))).bind (fun x => zev sc (150, 6, [some (.ref 173), some (.int v1), none], [x.1], x.2)) := by
  refine (ze_iload_n 1 zm150 dX10_lays_0 rfl rfl).trans ?_
  refine (ze_iconst 2 zm150 dX10_lays_1 ci_0 rfl).trans ?_
  refine (ze_iconst 3 zm150 dX10_lays_2 ci_1 rfl).trans ?_
  exact ze_statI (as := [.int v1, .int (0 : Int32), .int (1 : Int32)]) (rest := []) 6 zm150 dX10_lays_3 r10_81 zm119 rfl rfl rfl rfl rfl rfl
theorem b150_6 (sc : zScr) (v1 : Int32) (s0 : Int32) (i : Nat → Nat → Int32) (b : Bool) (l : Nat → Nat → Int64) : zev sc (150, 6, [some (.ref 173), some (.int v1), none], [.int s0], (197, i, (zRF b), l)) = if s0 = 0 then zev sc (150, 9, [some (.ref 173), some (.int v1), none], [], (197, i, (zRF b), l)) else zev sc (150, 11, [some (.ref 173), some (.int v1), none], [], (197, i, (zRF b), l)) := by
  exact ze_if_ne 11 9 zm150 dX10_lays_6 (by decide) rfl
theorem b150_9 (sc : zScr) (v1 : Int32) (i : Nat → Nat → Int32) (b : Bool) (l : Nat → Nat → Int64) : zev sc (150, 9, [some (.ref 173), some (.int v1), none], [], (197, i, (zRF b), l)) = some (.int (-1 : Int32), (197, i, (zRF b), l)) := by
  refine (ze_iconst 10 zm150 dX10_lays_9 ci_m1 rfl).trans ?_
  exact ze_ireturn zm150 dX10_lays_10 rfl
theorem b150_11 (sc : zScr) (v1 : Int32) (i : Nat → Nat → Int32) (b : Bool) (l : Nat → Nat → Int64) : zev sc (150, 11, [some (.ref 173), some (.int v1), none], [], (197, i, (zRF b), l)) = (zev sc (145, 0, [some (.ref 173), none], [], (197, i, (zRF b), l))).bind (fun x => zev sc (150, 15, [some (.ref 173), some (.int v1), none], [], x.2)) := by
  refine (ze_aload_n 12 zm150 dX10_lays_11 rfl rfl).trans ?_
  exact ze_virtV (as := []) (rest := []) 15 zm150 dX10_lays_12 r10_158 zm145 rfl rfl k173_10 rfl rfl rfl rfl
theorem b150_15 (sc : zScr) (v1 : Int32) (i : Nat → Nat → Int32) (b : Bool) (l : Nat → Nat → Int64) : zev sc (150, 15, [some (.ref 173), some (.int v1), none], [], (197, i, (zRF b), l)) = if v1 = (1 : Int32) then zev sc (150, 34, [some (.ref 173), some (.int v1), some (.int (i 187 15))], [.int (15 : Int32), .ref 187], (197, i, (zRF b), l)) else zev sc (150, 46, [some (.ref 173), some (.int v1), some (.int (i 187 15))], [.int (15 : Int32), .ref 187], (197, i, (zRF b), l)) := by
  refine (ze_aload_n 16 zm150 dX10_lays_15 rfl rfl).trans ?_
  refine (ze_getR 19 zm150 dX10_lays_16 f10_50 k173_10 t10_20 (rr173_20 b) rfl).trans ?_
  refine (ze_bipush 21 zm150 dX10_lays_19 cb_15 rfl).trans ?_
  refine (ze_iaload (t := 15) 22 zm150 dX10_lays_21 k187_100 n187 vi_15_30 tn_15 rfl).trans ?_
  refine (ze_istore_n (A := 99) (ls' := [some (.ref 173), some (.int v1), some (.int (i 187 15))]) 23 zm150 dX10_lays_22 za150 rfl rfl rfl rfl rfl).trans ?_
  refine (ze_aload_n 24 zm150 dX10_lays_23 rfl rfl).trans ?_
  refine (ze_getR 27 zm150 dX10_lays_24 f10_50 k173_10 t10_20 (rr173_20 b) rfl).trans ?_
  refine (ze_bipush 29 zm150 dX10_lays_27 cb_15 rfl).trans ?_
  refine (ze_iload_n 30 zm150 dX10_lays_29 rfl rfl).trans ?_
  refine (ze_iconst 31 zm150 dX10_lays_30 ci_1 rfl).trans ?_
  exact ze_icmp_ne 46 34 zm150 dX10_lays_31 (by decide) rfl
theorem b150_34 (sc : zScr) (v1 : Int32) (v2 : Int32) (s0 : Int32) (i : Nat → Nat → Int32) (b : Bool) (l : Nat → Nat → Int64) : zev sc (150, 34, [some (.ref 173), some (.int v1), some (.int v2)], [.int s0, .ref 187], (197, i, (zRF b), l)) = (zev sc (140, 0, [some (.int (i 176 0))], [], (197, i, (zRF b), l))).bind (fun x => zev sc (150, 43, [some (.ref 173), some (.int v1), some (.int v2)], [x.1, .int s0, .ref 187], x.2)) := by
  refine (ze_aload_n 35 zm150 dX10_lays_34 rfl rfl).trans ?_
  refine (ze_getR 38 zm150 dX10_lays_35 f10_17 k173_10 t10_3 (rr173_3 b) rfl).trans ?_
  refine (ze_iconst 39 zm150 dX10_lays_38 ci_0 rfl).trans ?_
  refine (ze_iaload (t := 0) 40 zm150 dX10_lays_39 k176_100 n176 vi_0_2 tn_0 rfl).trans ?_
  exact ze_statI (as := [.int (i 176 0)]) (rest := [.int s0, .ref 187]) 43 zm150 dX10_lays_40 r10_171 zm140 rfl rfl rfl rfl rfl rfl
theorem b150_43 (sc : zScr) (v1 : Int32) (v2 : Int32) (s0 : Int32) (s1 : Int32) (i : Nat → Nat → Int32) (b : Bool) (l : Nat → Nat → Int64) : zev sc (150, 43, [some (.ref 173), some (.int v1), some (.int v2)], [.int s0, .int s1, .ref 187], (197, i, (zRF b), l)) = zev sc (150, 47, [some (.ref 173), some (.int v1), some (.int v2)], [.int s0, .int s1, .ref 187], (197, i, (zRF b), l)) := by
  exact ze_goto 47 zm150 dX10_lays_43 (by decide)
theorem b150_46 (sc : zScr) (v1 : Int32) (v2 : Int32) (s0 : Int32) (i : Nat → Nat → Int32) (b : Bool) (l : Nat → Nat → Int64) : zev sc (150, 46, [some (.ref 173), some (.int v1), some (.int v2)], [.int s0, .ref 187], (197, i, (zRF b), l)) = zev sc (150, 47, [some (.ref 173), some (.int v1), some (.int v2)], [.int (0 : Int32), .int s0, .ref 187], (197, i, (zRF b), l)) := by
  refine (ze_iconst 47 zm150 dX10_lays_46 ci_0 rfl).trans ?_
  rfl
theorem b150_47 (sc : zScr) (v1 : Int32) (v2 : Int32) (s0 : Int32) (s1 : Int32) (i : Nat → Nat → Int32) (b : Bool) (l : Nat → Nat → Int64) (h1 : vp_in s1 30) : zev sc (150, 47, [some (.ref 173), some (.int v1), some (.int v2)], [.int s0, .int s1, .ref 187], (197, i, (zRF b), l)) = (zev sc (139, 0, [some (.int (v2 ^^^ ((zU i 187 s1.toNatClampNeg s0) 187 15))), none, none], [], (197, (zU i 187 s1.toNatClampNeg s0), (zRF b), l))).bind (fun x => zev sc (150, 60, [some (.ref 173), some (.int v1), some (.int v2)], [x.1], x.2)) := by
  refine (ze_iastore (t := s1.toNatClampNeg) 48 zm150 dX10_lays_47 k187_100 n187 h1 rfl rfl).trans ?_
  refine (ze_iload_n 49 zm150 dX10_lays_48 rfl rfl).trans ?_
  refine (ze_aload_n 50 zm150 dX10_lays_49 rfl rfl).trans ?_
  refine (ze_getR 53 zm150 dX10_lays_50 f10_50 k173_10 t10_20 (rr173_20 b) rfl).trans ?_
  refine (ze_bipush 55 zm150 dX10_lays_53 cb_15 rfl).trans ?_
  refine (ze_iaload (t := 15) 56 zm150 dX10_lays_55 k187_100 n187 vi_15_30 tn_15 rfl).trans ?_
  refine (ze_ixor 57 zm150 dX10_lays_56 rfl).trans ?_
  exact ze_statI (as := [.int (v2 ^^^ ((zU i 187 s1.toNatClampNeg s0) 187 15))]) (rest := []) 60 zm150 dX10_lays_57 r10_167 zm139 rfl rfl rfl rfl rfl rfl
theorem b150_60 (sc : zScr) (v1 : Int32) (v2 : Int32) (s0 : Int32) (i : Nat → Nat → Int32) (b : Bool) (l : Nat → Nat → Int64) : zev sc (150, 60, [some (.ref 173), some (.int v1), some (.int v2)], [.int s0], (197, i, (zRF b), l)) = some (.int s0, (197, i, (zRF b), l)) := by
  exact ze_ireturn zm150 dX10_lays_60 rfl
/-! HarpFencesModel.rains (I)I: method 151 -/
theorem b151_0 (sc : zScr) (v1 : Int32) (i : Nat → Nat → Int32) (b : Bool) (l : Nat → Nat → Int64) : zev sc (151, 0, [some (.ref 173), some (.int v1)], [], (197, i, (zRF b), l)) = (zev sc (119, 0, [some (.int v1), some (.int (-9 : Int32)), some (.int (9 : Int32))], [], (197, i, (zRF b), l))).bind (fun x => zev sc (151, 8, [some (.ref 173), some (.int v1)], [x.1], x.2)) := by
  refine (ze_iload_n 1 zm151 dX10_rains_0 rfl rfl).trans ?_
  refine (ze_bipush 3 zm151 dX10_rains_1 cb_m9 rfl).trans ?_
  refine (ze_bipush 5 zm151 dX10_rains_3 cb_9 rfl).trans ?_
  exact ze_statI (as := [.int v1, .int (-9 : Int32), .int (9 : Int32)]) (rest := []) 8 zm151 dX10_rains_5 r10_81 zm119 rfl rfl rfl rfl rfl rfl
theorem b151_8 (sc : zScr) (v1 : Int32) (s0 : Int32) (i : Nat → Nat → Int32) (b : Bool) (l : Nat → Nat → Int64) : zev sc (151, 8, [some (.ref 173), some (.int v1)], [.int s0], (197, i, (zRF b), l)) = if s0 = 0 then zev sc (151, 15, [some (.ref 173), some (.int v1)], [], (197, i, (zRF b), l)) else zev sc (151, 11, [some (.ref 173), some (.int v1)], [], (197, i, (zRF b), l)) := by
  exact ze_if_eq 15 11 zm151 dX10_rains_8 (by decide) rfl
theorem b151_11 (sc : zScr) (v1 : Int32) (i : Nat → Nat → Int32) (b : Bool) (l : Nat → Nat → Int64) : zev sc (151, 11, [some (.ref 173), some (.int v1)], [], (197, i, (zRF b), l)) = if v1 = 0 then zev sc (151, 15, [some (.ref 173), some (.int v1)], [], (197, i, (zRF b), l)) else zev sc (151, 17, [some (.ref 173), some (.int v1)], [], (197, i, (zRF b), l)) := by
  refine (ze_iload_n 12 zm151 dX10_rains_11 rfl rfl).trans ?_
  exact ze_if_ne 17 15 zm151 dX10_rains_12 (by decide) rfl
theorem b151_15 (sc : zScr) (v1 : Int32) (i : Nat → Nat → Int32) (b : Bool) (l : Nat → Nat → Int64) : zev sc (151, 15, [some (.ref 173), some (.int v1)], [], (197, i, (zRF b), l)) = some (.int (-1 : Int32), (197, i, (zRF b), l)) := by
  refine (ze_iconst 16 zm151 dX10_rains_15 ci_m1 rfl).trans ?_
  exact ze_ireturn zm151 dX10_rains_16 rfl
theorem b151_17 (sc : zScr) (v1 : Int32) (i : Nat → Nat → Int32) (b : Bool) (l : Nat → Nat → Int64) : zev sc (151, 17, [some (.ref 173), some (.int v1)], [], (197, i, (zRF b), l)) = (zev sc (119, 0, [some (.int ((i 187 16) + v1)), some (.int (0 : Int32)), some (.int (9 : Int32))], [], (197, i, (zRF b), l))).bind (fun x => zev sc (151, 32, [some (.ref 173), some (.int v1)], [x.1], x.2)) := by
  refine (ze_aload_n 18 zm151 dX10_rains_17 rfl rfl).trans ?_
  refine (ze_getR 21 zm151 dX10_rains_18 f10_50 k173_10 t10_20 (rr173_20 b) rfl).trans ?_
  refine (ze_bipush 23 zm151 dX10_rains_21 cb_16 rfl).trans ?_
  refine (ze_iaload (t := 16) 24 zm151 dX10_rains_23 k187_100 n187 vi_16_30 tn_16 rfl).trans ?_
  refine (ze_iload_n 25 zm151 dX10_rains_24 rfl rfl).trans ?_
  refine (ze_iadd 26 zm151 dX10_rains_25 rfl).trans ?_
  refine (ze_iconst 27 zm151 dX10_rains_26 ci_0 rfl).trans ?_
  refine (ze_bipush 29 zm151 dX10_rains_27 cb_9 rfl).trans ?_
  exact ze_statI (as := [.int ((i 187 16) + v1), .int (0 : Int32), .int (9 : Int32)]) (rest := []) 32 zm151 dX10_rains_29 r10_81 zm119 rfl rfl rfl rfl rfl rfl
theorem b151_32 (sc : zScr) (v1 : Int32) (s0 : Int32) (i : Nat → Nat → Int32) (b : Bool) (l : Nat → Nat → Int64) : zev sc (151, 32, [some (.ref 173), some (.int v1)], [.int s0], (197, i, (zRF b), l)) = if s0 = 0 then zev sc (151, 35, [some (.ref 173), some (.int v1)], [], (197, i, (zRF b), l)) else zev sc (151, 38, [some (.ref 173), some (.int v1)], [], (197, i, (zRF b), l)) := by
  exact ze_if_ne 38 35 zm151 dX10_rains_32 (by decide) rfl
theorem b151_35 (sc : zScr) (v1 : Int32) (i : Nat → Nat → Int32) (b : Bool) (l : Nat → Nat → Int64) : zev sc (151, 35, [some (.ref 173), some (.int v1)], [], (197, i, (zRF b), l)) = some (.int (-2 : Int32), (197, i, (zRF b), l)) := by
  refine (ze_bipush 37 zm151 dX10_rains_35 cb_m2 rfl).trans ?_
  exact ze_ireturn zm151 dX10_rains_37 rfl
theorem b151_38 (sc : zScr) (v1 : Int32) (i : Nat → Nat → Int32) (b : Bool) (l : Nat → Nat → Int64) : zev sc (151, 38, [some (.ref 173), some (.int v1)], [], (197, i, (zRF b), l)) = (zev sc (145, 0, [some (.ref 173), none], [], (197, i, (zRF b), l))).bind (fun x => zev sc (151, 42, [some (.ref 173), some (.int v1)], [], x.2)) := by
  refine (ze_aload_n 39 zm151 dX10_rains_38 rfl rfl).trans ?_
  exact ze_virtV (as := []) (rest := []) 42 zm151 dX10_rains_39 r10_158 zm145 rfl rfl k173_10 rfl rfl rfl rfl
theorem b151_42 (sc : zScr) (v1 : Int32) (i : Nat → Nat → Int32) (b : Bool) (l : Nat → Nat → Int64) : zev sc (151, 42, [some (.ref 173), some (.int v1)], [], (197, i, (zRF b), l)) = some (.int ((zU i 187 16 ((i 187 16) + v1)) 187 16), (197, (zU i 187 16 ((i 187 16) + v1)), (zRF b), l)) := by
  refine (ze_aload_n 43 zm151 dX10_rains_42 rfl rfl).trans ?_
  refine (ze_getR 46 zm151 dX10_rains_43 f10_50 k173_10 t10_20 (rr173_20 b) rfl).trans ?_
  refine (ze_bipush 48 zm151 dX10_rains_46 cb_16 rfl).trans ?_
  refine (ze_dup2 49 zm151 dX10_rains_48 rfl rfl rfl).trans ?_
  refine (ze_iaload (t := 16) 50 zm151 dX10_rains_49 k187_100 n187 vi_16_30 tn_16 rfl).trans ?_
  refine (ze_iload_n 51 zm151 dX10_rains_50 rfl rfl).trans ?_
  refine (ze_iadd 52 zm151 dX10_rains_51 rfl).trans ?_
  refine (ze_iastore (t := 16) 53 zm151 dX10_rains_52 k187_100 n187 vi_16_30 tn_16 rfl).trans ?_
  refine (ze_aload_n 54 zm151 dX10_rains_53 rfl rfl).trans ?_
  refine (ze_getR 57 zm151 dX10_rains_54 f10_50 k173_10 t10_20 (rr173_20 b) rfl).trans ?_
  refine (ze_bipush 59 zm151 dX10_rains_57 cb_16 rfl).trans ?_
  refine (ze_iaload (t := 16) 60 zm151 dX10_rains_59 k187_100 n187 vi_16_30 tn_16 rfl).trans ?_
  exact ze_ireturn zm151 dX10_rains_60 rfl
/-! HarpFencesModel.undo ()I: method 152 -/
theorem b152_0 (sc : zScr) (i : Nat → Nat → Int32) (b : Bool) (l : Nat → Nat → Int64) : zev sc (152, 0, [some (.ref 173), none], [], (197, i, (zRF b), l)) = if (i 188 0) = 0 then zev sc (152, 9, [some (.ref 173), none], [], (197, i, (zRF b), l)) else zev sc (152, 12, [some (.ref 173), none], [], (197, i, (zRF b), l)) := by
  refine (ze_aload_n 1 zm152 dX10_undo_0 rfl rfl).trans ?_
  refine (ze_getR 4 zm152 dX10_undo_1 f10_53 k173_10 t10_21 (rr173_21 b) rfl).trans ?_
  refine (ze_iconst 5 zm152 dX10_undo_4 ci_0 rfl).trans ?_
  refine (ze_iaload (t := 0) 6 zm152 dX10_undo_5 k188_100 n188 vi_0_3 tn_0 rfl).trans ?_
  exact ze_if_ne 12 9 zm152 dX10_undo_6 (by decide) rfl
theorem b152_9 (sc : zScr) (i : Nat → Nat → Int32) (b : Bool) (l : Nat → Nat → Int64) : zev sc (152, 9, [some (.ref 173), none], [], (197, i, (zRF b), l)) = some (.int (-2 : Int32), (197, i, (zRF b), l)) := by
  refine (ze_bipush 11 zm152 dX10_undo_9 cb_m2 rfl).trans ?_
  exact ze_ireturn zm152 dX10_undo_11 rfl
theorem b152_12 (sc : zScr) (i : Nat → Nat → Int32) (b : Bool) (l : Nat → Nat → Int64) : zev sc (152, 12, [some (.ref 173), none], [], (197, i, (zRF b), l)) = zev sc (152, 24, [some (.ref 173), some (.int (0 : Int32))], [], (197, (zU i 188 0 ((i 188 0) - (1 : Int32))), (zRF b), l)) := by
  refine (ze_aload_n 13 zm152 dX10_undo_12 rfl rfl).trans ?_
  refine (ze_getR 16 zm152 dX10_undo_13 f10_53 k173_10 t10_21 (rr173_21 b) rfl).trans ?_
  refine (ze_iconst 17 zm152 dX10_undo_16 ci_0 rfl).trans ?_
  refine (ze_dup2 18 zm152 dX10_undo_17 rfl rfl rfl).trans ?_
  refine (ze_iaload (t := 0) 19 zm152 dX10_undo_18 k188_100 n188 vi_0_3 tn_0 rfl).trans ?_
  refine (ze_iconst 20 zm152 dX10_undo_19 ci_1 rfl).trans ?_
  refine (ze_isub 21 zm152 dX10_undo_20 rfl).trans ?_
  refine (ze_iastore (t := 0) 22 zm152 dX10_undo_21 k188_100 n188 vi_0_3 tn_0 rfl).trans ?_
  refine (ze_iconst 23 zm152 dX10_undo_22 ci_0 rfl).trans ?_
  refine (ze_istore_n (A := 99) (ls' := [some (.ref 173), some (.int (0 : Int32))]) 24 zm152 dX10_undo_23 za152 rfl rfl rfl rfl rfl).trans ?_
  rfl
theorem b152_24 (sc : zScr) (v1 : Int32) (i : Nat → Nat → Int32) (b : Bool) (l : Nat → Nat → Int64) : zev sc (152, 24, [some (.ref 173), some (.int v1)], [], (197, i, (zRF b), l)) = if (30 : Int32) ≤ v1 then zev sc (152, 58, [some (.ref 173), some (.int v1)], [], (197, i, (zRF b), l)) else zev sc (152, 30, [some (.ref 173), some (.int v1)], [], (197, i, (zRF b), l)) := by
  refine (ze_iload_n 25 zm152 dX10_undo_24 rfl rfl).trans ?_
  refine (ze_bipush 27 zm152 dX10_undo_25 cb_30 rfl).trans ?_
  exact ze_icmp_ge 58 30 zm152 dX10_undo_27 (by decide) rfl
theorem b152_30 (sc : zScr) (v1 : Int32) (i : Nat → Nat → Int32) (b : Bool) (l : Nat → Nat → Int64) (h1 : vp_in (((30 : Int32) * (i 188 0)) + v1) 900) (h2 : vp_in v1 30) : zev sc (152, 30, [some (.ref 173), some (.int v1)], [], (197, i, (zRF b), l)) = zev sc (152, 24, [some (.ref 173), some (.int (v1 + 1))], [], (197, (zU i 187 v1.toNatClampNeg (i 189 ((((30 : Int32) * (i 188 0)) + v1)).toNatClampNeg)), (zRF b), l)) := by
  refine (ze_aload_n 31 zm152 dX10_undo_30 rfl rfl).trans ?_
  refine (ze_getR 34 zm152 dX10_undo_31 f10_50 k173_10 t10_20 (rr173_20 b) rfl).trans ?_
  refine (ze_iload_n 35 zm152 dX10_undo_34 rfl rfl).trans ?_
  refine (ze_aload_n 36 zm152 dX10_undo_35 rfl rfl).trans ?_
  refine (ze_getR 39 zm152 dX10_undo_36 f10_56 k173_10 t10_22 (rr173_22 b) rfl).trans ?_
  refine (ze_bipush 41 zm152 dX10_undo_39 cb_30 rfl).trans ?_
  refine (ze_aload_n 42 zm152 dX10_undo_41 rfl rfl).trans ?_
  refine (ze_getR 45 zm152 dX10_undo_42 f10_53 k173_10 t10_21 (rr173_21 b) rfl).trans ?_
  refine (ze_iconst 46 zm152 dX10_undo_45 ci_0 rfl).trans ?_
  refine (ze_iaload (t := 0) 47 zm152 dX10_undo_46 k188_100 n188 vi_0_3 tn_0 rfl).trans ?_
  refine (ze_imul 48 zm152 dX10_undo_47 rfl).trans ?_
  refine (ze_iload_n 49 zm152 dX10_undo_48 rfl rfl).trans ?_
  refine (ze_iadd 50 zm152 dX10_undo_49 rfl).trans ?_
  refine (ze_iaload (t := ((((30 : Int32) * (i 188 0)) + v1)).toNatClampNeg) 51 zm152 dX10_undo_50 k189_100 n189 h1 rfl rfl).trans ?_
  refine (ze_iastore (t := v1.toNatClampNeg) 52 zm152 dX10_undo_51 k187_100 n187 h2 rfl rfl).trans ?_
  refine (ze_iinc (v := (1 : Int32)) (A := 99) (ls' := [some (.ref 173), some (.int (v1 + 1))]) 55 zm152 dX10_undo_52 rfl ci_1 za152 rfl rfl rfl rfl rfl).trans ?_
  exact ze_goto 24 zm152 dX10_undo_55 (by decide)
theorem b152_58 (sc : zScr) (v1 : Int32) (i : Nat → Nat → Int32) (b : Bool) (l : Nat → Nat → Int64) : zev sc (152, 58, [some (.ref 173), some (.int v1)], [], (197, i, (zRF b), l)) = some (.int (i 188 0), (197, i, (zRF b), l)) := by
  refine (ze_aload_n 59 zm152 dX10_undo_58 rfl rfl).trans ?_
  refine (ze_getR 62 zm152 dX10_undo_59 f10_53 k173_10 t10_21 (rr173_21 b) rfl).trans ?_
  refine (ze_iconst 63 zm152 dX10_undo_62 ci_0 rfl).trans ?_
  refine (ze_iaload (t := 0) 64 zm152 dX10_undo_63 k188_100 n188 vi_0_3 tn_0 rfl).trans ?_
  exact ze_ireturn zm152 dX10_undo_64 rfl
/-! HarpFencesModel.areAlike (II)Z: method 153 -/
theorem b153_0 (sc : zScr) (v1 : Int32) (v2 : Int32) (i : Nat → Nat → Int32) (b : Bool) (l : Nat → Nat → Int64) (h1 : vp_in v1 16) : zev sc (153, 0, [some (.ref 173), some (.int v1), some (.int v2), none], [], (197, i, (zRF b), l)) = (zev sc (136, 0, [some (.ref 173), some (.int v2), some (.int (i 177 v1.toNatClampNeg))], [], (197, i, (zRF b), l))).bind (fun x => zev sc (153, 11, [some (.ref 173), some (.int v1), some (.int v2), none], [x.1], x.2)) := by
  refine (ze_aload_n 1 zm153 dX10_areAlike_0 rfl rfl).trans ?_
  refine (ze_iload_n 2 zm153 dX10_areAlike_1 rfl rfl).trans ?_
  refine (ze_aload_n 3 zm153 dX10_areAlike_2 rfl rfl).trans ?_
  refine (ze_getR 6 zm153 dX10_areAlike_3 f10_20 k173_10 t10_4 (rr173_4 b) rfl).trans ?_
  refine (ze_iload_n 7 zm153 dX10_areAlike_6 rfl rfl).trans ?_
  refine (ze_iaload (t := v1.toNatClampNeg) 8 zm153 dX10_areAlike_7 k177_100 n177 h1 rfl rfl).trans ?_
  exact ze_virtI (as := [.int v2, .int (i 177 v1.toNatClampNeg)]) (rest := []) 11 zm153 dX10_areAlike_8 r10_155 zm136 rfl rfl k173_10 rfl rfl rfl rfl
theorem b153_11 (sc : zScr) (v1 : Int32) (v2 : Int32) (s0 : Int32) (i : Nat → Nat → Int32) (b : Bool) (l : Nat → Nat → Int64) : zev sc (153, 11, [some (.ref 173), some (.int v1), some (.int v2), none], [.int s0], (197, i, (zRF b), l)) = if s0 = 0 then zev sc (153, 14, [some (.ref 173), some (.int v1), some (.int v2), none], [], (197, i, (zRF b), l)) else zev sc (153, 28, [some (.ref 173), some (.int v1), some (.int v2), none], [], (197, i, (zRF b), l)) := by
  exact ze_if_ne 28 14 zm153 dX10_areAlike_11 (by decide) rfl
theorem b153_14 (sc : zScr) (v1 : Int32) (v2 : Int32) (i : Nat → Nat → Int32) (b : Bool) (l : Nat → Nat → Int64) (h1 : vp_in v1 16) : zev sc (153, 14, [some (.ref 173), some (.int v1), some (.int v2), none], [], (197, i, (zRF b), l)) = (zev sc (136, 0, [some (.ref 173), some (.int v2), some (.int (i 178 v1.toNatClampNeg))], [], (197, i, (zRF b), l))).bind (fun x => zev sc (153, 25, [some (.ref 173), some (.int v1), some (.int v2), none], [x.1], x.2)) := by
  refine (ze_aload_n 15 zm153 dX10_areAlike_14 rfl rfl).trans ?_
  refine (ze_iload_n 16 zm153 dX10_areAlike_15 rfl rfl).trans ?_
  refine (ze_aload_n 17 zm153 dX10_areAlike_16 rfl rfl).trans ?_
  refine (ze_getR 20 zm153 dX10_areAlike_17 f10_23 k173_10 t10_5 (rr173_5 b) rfl).trans ?_
  refine (ze_iload_n 21 zm153 dX10_areAlike_20 rfl rfl).trans ?_
  refine (ze_iaload (t := v1.toNatClampNeg) 22 zm153 dX10_areAlike_21 k178_100 n178 h1 rfl rfl).trans ?_
  exact ze_virtI (as := [.int v2, .int (i 178 v1.toNatClampNeg)]) (rest := []) 25 zm153 dX10_areAlike_22 r10_155 zm136 rfl rfl k173_10 rfl rfl rfl rfl
theorem b153_25 (sc : zScr) (v1 : Int32) (v2 : Int32) (s0 : Int32) (i : Nat → Nat → Int32) (b : Bool) (l : Nat → Nat → Int64) : zev sc (153, 25, [some (.ref 173), some (.int v1), some (.int v2), none], [.int s0], (197, i, (zRF b), l)) = if s0 = 0 then zev sc (153, 32, [some (.ref 173), some (.int v1), some (.int v2), none], [], (197, i, (zRF b), l)) else zev sc (153, 28, [some (.ref 173), some (.int v1), some (.int v2), none], [], (197, i, (zRF b), l)) := by
  exact ze_if_eq 32 28 zm153 dX10_areAlike_25 (by decide) rfl
theorem b153_28 (sc : zScr) (v1 : Int32) (v2 : Int32) (i : Nat → Nat → Int32) (b : Bool) (l : Nat → Nat → Int64) : zev sc (153, 28, [some (.ref 173), some (.int v1), some (.int v2), none], [], (197, i, (zRF b), l)) = zev sc (153, 33, [some (.ref 173), some (.int v1), some (.int v2), none], [.int (1 : Int32)], (197, i, (zRF b), l)) := by
  refine (ze_iconst 29 zm153 dX10_areAlike_28 ci_1 rfl).trans ?_
  exact ze_goto 33 zm153 dX10_areAlike_29 (by decide)
theorem b153_32 (sc : zScr) (v1 : Int32) (v2 : Int32) (i : Nat → Nat → Int32) (b : Bool) (l : Nat → Nat → Int64) : zev sc (153, 32, [some (.ref 173), some (.int v1), some (.int v2), none], [], (197, i, (zRF b), l)) = zev sc (153, 33, [some (.ref 173), some (.int v1), some (.int v2), none], [.int (0 : Int32)], (197, i, (zRF b), l)) := by
  refine (ze_iconst 33 zm153 dX10_areAlike_32 ci_0 rfl).trans ?_
  rfl
theorem b153_33 (sc : zScr) (v1 : Int32) (v2 : Int32) (s0 : Int32) (i : Nat → Nat → Int32) (b : Bool) (l : Nat → Nat → Int64) : zev sc (153, 33, [some (.ref 173), some (.int v1), some (.int v2), none], [.int s0], (197, i, (zRF b), l)) = if v1 = v2 then zev sc (153, 84, [some (.ref 173), some (.int v1), some (.int v2), some (.int s0)], [], (197, i, (zRF b), l)) else zev sc (153, 39, [some (.ref 173), some (.int v1), some (.int v2), some (.int s0)], [], (197, i, (zRF b), l)) := by
  refine (ze_istore_n (A := 99) (ls' := [some (.ref 173), some (.int v1), some (.int v2), some (.int s0)]) 34 zm153 dX10_areAlike_33 za153 rfl rfl rfl rfl rfl).trans ?_
  refine (ze_iload_n 35 zm153 dX10_areAlike_34 rfl rfl).trans ?_
  refine (ze_iload_n 36 zm153 dX10_areAlike_35 rfl rfl).trans ?_
  exact ze_icmp_eq 84 39 zm153 dX10_areAlike_36 (by decide) rfl
theorem b153_39 (sc : zScr) (v1 : Int32) (v2 : Int32) (v3 : Int32) (i : Nat → Nat → Int32) (b : Bool) (l : Nat → Nat → Int64) : zev sc (153, 39, [some (.ref 173), some (.int v1), some (.int v2), some (.int v3)], [], (197, i, (zRF b), l)) = if v3 = 0 then zev sc (153, 84, [some (.ref 173), some (.int v1), some (.int v2), some (.int v3)], [], (197, i, (zRF b), l)) else zev sc (153, 43, [some (.ref 173), some (.int v1), some (.int v2), some (.int v3)], [], (197, i, (zRF b), l)) := by
  refine (ze_iload_n 40 zm153 dX10_areAlike_39 rfl rfl).trans ?_
  exact ze_if_eq 84 43 zm153 dX10_areAlike_40 (by decide) rfl
theorem b153_43 (sc : zScr) (v1 : Int32) (v2 : Int32) (v3 : Int32) (i : Nat → Nat → Int32) (b : Bool) (l : Nat → Nat → Int64) : zev sc (153, 43, [some (.ref 173), some (.int v1), some (.int v2), some (.int v3)], [], (197, i, (zRF b), l)) = (zev sc (138, 0, [some (.ref 173), some (.int v1)], [], (197, i, (zRF b), l))).bind (fun x => zev sc (153, 48, [some (.ref 173), some (.int v1), some (.int v2), some (.int v3)], [x.1], x.2)) := by
  refine (ze_aload_n 44 zm153 dX10_areAlike_43 rfl rfl).trans ?_
  refine (ze_iload_n 45 zm153 dX10_areAlike_44 rfl rfl).trans ?_
  exact ze_virtI (as := [.int v1]) (rest := []) 48 zm153 dX10_areAlike_45 r10_174 zm138 rfl rfl k173_10 rfl rfl rfl rfl
theorem b153_48 (sc : zScr) (v1 : Int32) (v2 : Int32) (v3 : Int32) (s0 : Int32) (i : Nat → Nat → Int32) (b : Bool) (l : Nat → Nat → Int64) : zev sc (153, 48, [some (.ref 173), some (.int v1), some (.int v2), some (.int v3)], [.int s0], (197, i, (zRF b), l)) = if s0 = 0 then zev sc (153, 84, [some (.ref 173), some (.int v1), some (.int v2), some (.int v3)], [], (197, i, (zRF b), l)) else zev sc (153, 51, [some (.ref 173), some (.int v1), some (.int v2), some (.int v3)], [], (197, i, (zRF b), l)) := by
  exact ze_if_eq 84 51 zm153 dX10_areAlike_48 (by decide) rfl
theorem b153_51 (sc : zScr) (v1 : Int32) (v2 : Int32) (v3 : Int32) (i : Nat → Nat → Int32) (b : Bool) (l : Nat → Nat → Int64) : zev sc (153, 51, [some (.ref 173), some (.int v1), some (.int v2), some (.int v3)], [], (197, i, (zRF b), l)) = (zev sc (138, 0, [some (.ref 173), some (.int v2)], [], (197, i, (zRF b), l))).bind (fun x => zev sc (153, 56, [some (.ref 173), some (.int v1), some (.int v2), some (.int v3)], [x.1], x.2)) := by
  refine (ze_aload_n 52 zm153 dX10_areAlike_51 rfl rfl).trans ?_
  refine (ze_iload_n 53 zm153 dX10_areAlike_52 rfl rfl).trans ?_
  exact ze_virtI (as := [.int v2]) (rest := []) 56 zm153 dX10_areAlike_53 r10_174 zm138 rfl rfl k173_10 rfl rfl rfl rfl
theorem b153_56 (sc : zScr) (v1 : Int32) (v2 : Int32) (v3 : Int32) (s0 : Int32) (i : Nat → Nat → Int32) (b : Bool) (l : Nat → Nat → Int64) : zev sc (153, 56, [some (.ref 173), some (.int v1), some (.int v2), some (.int v3)], [.int s0], (197, i, (zRF b), l)) = if s0 = 0 then zev sc (153, 84, [some (.ref 173), some (.int v1), some (.int v2), some (.int v3)], [], (197, i, (zRF b), l)) else zev sc (153, 59, [some (.ref 173), some (.int v1), some (.int v2), some (.int v3)], [], (197, i, (zRF b), l)) := by
  exact ze_if_eq 84 59 zm153 dX10_areAlike_56 (by decide) rfl
theorem b153_59 (sc : zScr) (v1 : Int32) (v2 : Int32) (v3 : Int32) (i : Nat → Nat → Int32) (b : Bool) (l : Nat → Nat → Int64) (h1 : vp_in ((6 : Int32) + v1) 30) (h2 : vp_in ((6 : Int32) + v2) 30) : zev sc (153, 59, [some (.ref 173), some (.int v1), some (.int v2), some (.int v3)], [], (197, i, (zRF b), l)) = if (i 187 (((6 : Int32) + v1)).toNatClampNeg) = (i 187 (((6 : Int32) + v2)).toNatClampNeg) then zev sc (153, 80, [some (.ref 173), some (.int v1), some (.int v2), some (.int v3)], [], (197, i, (zRF b), l)) else zev sc (153, 84, [some (.ref 173), some (.int v1), some (.int v2), some (.int v3)], [], (197, i, (zRF b), l)) := by
  refine (ze_aload_n 60 zm153 dX10_areAlike_59 rfl rfl).trans ?_
  refine (ze_getR 63 zm153 dX10_areAlike_60 f10_50 k173_10 t10_20 (rr173_20 b) rfl).trans ?_
  refine (ze_bipush 65 zm153 dX10_areAlike_63 cb_6 rfl).trans ?_
  refine (ze_iload_n 66 zm153 dX10_areAlike_65 rfl rfl).trans ?_
  refine (ze_iadd 67 zm153 dX10_areAlike_66 rfl).trans ?_
  refine (ze_iaload (t := (((6 : Int32) + v1)).toNatClampNeg) 68 zm153 dX10_areAlike_67 k187_100 n187 h1 rfl rfl).trans ?_
  refine (ze_aload_n 69 zm153 dX10_areAlike_68 rfl rfl).trans ?_
  refine (ze_getR 72 zm153 dX10_areAlike_69 f10_50 k173_10 t10_20 (rr173_20 b) rfl).trans ?_
  refine (ze_bipush 74 zm153 dX10_areAlike_72 cb_6 rfl).trans ?_
  refine (ze_iload_n 75 zm153 dX10_areAlike_74 rfl rfl).trans ?_
  refine (ze_iadd 76 zm153 dX10_areAlike_75 rfl).trans ?_
  refine (ze_iaload (t := (((6 : Int32) + v2)).toNatClampNeg) 77 zm153 dX10_areAlike_76 k187_100 n187 h2 rfl rfl).trans ?_
  exact ze_icmp_ne 84 80 zm153 dX10_areAlike_77 (by decide) rfl
theorem b153_80 (sc : zScr) (v1 : Int32) (v2 : Int32) (v3 : Int32) (i : Nat → Nat → Int32) (b : Bool) (l : Nat → Nat → Int64) : zev sc (153, 80, [some (.ref 173), some (.int v1), some (.int v2), some (.int v3)], [], (197, i, (zRF b), l)) = zev sc (153, 85, [some (.ref 173), some (.int v1), some (.int v2), some (.int v3)], [.int (1 : Int32)], (197, i, (zRF b), l)) := by
  refine (ze_iconst 81 zm153 dX10_areAlike_80 ci_1 rfl).trans ?_
  exact ze_goto 85 zm153 dX10_areAlike_81 (by decide)
theorem b153_84 (sc : zScr) (v1 : Int32) (v2 : Int32) (v3 : Int32) (i : Nat → Nat → Int32) (b : Bool) (l : Nat → Nat → Int64) : zev sc (153, 84, [some (.ref 173), some (.int v1), some (.int v2), some (.int v3)], [], (197, i, (zRF b), l)) = zev sc (153, 85, [some (.ref 173), some (.int v1), some (.int v2), some (.int v3)], [.int (0 : Int32)], (197, i, (zRF b), l)) := by
  refine (ze_iconst 85 zm153 dX10_areAlike_84 ci_0 rfl).trans ?_
  rfl
theorem b153_85 (sc : zScr) (v1 : Int32) (v2 : Int32) (v3 : Int32) (s0 : Int32) (i : Nat → Nat → Int32) (b : Bool) (l : Nat → Nat → Int64) (h1 : s0 = 0 ∨ s0 = 1) : zev sc (153, 85, [some (.ref 173), some (.int v1), some (.int v2), some (.int v3)], [.int s0], (197, i, (zRF b), l)) = some (.int s0, (197, i, (zRF b), l)) := by
  exact ze_zreturn zm153 dX10_areAlike_85 rfl h1
/-! HarpFencesModel.alike ()I: method 154 -/
theorem b154_0 (sc : zScr) (i : Nat → Nat → Int32) (b : Bool) (l : Nat → Nat → Int64) : zev sc (154, 0, [some (.ref 173), none, none, none], [], (197, i, (zRF b), l)) = zev sc (154, 4, [some (.ref 173), some (.int (0 : Int32)), some (.int (0 : Int32)), none], [], (197, i, (zRF b), l)) := by
  refine (ze_iconst 1 zm154 dX10_alike_0 ci_0 rfl).trans ?_
  refine (ze_istore_n (A := 99) (ls' := [some (.ref 173), some (.int (0 : Int32)), none, none]) 2 zm154 dX10_alike_1 za154 rfl rfl rfl rfl rfl).trans ?_
  refine (ze_iconst 3 zm154 dX10_alike_2 ci_0 rfl).trans ?_
  refine (ze_istore_n (A := 99) (ls' := [some (.ref 173), some (.int (0 : Int32)), some (.int (0 : Int32)), none]) 4 zm154 dX10_alike_3 za154 rfl rfl rfl rfl rfl).trans ?_
  rfl
theorem b154_4 (sc : zScr) (v1 : Int32) (v2 : Int32) (w3 : Option Value) (i : Nat → Nat → Int32) (b : Bool) (l : Nat → Nat → Int64) : zev sc (154, 4, [some (.ref 173), some (.int v1), some (.int v2), w3], [], (197, i, (zRF b), l)) = if (i 176 0) ≤ v2 then zev sc (154, 57, [some (.ref 173), some (.int v1), some (.int v2), w3], [], (197, i, (zRF b), l)) else zev sc (154, 14, [some (.ref 173), some (.int v1), some (.int v2), w3], [], (197, i, (zRF b), l)) := by
  refine (ze_iload_n 5 zm154 dX10_alike_4 rfl rfl).trans ?_
  refine (ze_aload_n 6 zm154 dX10_alike_5 rfl rfl).trans ?_
  refine (ze_getR 9 zm154 dX10_alike_6 f10_17 k173_10 t10_3 (rr173_3 b) rfl).trans ?_
  refine (ze_iconst 10 zm154 dX10_alike_9 ci_0 rfl).trans ?_
  refine (ze_iaload (t := 0) 11 zm154 dX10_alike_10 k176_100 n176 vi_0_2 tn_0 rfl).trans ?_
  exact ze_icmp_ge 57 14 zm154 dX10_alike_11 (by decide) rfl
theorem b154_14 (sc : zScr) (v1 : Int32) (v2 : Int32) (w3 : Option Value) (i : Nat → Nat → Int32) (b : Bool) (l : Nat → Nat → Int64) : zev sc (154, 14, [some (.ref 173), some (.int v1), some (.int v2), w3], [], (197, i, (zRF b), l)) = zev sc (154, 18, [some (.ref 173), some (.int v1), some (.int v2), some (.int (v2 + (1 : Int32)))], [], (197, i, (zRF b), l)) := by
  refine (ze_iload_n 15 zm154 dX10_alike_14 rfl rfl).trans ?_
  refine (ze_iconst 16 zm154 dX10_alike_15 ci_1 rfl).trans ?_
  refine (ze_iadd 17 zm154 dX10_alike_16 rfl).trans ?_
  refine (ze_istore_n (A := 99) (ls' := [some (.ref 173), some (.int v1), some (.int v2), some (.int (v2 + (1 : Int32)))]) 18 zm154 dX10_alike_17 za154 rfl rfl rfl rfl rfl).trans ?_
  rfl
theorem b154_18 (sc : zScr) (v1 : Int32) (v2 : Int32) (v3 : Int32) (i : Nat → Nat → Int32) (b : Bool) (l : Nat → Nat → Int64) : zev sc (154, 18, [some (.ref 173), some (.int v1), some (.int v2), some (.int v3)], [], (197, i, (zRF b), l)) = if (i 176 0) ≤ v3 then zev sc (154, 51, [some (.ref 173), some (.int v1), some (.int v2), some (.int v3)], [], (197, i, (zRF b), l)) else zev sc (154, 28, [some (.ref 173), some (.int v1), some (.int v2), some (.int v3)], [], (197, i, (zRF b), l)) := by
  refine (ze_iload_n 19 zm154 dX10_alike_18 rfl rfl).trans ?_
  refine (ze_aload_n 20 zm154 dX10_alike_19 rfl rfl).trans ?_
  refine (ze_getR 23 zm154 dX10_alike_20 f10_17 k173_10 t10_3 (rr173_3 b) rfl).trans ?_
  refine (ze_iconst 24 zm154 dX10_alike_23 ci_0 rfl).trans ?_
  refine (ze_iaload (t := 0) 25 zm154 dX10_alike_24 k176_100 n176 vi_0_2 tn_0 rfl).trans ?_
  exact ze_icmp_ge 51 28 zm154 dX10_alike_25 (by decide) rfl
theorem b154_28 (sc : zScr) (v1 : Int32) (v2 : Int32) (v3 : Int32) (i : Nat → Nat → Int32) (b : Bool) (l : Nat → Nat → Int64) : zev sc (154, 28, [some (.ref 173), some (.int v1), some (.int v2), some (.int v3)], [], (197, i, (zRF b), l)) = (zev sc (153, 0, [some (.ref 173), some (.int v2), some (.int v3), none], [], (197, i, (zRF b), l))).bind (fun x => zev sc (154, 35, [some (.ref 173), some (.int v1), some (.int v2), some (.int v3)], [x.1, .int v1], x.2)) := by
  refine (ze_iload_n 29 zm154 dX10_alike_28 rfl rfl).trans ?_
  refine (ze_aload_n 30 zm154 dX10_alike_29 rfl rfl).trans ?_
  refine (ze_iload_n 31 zm154 dX10_alike_30 rfl rfl).trans ?_
  refine (ze_iload_n 32 zm154 dX10_alike_31 rfl rfl).trans ?_
  exact ze_virtI (as := [.int v2, .int v3]) (rest := [.int v1]) 35 zm154 dX10_alike_32 r10_177 zm153 rfl rfl k173_10 rfl rfl rfl rfl
theorem b154_35 (sc : zScr) (v1 : Int32) (v2 : Int32) (v3 : Int32) (s0 : Int32) (s1 : Int32) (i : Nat → Nat → Int32) (b : Bool) (l : Nat → Nat → Int64) : zev sc (154, 35, [some (.ref 173), some (.int v1), some (.int v2), some (.int v3)], [.int s0, .int s1], (197, i, (zRF b), l)) = if s0 = 0 then zev sc (154, 42, [some (.ref 173), some (.int v1), some (.int v2), some (.int v3)], [.int s1], (197, i, (zRF b), l)) else zev sc (154, 38, [some (.ref 173), some (.int v1), some (.int v2), some (.int v3)], [.int s1], (197, i, (zRF b), l)) := by
  exact ze_if_eq 42 38 zm154 dX10_alike_35 (by decide) rfl
theorem b154_38 (sc : zScr) (v1 : Int32) (v2 : Int32) (v3 : Int32) (s0 : Int32) (i : Nat → Nat → Int32) (b : Bool) (l : Nat → Nat → Int64) : zev sc (154, 38, [some (.ref 173), some (.int v1), some (.int v2), some (.int v3)], [.int s0], (197, i, (zRF b), l)) = zev sc (154, 43, [some (.ref 173), some (.int v1), some (.int v2), some (.int v3)], [.int (1 : Int32), .int s0], (197, i, (zRF b), l)) := by
  refine (ze_iconst 39 zm154 dX10_alike_38 ci_1 rfl).trans ?_
  exact ze_goto 43 zm154 dX10_alike_39 (by decide)
theorem b154_42 (sc : zScr) (v1 : Int32) (v2 : Int32) (v3 : Int32) (s0 : Int32) (i : Nat → Nat → Int32) (b : Bool) (l : Nat → Nat → Int64) : zev sc (154, 42, [some (.ref 173), some (.int v1), some (.int v2), some (.int v3)], [.int s0], (197, i, (zRF b), l)) = zev sc (154, 43, [some (.ref 173), some (.int v1), some (.int v2), some (.int v3)], [.int (0 : Int32), .int s0], (197, i, (zRF b), l)) := by
  refine (ze_iconst 43 zm154 dX10_alike_42 ci_0 rfl).trans ?_
  rfl
theorem b154_43 (sc : zScr) (v1 : Int32) (v2 : Int32) (v3 : Int32) (s0 : Int32) (s1 : Int32) (i : Nat → Nat → Int32) (b : Bool) (l : Nat → Nat → Int64) : zev sc (154, 43, [some (.ref 173), some (.int v1), some (.int v2), some (.int v3)], [.int s0, .int s1], (197, i, (zRF b), l)) = zev sc (154, 18, [some (.ref 173), some (.int (s1 + s0)), some (.int v2), some (.int (v3 + 1))], [], (197, i, (zRF b), l)) := by
  refine (ze_iadd 44 zm154 dX10_alike_43 rfl).trans ?_
  refine (ze_istore_n (A := 99) (ls' := [some (.ref 173), some (.int (s1 + s0)), some (.int v2), some (.int v3)]) 45 zm154 dX10_alike_44 za154 rfl rfl rfl rfl rfl).trans ?_
  refine (ze_iinc (v := (1 : Int32)) (A := 99) (ls' := [some (.ref 173), some (.int (s1 + s0)), some (.int v2), some (.int (v3 + 1))]) 48 zm154 dX10_alike_45 rfl ci_1 za154 rfl rfl rfl rfl rfl).trans ?_
  exact ze_goto 18 zm154 dX10_alike_48 (by decide)
theorem b154_51 (sc : zScr) (v1 : Int32) (v2 : Int32) (v3 : Int32) (i : Nat → Nat → Int32) (b : Bool) (l : Nat → Nat → Int64) : zev sc (154, 51, [some (.ref 173), some (.int v1), some (.int v2), some (.int v3)], [], (197, i, (zRF b), l)) = zev sc (154, 4, [some (.ref 173), some (.int v1), some (.int (v2 + 1)), some (.int v3)], [], (197, i, (zRF b), l)) := by
  refine (ze_iinc (v := (1 : Int32)) (A := 99) (ls' := [some (.ref 173), some (.int v1), some (.int (v2 + 1)), some (.int v3)]) 54 zm154 dX10_alike_51 rfl ci_1 za154 rfl rfl rfl rfl rfl).trans ?_
  exact ze_goto 4 zm154 dX10_alike_54 (by decide)
theorem b154_57 (sc : zScr) (v1 : Int32) (v2 : Int32) (w3 : Option Value) (i : Nat → Nat → Int32) (b : Bool) (l : Nat → Nat → Int64) : zev sc (154, 57, [some (.ref 173), some (.int v1), some (.int v2), w3], [], (197, i, (zRF b), l)) = some (.int v1, (197, i, (zRF b), l)) := by
  refine (ze_iload_n 58 zm154 dX10_alike_57 rfl rfl).trans ?_
  exact ze_ireturn zm154 dX10_alike_58 rfl
/-! HarpFencesModel.areApart (I)Z: method 155 -/
theorem b155_0 (sc : zScr) (v1 : Int32) (i : Nat → Nat → Int32) (b : Bool) (l : Nat → Nat → Int64) : zev sc (155, 0, [some (.ref 173), some (.int v1), none, none, none], [], (197, i, (zRF b), l)) = zev sc (155, 4, [some (.ref 173), some (.int v1), some (.int (1 : Int32)), some (.int (0 : Int32)), none], [], (197, i, (zRF b), l)) := by
  refine (ze_iconst 1 zm155 dX10_areApart_0 ci_1 rfl).trans ?_
  refine (ze_istore_n (A := 99) (ls' := [some (.ref 173), some (.int v1), some (.int (1 : Int32)), none, none]) 2 zm155 dX10_areApart_1 za155 rfl rfl rfl rfl rfl).trans ?_
  refine (ze_iconst 3 zm155 dX10_areApart_2 ci_0 rfl).trans ?_
  refine (ze_istore_n (A := 99) (ls' := [some (.ref 173), some (.int v1), some (.int (1 : Int32)), some (.int (0 : Int32)), none]) 4 zm155 dX10_areApart_3 za155 rfl rfl rfl rfl rfl).trans ?_
  rfl
theorem b155_4 (sc : zScr) (v1 : Int32) (v2 : Int32) (v3 : Int32) (w4 : Option Value) (i : Nat → Nat → Int32) (b : Bool) (l : Nat → Nat → Int64) : zev sc (155, 4, [some (.ref 173), some (.int v1), some (.int v2), some (.int v3), w4], [], (197, i, (zRF b), l)) = if (i 176 0) ≤ v3 then zev sc (155, 79, [some (.ref 173), some (.int v1), some (.int v2), some (.int v3), w4], [], (197, i, (zRF b), l)) else zev sc (155, 14, [some (.ref 173), some (.int v1), some (.int v2), some (.int v3), w4], [], (197, i, (zRF b), l)) := by
  refine (ze_iload_n 5 zm155 dX10_areApart_4 rfl rfl).trans ?_
  refine (ze_aload_n 6 zm155 dX10_areApart_5 rfl rfl).trans ?_
  refine (ze_getR 9 zm155 dX10_areApart_6 f10_17 k173_10 t10_3 (rr173_3 b) rfl).trans ?_
  refine (ze_iconst 10 zm155 dX10_areApart_9 ci_0 rfl).trans ?_
  refine (ze_iaload (t := 0) 11 zm155 dX10_areApart_10 k176_100 n176 vi_0_2 tn_0 rfl).trans ?_
  exact ze_icmp_ge 79 14 zm155 dX10_areApart_11 (by decide) rfl
theorem b155_14 (sc : zScr) (v1 : Int32) (v2 : Int32) (v3 : Int32) (w4 : Option Value) (i : Nat → Nat → Int32) (b : Bool) (l : Nat → Nat → Int64) : zev sc (155, 14, [some (.ref 173), some (.int v1), some (.int v2), some (.int v3), w4], [], (197, i, (zRF b), l)) = zev sc (155, 19, [some (.ref 173), some (.int v1), some (.int v2), some (.int v3), some (.int (v3 + (1 : Int32)))], [], (197, i, (zRF b), l)) := by
  refine (ze_iload_n 15 zm155 dX10_areApart_14 rfl rfl).trans ?_
  refine (ze_iconst 16 zm155 dX10_areApart_15 ci_1 rfl).trans ?_
  refine (ze_iadd 17 zm155 dX10_areApart_16 rfl).trans ?_
  refine (ze_istore (A := 99) (ls' := [some (.ref 173), some (.int v1), some (.int v2), some (.int v3), some (.int (v3 + (1 : Int32)))]) 19 zm155 dX10_areApart_17 za155 rfl rfl rfl rfl rfl).trans ?_
  rfl
theorem b155_19 (sc : zScr) (v1 : Int32) (v2 : Int32) (v3 : Int32) (v4 : Int32) (i : Nat → Nat → Int32) (b : Bool) (l : Nat → Nat → Int64) : zev sc (155, 19, [some (.ref 173), some (.int v1), some (.int v2), some (.int v3), some (.int v4)], [], (197, i, (zRF b), l)) = if (i 176 0) ≤ v4 then zev sc (155, 73, [some (.ref 173), some (.int v1), some (.int v2), some (.int v3), some (.int v4)], [], (197, i, (zRF b), l)) else zev sc (155, 30, [some (.ref 173), some (.int v1), some (.int v2), some (.int v3), some (.int v4)], [], (197, i, (zRF b), l)) := by
  refine (ze_iload 21 zm155 dX10_areApart_19 rfl rfl).trans ?_
  refine (ze_aload_n 22 zm155 dX10_areApart_21 rfl rfl).trans ?_
  refine (ze_getR 25 zm155 dX10_areApart_22 f10_17 k173_10 t10_3 (rr173_3 b) rfl).trans ?_
  refine (ze_iconst 26 zm155 dX10_areApart_25 ci_0 rfl).trans ?_
  refine (ze_iaload (t := 0) 27 zm155 dX10_areApart_26 k176_100 n176 vi_0_2 tn_0 rfl).trans ?_
  exact ze_icmp_ge 73 30 zm155 dX10_areApart_27 (by decide) rfl
theorem b155_30 (sc : zScr) (v1 : Int32) (v2 : Int32) (v3 : Int32) (v4 : Int32) (i : Nat → Nat → Int32) (b : Bool) (l : Nat → Nat → Int64) : zev sc (155, 30, [some (.ref 173), some (.int v1), some (.int v2), some (.int v3), some (.int v4)], [], (197, i, (zRF b), l)) = if v2 = 0 then zev sc (155, 65, [some (.ref 173), some (.int v1), some (.int v2), some (.int v3), some (.int v4)], [], (197, i, (zRF b), l)) else zev sc (155, 34, [some (.ref 173), some (.int v1), some (.int v2), some (.int v3), some (.int v4)], [], (197, i, (zRF b), l)) := by
  refine (ze_iload_n 31 zm155 dX10_areApart_30 rfl rfl).trans ?_
  exact ze_if_eq 65 34 zm155 dX10_areApart_31 (by decide) rfl
theorem b155_34 (sc : zScr) (v1 : Int32) (v2 : Int32) (v3 : Int32) (v4 : Int32) (i : Nat → Nat → Int32) (b : Bool) (l : Nat → Nat → Int64) : zev sc (155, 34, [some (.ref 173), some (.int v1), some (.int v2), some (.int v3), some (.int v4)], [], (197, i, (zRF b), l)) = (zev sc (120, 0, [some (.int v1), some (.int v3)], [], (197, i, (zRF b), l))).bind (fun x => zev sc (155, 39, [some (.ref 173), some (.int v1), some (.int v2), some (.int v3), some (.int v4)], [x.1], x.2)) := by
  refine (ze_iload_n 35 zm155 dX10_areApart_34 rfl rfl).trans ?_
  refine (ze_iload_n 36 zm155 dX10_areApart_35 rfl rfl).trans ?_
  exact ze_statI (as := [.int v1, .int v3]) (rest := []) 39 zm155 dX10_areApart_36 r10_137 zm120 rfl rfl rfl rfl rfl rfl
theorem b155_39 (sc : zScr) (v1 : Int32) (v2 : Int32) (v3 : Int32) (v4 : Int32) (s0 : Int32) (i : Nat → Nat → Int32) (b : Bool) (l : Nat → Nat → Int64) : zev sc (155, 39, [some (.ref 173), some (.int v1), some (.int v2), some (.int v3), some (.int v4)], [.int s0], (197, i, (zRF b), l)) = if s0 = 0 then zev sc (155, 42, [some (.ref 173), some (.int v1), some (.int v2), some (.int v3), some (.int v4)], [], (197, i, (zRF b), l)) else zev sc (155, 61, [some (.ref 173), some (.int v1), some (.int v2), some (.int v3), some (.int v4)], [], (197, i, (zRF b), l)) := by
  exact ze_if_ne 61 42 zm155 dX10_areApart_39 (by decide) rfl
theorem b155_42 (sc : zScr) (v1 : Int32) (v2 : Int32) (v3 : Int32) (v4 : Int32) (i : Nat → Nat → Int32) (b : Bool) (l : Nat → Nat → Int64) : zev sc (155, 42, [some (.ref 173), some (.int v1), some (.int v2), some (.int v3), some (.int v4)], [], (197, i, (zRF b), l)) = (zev sc (120, 0, [some (.int v1), some (.int v4)], [], (197, i, (zRF b), l))).bind (fun x => zev sc (155, 48, [some (.ref 173), some (.int v1), some (.int v2), some (.int v3), some (.int v4)], [x.1], x.2)) := by
  refine (ze_iload_n 43 zm155 dX10_areApart_42 rfl rfl).trans ?_
  refine (ze_iload 45 zm155 dX10_areApart_43 rfl rfl).trans ?_
  exact ze_statI (as := [.int v1, .int v4]) (rest := []) 48 zm155 dX10_areApart_45 r10_137 zm120 rfl rfl rfl rfl rfl rfl
theorem b155_48 (sc : zScr) (v1 : Int32) (v2 : Int32) (v3 : Int32) (v4 : Int32) (s0 : Int32) (i : Nat → Nat → Int32) (b : Bool) (l : Nat → Nat → Int64) : zev sc (155, 48, [some (.ref 173), some (.int v1), some (.int v2), some (.int v3), some (.int v4)], [.int s0], (197, i, (zRF b), l)) = if s0 = 0 then zev sc (155, 51, [some (.ref 173), some (.int v1), some (.int v2), some (.int v3), some (.int v4)], [], (197, i, (zRF b), l)) else zev sc (155, 61, [some (.ref 173), some (.int v1), some (.int v2), some (.int v3), some (.int v4)], [], (197, i, (zRF b), l)) := by
  exact ze_if_ne 61 51 zm155 dX10_areApart_48 (by decide) rfl
theorem b155_51 (sc : zScr) (v1 : Int32) (v2 : Int32) (v3 : Int32) (v4 : Int32) (i : Nat → Nat → Int32) (b : Bool) (l : Nat → Nat → Int64) : zev sc (155, 51, [some (.ref 173), some (.int v1), some (.int v2), some (.int v3), some (.int v4)], [], (197, i, (zRF b), l)) = (zev sc (153, 0, [some (.ref 173), some (.int v3), some (.int v4), none], [], (197, i, (zRF b), l))).bind (fun x => zev sc (155, 58, [some (.ref 173), some (.int v1), some (.int v2), some (.int v3), some (.int v4)], [x.1], x.2)) := by
  refine (ze_aload_n 52 zm155 dX10_areApart_51 rfl rfl).trans ?_
  refine (ze_iload_n 53 zm155 dX10_areApart_52 rfl rfl).trans ?_
  refine (ze_iload 55 zm155 dX10_areApart_53 rfl rfl).trans ?_
  exact ze_virtI (as := [.int v3, .int v4]) (rest := []) 58 zm155 dX10_areApart_55 r10_177 zm153 rfl rfl k173_10 rfl rfl rfl rfl
theorem b155_58 (sc : zScr) (v1 : Int32) (v2 : Int32) (v3 : Int32) (v4 : Int32) (s0 : Int32) (i : Nat → Nat → Int32) (b : Bool) (l : Nat → Nat → Int64) : zev sc (155, 58, [some (.ref 173), some (.int v1), some (.int v2), some (.int v3), some (.int v4)], [.int s0], (197, i, (zRF b), l)) = if s0 = 0 then zev sc (155, 61, [some (.ref 173), some (.int v1), some (.int v2), some (.int v3), some (.int v4)], [], (197, i, (zRF b), l)) else zev sc (155, 65, [some (.ref 173), some (.int v1), some (.int v2), some (.int v3), some (.int v4)], [], (197, i, (zRF b), l)) := by
  exact ze_if_ne 65 61 zm155 dX10_areApart_58 (by decide) rfl
theorem b155_61 (sc : zScr) (v1 : Int32) (v2 : Int32) (v3 : Int32) (v4 : Int32) (i : Nat → Nat → Int32) (b : Bool) (l : Nat → Nat → Int64) : zev sc (155, 61, [some (.ref 173), some (.int v1), some (.int v2), some (.int v3), some (.int v4)], [], (197, i, (zRF b), l)) = zev sc (155, 66, [some (.ref 173), some (.int v1), some (.int v2), some (.int v3), some (.int v4)], [.int (1 : Int32)], (197, i, (zRF b), l)) := by
  refine (ze_iconst 62 zm155 dX10_areApart_61 ci_1 rfl).trans ?_
  exact ze_goto 66 zm155 dX10_areApart_62 (by decide)
theorem b155_65 (sc : zScr) (v1 : Int32) (v2 : Int32) (v3 : Int32) (v4 : Int32) (i : Nat → Nat → Int32) (b : Bool) (l : Nat → Nat → Int64) : zev sc (155, 65, [some (.ref 173), some (.int v1), some (.int v2), some (.int v3), some (.int v4)], [], (197, i, (zRF b), l)) = zev sc (155, 66, [some (.ref 173), some (.int v1), some (.int v2), some (.int v3), some (.int v4)], [.int (0 : Int32)], (197, i, (zRF b), l)) := by
  refine (ze_iconst 66 zm155 dX10_areApart_65 ci_0 rfl).trans ?_
  rfl
theorem b155_66 (sc : zScr) (v1 : Int32) (v2 : Int32) (v3 : Int32) (v4 : Int32) (s0 : Int32) (i : Nat → Nat → Int32) (b : Bool) (l : Nat → Nat → Int64) : zev sc (155, 66, [some (.ref 173), some (.int v1), some (.int v2), some (.int v3), some (.int v4)], [.int s0], (197, i, (zRF b), l)) = zev sc (155, 19, [some (.ref 173), some (.int v1), some (.int s0), some (.int v3), some (.int (v4 + 1))], [], (197, i, (zRF b), l)) := by
  refine (ze_istore_n (A := 99) (ls' := [some (.ref 173), some (.int v1), some (.int s0), some (.int v3), some (.int v4)]) 67 zm155 dX10_areApart_66 za155 rfl rfl rfl rfl rfl).trans ?_
  refine (ze_iinc (v := (1 : Int32)) (A := 99) (ls' := [some (.ref 173), some (.int v1), some (.int s0), some (.int v3), some (.int (v4 + 1))]) 70 zm155 dX10_areApart_67 rfl ci_1 za155 rfl rfl rfl rfl rfl).trans ?_
  exact ze_goto 19 zm155 dX10_areApart_70 (by decide)
theorem b155_73 (sc : zScr) (v1 : Int32) (v2 : Int32) (v3 : Int32) (v4 : Int32) (i : Nat → Nat → Int32) (b : Bool) (l : Nat → Nat → Int64) : zev sc (155, 73, [some (.ref 173), some (.int v1), some (.int v2), some (.int v3), some (.int v4)], [], (197, i, (zRF b), l)) = zev sc (155, 4, [some (.ref 173), some (.int v1), some (.int v2), some (.int (v3 + 1)), some (.int v4)], [], (197, i, (zRF b), l)) := by
  refine (ze_iinc (v := (1 : Int32)) (A := 99) (ls' := [some (.ref 173), some (.int v1), some (.int v2), some (.int (v3 + 1)), some (.int v4)]) 76 zm155 dX10_areApart_73 rfl ci_1 za155 rfl rfl rfl rfl rfl).trans ?_
  exact ze_goto 4 zm155 dX10_areApart_76 (by decide)
theorem b155_79 (sc : zScr) (v1 : Int32) (v2 : Int32) (v3 : Int32) (w4 : Option Value) (i : Nat → Nat → Int32) (b : Bool) (l : Nat → Nat → Int64) (h1 : v2 = 0 ∨ v2 = 1) : zev sc (155, 79, [some (.ref 173), some (.int v1), some (.int v2), some (.int v3), w4], [], (197, i, (zRF b), l)) = some (.int v2, (197, i, (zRF b), l)) := by
  refine (ze_iload_n 80 zm155 dX10_areApart_79 rfl rfl).trans ?_
  exact ze_zreturn zm155 dX10_areApart_80 rfl h1
/-! HarpFencesModel.areHeard (I)Z: method 156 -/
theorem b156_0 (sc : zScr) (v1 : Int32) (i : Nat → Nat → Int32) (b : Bool) (l : Nat → Nat → Int64) : zev sc (156, 0, [some (.ref 173), some (.int v1), none, none], [], (197, i, (zRF b), l)) = zev sc (156, 4, [some (.ref 173), some (.int v1), some (.int (1 : Int32)), some (.int (0 : Int32))], [], (197, i, (zRF b), l)) := by
  refine (ze_iconst 1 zm156 dX10_areHeard_0 ci_1 rfl).trans ?_
  refine (ze_istore_n (A := 99) (ls' := [some (.ref 173), some (.int v1), some (.int (1 : Int32)), none]) 2 zm156 dX10_areHeard_1 za156 rfl rfl rfl rfl rfl).trans ?_
  refine (ze_iconst 3 zm156 dX10_areHeard_2 ci_0 rfl).trans ?_
  refine (ze_istore_n (A := 99) (ls' := [some (.ref 173), some (.int v1), some (.int (1 : Int32)), some (.int (0 : Int32))]) 4 zm156 dX10_areHeard_3 za156 rfl rfl rfl rfl rfl).trans ?_
  rfl
theorem b156_4 (sc : zScr) (v1 : Int32) (v2 : Int32) (v3 : Int32) (i : Nat → Nat → Int32) (b : Bool) (l : Nat → Nat → Int64) : zev sc (156, 4, [some (.ref 173), some (.int v1), some (.int v2), some (.int v3)], [], (197, i, (zRF b), l)) = if (i 176 0) ≤ v3 then zev sc (156, 64, [some (.ref 173), some (.int v1), some (.int v2), some (.int v3)], [], (197, i, (zRF b), l)) else zev sc (156, 14, [some (.ref 173), some (.int v1), some (.int v2), some (.int v3)], [], (197, i, (zRF b), l)) := by
  refine (ze_iload_n 5 zm156 dX10_areHeard_4 rfl rfl).trans ?_
  refine (ze_aload_n 6 zm156 dX10_areHeard_5 rfl rfl).trans ?_
  refine (ze_getR 9 zm156 dX10_areHeard_6 f10_17 k173_10 t10_3 (rr173_3 b) rfl).trans ?_
  refine (ze_iconst 10 zm156 dX10_areHeard_9 ci_0 rfl).trans ?_
  refine (ze_iaload (t := 0) 11 zm156 dX10_areHeard_10 k176_100 n176 vi_0_2 tn_0 rfl).trans ?_
  exact ze_icmp_ge 64 14 zm156 dX10_areHeard_11 (by decide) rfl
theorem b156_14 (sc : zScr) (v1 : Int32) (v2 : Int32) (v3 : Int32) (i : Nat → Nat → Int32) (b : Bool) (l : Nat → Nat → Int64) : zev sc (156, 14, [some (.ref 173), some (.int v1), some (.int v2), some (.int v3)], [], (197, i, (zRF b), l)) = if v2 = 0 then zev sc (156, 56, [some (.ref 173), some (.int v1), some (.int v2), some (.int v3)], [], (197, i, (zRF b), l)) else zev sc (156, 18, [some (.ref 173), some (.int v1), some (.int v2), some (.int v3)], [], (197, i, (zRF b), l)) := by
  refine (ze_iload_n 15 zm156 dX10_areHeard_14 rfl rfl).trans ?_
  exact ze_if_eq 56 18 zm156 dX10_areHeard_15 (by decide) rfl
theorem b156_18 (sc : zScr) (v1 : Int32) (v2 : Int32) (v3 : Int32) (i : Nat → Nat → Int32) (b : Bool) (l : Nat → Nat → Int64) : zev sc (156, 18, [some (.ref 173), some (.int v1), some (.int v2), some (.int v3)], [], (197, i, (zRF b), l)) = (zev sc (138, 0, [some (.ref 173), some (.int v3)], [], (197, i, (zRF b), l))).bind (fun x => zev sc (156, 23, [some (.ref 173), some (.int v1), some (.int v2), some (.int v3)], [x.1], x.2)) := by
  refine (ze_aload_n 19 zm156 dX10_areHeard_18 rfl rfl).trans ?_
  refine (ze_iload_n 20 zm156 dX10_areHeard_19 rfl rfl).trans ?_
  exact ze_virtI (as := [.int v3]) (rest := []) 23 zm156 dX10_areHeard_20 r10_174 zm138 rfl rfl k173_10 rfl rfl rfl rfl
theorem b156_23 (sc : zScr) (v1 : Int32) (v2 : Int32) (v3 : Int32) (s0 : Int32) (i : Nat → Nat → Int32) (b : Bool) (l : Nat → Nat → Int64) : zev sc (156, 23, [some (.ref 173), some (.int v1), some (.int v2), some (.int v3)], [.int s0], (197, i, (zRF b), l)) = if s0 = 0 then zev sc (156, 52, [some (.ref 173), some (.int v1), some (.int v2), some (.int v3)], [], (197, i, (zRF b), l)) else zev sc (156, 26, [some (.ref 173), some (.int v1), some (.int v2), some (.int v3)], [], (197, i, (zRF b), l)) := by
  exact ze_if_eq 52 26 zm156 dX10_areHeard_23 (by decide) rfl
theorem b156_26 (sc : zScr) (v1 : Int32) (v2 : Int32) (v3 : Int32) (i : Nat → Nat → Int32) (b : Bool) (l : Nat → Nat → Int64) (h1 : vp_in v3 16) : zev sc (156, 26, [some (.ref 173), some (.int v1), some (.int v2), some (.int v3)], [], (197, i, (zRF b), l)) = (zev sc (120, 0, [some (.int v1), some (.int (i 177 v3.toNatClampNeg))], [], (197, i, (zRF b), l))).bind (fun x => zev sc (156, 36, [some (.ref 173), some (.int v1), some (.int v2), some (.int v3)], [x.1], x.2)) := by
  refine (ze_iload_n 27 zm156 dX10_areHeard_26 rfl rfl).trans ?_
  refine (ze_aload_n 28 zm156 dX10_areHeard_27 rfl rfl).trans ?_
  refine (ze_getR 31 zm156 dX10_areHeard_28 f10_20 k173_10 t10_4 (rr173_4 b) rfl).trans ?_
  refine (ze_iload_n 32 zm156 dX10_areHeard_31 rfl rfl).trans ?_
  refine (ze_iaload (t := v3.toNatClampNeg) 33 zm156 dX10_areHeard_32 k177_100 n177 h1 rfl rfl).trans ?_
  exact ze_statI (as := [.int v1, .int (i 177 v3.toNatClampNeg)]) (rest := []) 36 zm156 dX10_areHeard_33 r10_137 zm120 rfl rfl rfl rfl rfl rfl
theorem b156_36 (sc : zScr) (v1 : Int32) (v2 : Int32) (v3 : Int32) (s0 : Int32) (i : Nat → Nat → Int32) (b : Bool) (l : Nat → Nat → Int64) : zev sc (156, 36, [some (.ref 173), some (.int v1), some (.int v2), some (.int v3)], [.int s0], (197, i, (zRF b), l)) = if s0 = 0 then zev sc (156, 39, [some (.ref 173), some (.int v1), some (.int v2), some (.int v3)], [], (197, i, (zRF b), l)) else zev sc (156, 52, [some (.ref 173), some (.int v1), some (.int v2), some (.int v3)], [], (197, i, (zRF b), l)) := by
  exact ze_if_ne 52 39 zm156 dX10_areHeard_36 (by decide) rfl
theorem b156_39 (sc : zScr) (v1 : Int32) (v2 : Int32) (v3 : Int32) (i : Nat → Nat → Int32) (b : Bool) (l : Nat → Nat → Int64) (h1 : vp_in v3 16) : zev sc (156, 39, [some (.ref 173), some (.int v1), some (.int v2), some (.int v3)], [], (197, i, (zRF b), l)) = (zev sc (120, 0, [some (.int v1), some (.int (i 178 v3.toNatClampNeg))], [], (197, i, (zRF b), l))).bind (fun x => zev sc (156, 49, [some (.ref 173), some (.int v1), some (.int v2), some (.int v3)], [x.1], x.2)) := by
  refine (ze_iload_n 40 zm156 dX10_areHeard_39 rfl rfl).trans ?_
  refine (ze_aload_n 41 zm156 dX10_areHeard_40 rfl rfl).trans ?_
  refine (ze_getR 44 zm156 dX10_areHeard_41 f10_23 k173_10 t10_5 (rr173_5 b) rfl).trans ?_
  refine (ze_iload_n 45 zm156 dX10_areHeard_44 rfl rfl).trans ?_
  refine (ze_iaload (t := v3.toNatClampNeg) 46 zm156 dX10_areHeard_45 k178_100 n178 h1 rfl rfl).trans ?_
  exact ze_statI (as := [.int v1, .int (i 178 v3.toNatClampNeg)]) (rest := []) 49 zm156 dX10_areHeard_46 r10_137 zm120 rfl rfl rfl rfl rfl rfl
theorem b156_49 (sc : zScr) (v1 : Int32) (v2 : Int32) (v3 : Int32) (s0 : Int32) (i : Nat → Nat → Int32) (b : Bool) (l : Nat → Nat → Int64) : zev sc (156, 49, [some (.ref 173), some (.int v1), some (.int v2), some (.int v3)], [.int s0], (197, i, (zRF b), l)) = if s0 = 0 then zev sc (156, 56, [some (.ref 173), some (.int v1), some (.int v2), some (.int v3)], [], (197, i, (zRF b), l)) else zev sc (156, 52, [some (.ref 173), some (.int v1), some (.int v2), some (.int v3)], [], (197, i, (zRF b), l)) := by
  exact ze_if_eq 56 52 zm156 dX10_areHeard_49 (by decide) rfl
theorem b156_52 (sc : zScr) (v1 : Int32) (v2 : Int32) (v3 : Int32) (i : Nat → Nat → Int32) (b : Bool) (l : Nat → Nat → Int64) : zev sc (156, 52, [some (.ref 173), some (.int v1), some (.int v2), some (.int v3)], [], (197, i, (zRF b), l)) = zev sc (156, 57, [some (.ref 173), some (.int v1), some (.int v2), some (.int v3)], [.int (1 : Int32)], (197, i, (zRF b), l)) := by
  refine (ze_iconst 53 zm156 dX10_areHeard_52 ci_1 rfl).trans ?_
  exact ze_goto 57 zm156 dX10_areHeard_53 (by decide)
theorem b156_56 (sc : zScr) (v1 : Int32) (v2 : Int32) (v3 : Int32) (i : Nat → Nat → Int32) (b : Bool) (l : Nat → Nat → Int64) : zev sc (156, 56, [some (.ref 173), some (.int v1), some (.int v2), some (.int v3)], [], (197, i, (zRF b), l)) = zev sc (156, 57, [some (.ref 173), some (.int v1), some (.int v2), some (.int v3)], [.int (0 : Int32)], (197, i, (zRF b), l)) := by
  refine (ze_iconst 57 zm156 dX10_areHeard_56 ci_0 rfl).trans ?_
  rfl
theorem b156_57 (sc : zScr) (v1 : Int32) (v2 : Int32) (v3 : Int32) (s0 : Int32) (i : Nat → Nat → Int32) (b : Bool) (l : Nat → Nat → Int64) : zev sc (156, 57, [some (.ref 173), some (.int v1), some (.int v2), some (.int v3)], [.int s0], (197, i, (zRF b), l)) = zev sc (156, 4, [some (.ref 173), some (.int v1), some (.int s0), some (.int (v3 + 1))], [], (197, i, (zRF b), l)) := by
  refine (ze_istore_n (A := 99) (ls' := [some (.ref 173), some (.int v1), some (.int s0), some (.int v3)]) 58 zm156 dX10_areHeard_57 za156 rfl rfl rfl rfl rfl).trans ?_
  refine (ze_iinc (v := (1 : Int32)) (A := 99) (ls' := [some (.ref 173), some (.int v1), some (.int s0), some (.int (v3 + 1))]) 61 zm156 dX10_areHeard_58 rfl ci_1 za156 rfl rfl rfl rfl rfl).trans ?_
  exact ze_goto 4 zm156 dX10_areHeard_61 (by decide)
theorem b156_64 (sc : zScr) (v1 : Int32) (v2 : Int32) (v3 : Int32) (i : Nat → Nat → Int32) (b : Bool) (l : Nat → Nat → Int64) (h1 : v2 = 0 ∨ v2 = 1) : zev sc (156, 64, [some (.ref 173), some (.int v1), some (.int v2), some (.int v3)], [], (197, i, (zRF b), l)) = some (.int v2, (197, i, (zRF b), l)) := by
  refine (ze_iload_n 65 zm156 dX10_areHeard_64 rfl rfl).trans ?_
  exact ze_zreturn zm156 dX10_areHeard_65 rfl h1
/-! HarpFencesModel.fewest (I)I: method 157 -/
theorem b157_0 (sc : zScr) (v1 : Int32) (i : Nat → Nat → Int32) (b : Bool) (l : Nat → Nat → Int64) : zev sc (157, 0, [some (.ref 173), some (.int v1), none, none, none, none], [], (197, i, (zRF b), l)) = if v1 = 0 then zev sc (157, 4, [some (.ref 173), some (.int v1), none, none, none, none], [], (197, i, (zRF b), l)) else zev sc (157, 13, [some (.ref 173), some (.int v1), none, none, none, none], [], (197, i, (zRF b), l)) := by
  refine (ze_iload_n 1 zm157 dX10_fewest_0 rfl rfl).trans ?_
  exact ze_if_ne 13 4 zm157 dX10_fewest_1 (by decide) rfl
theorem b157_4 (sc : zScr) (v1 : Int32) (i : Nat → Nat → Int32) (b : Bool) (l : Nat → Nat → Int64) : zev sc (157, 4, [some (.ref 173), some (.int v1), none, none, none, none], [], (197, i, (zRF b), l)) = zev sc (157, 19, [some (.ref 173), some (.int v1), none, none, none, none], [.int (i 176 0)], (197, i, (zRF b), l)) := by
  refine (ze_aload_n 5 zm157 dX10_fewest_4 rfl rfl).trans ?_
  refine (ze_getR 8 zm157 dX10_fewest_5 f10_17 k173_10 t10_3 (rr173_3 b) rfl).trans ?_
  refine (ze_iconst 9 zm157 dX10_fewest_8 ci_0 rfl).trans ?_
  refine (ze_iaload (t := 0) 10 zm157 dX10_fewest_9 k176_100 n176 vi_0_2 tn_0 rfl).trans ?_
  exact ze_goto 19 zm157 dX10_fewest_10 (by decide)
theorem b157_13 (sc : zScr) (v1 : Int32) (i : Nat → Nat → Int32) (b : Bool) (l : Nat → Nat → Int64) : zev sc (157, 13, [some (.ref 173), some (.int v1), none, none, none, none], [], (197, i, (zRF b), l)) = zev sc (157, 19, [some (.ref 173), some (.int v1), none, none, none, none], [.int (i 175 0)], (197, i, (zRF b), l)) := by
  refine (ze_aload_n 14 zm157 dX10_fewest_13 rfl rfl).trans ?_
  refine (ze_getR 17 zm157 dX10_fewest_14 f10_13 k173_10 t10_2 (rr173_2 b) rfl).trans ?_
  refine (ze_iconst 18 zm157 dX10_fewest_17 ci_0 rfl).trans ?_
  refine (ze_iaload (t := 0) 19 zm157 dX10_fewest_18 k175_100 n175 vi_0_2 tn_0 rfl).trans ?_
  rfl
theorem b157_19 (sc : zScr) (v1 : Int32) (s0 : Int32) (i : Nat → Nat → Int32) (b : Bool) (l : Nat → Nat → Int64) : zev sc (157, 19, [some (.ref 173), some (.int v1), none, none, none, none], [.int s0], (197, i, (zRF b), l)) = (zev sc (140, 0, [some (.int s0)], [], (197, i, (zRF b), l))).bind (fun x => zev sc (157, 22, [some (.ref 173), some (.int v1), none, none, none, none], [x.1], x.2)) := by
  exact ze_statI (as := [.int s0]) (rest := []) 22 zm157 dX10_fewest_19 r10_171 zm140 rfl rfl rfl rfl rfl rfl
theorem b157_22 (sc : zScr) (v1 : Int32) (s0 : Int32) (i : Nat → Nat → Int32) (b : Bool) (l : Nat → Nat → Int64) : zev sc (157, 22, [some (.ref 173), some (.int v1), none, none, none, none], [.int s0], (197, i, (zRF b), l)) = zev sc (157, 28, [some (.ref 173), some (.int v1), some (.int s0), some (.int s0), some (.int s0), none], [], (197, i, (zRF b), l)) := by
  refine (ze_istore_n (A := 99) (ls' := [some (.ref 173), some (.int v1), some (.int s0), none, none, none]) 23 zm157 dX10_fewest_22 za157 rfl rfl rfl rfl rfl).trans ?_
  refine (ze_iload_n 24 zm157 dX10_fewest_23 rfl rfl).trans ?_
  refine (ze_istore_n (A := 99) (ls' := [some (.ref 173), some (.int v1), some (.int s0), some (.int s0), none, none]) 25 zm157 dX10_fewest_24 za157 rfl rfl rfl rfl rfl).trans ?_
  refine (ze_iload_n 26 zm157 dX10_fewest_25 rfl rfl).trans ?_
  refine (ze_istore (A := 99) (ls' := [some (.ref 173), some (.int v1), some (.int s0), some (.int s0), some (.int s0), none]) 28 zm157 dX10_fewest_26 za157 rfl rfl rfl rfl rfl).trans ?_
  rfl
theorem b157_28 (sc : zScr) (v1 : Int32) (v2 : Int32) (v3 : Int32) (v4 : Int32) (w5 : Option Value) (i : Nat → Nat → Int32) (b : Bool) (l : Nat → Nat → Int64) : zev sc (157, 28, [some (.ref 173), some (.int v1), some (.int v2), some (.int v3), some (.int v4), w5], [], (197, i, (zRF b), l)) = if v4 < 0 then zev sc (157, 95, [some (.ref 173), some (.int v1), some (.int v2), some (.int v3), some (.int v4), w5], [], (197, i, (zRF b), l)) else zev sc (157, 33, [some (.ref 173), some (.int v1), some (.int v2), some (.int v3), some (.int v4), w5], [], (197, i, (zRF b), l)) := by
  refine (ze_iload 30 zm157 dX10_fewest_28 rfl rfl).trans ?_
  exact ze_if_lt 95 33 zm157 dX10_fewest_30 (by decide) rfl
theorem b157_33 (sc : zScr) (v1 : Int32) (v2 : Int32) (v3 : Int32) (v4 : Int32) (w5 : Option Value) (i : Nat → Nat → Int32) (b : Bool) (l : Nat → Nat → Int64) : zev sc (157, 33, [some (.ref 173), some (.int v1), some (.int v2), some (.int v3), some (.int v4), w5], [], (197, i, (zRF b), l)) = (zev sc (139, 0, [some (.int v4), none, none], [], (197, i, (zRF b), l))).bind (fun x => zev sc (157, 38, [some (.ref 173), some (.int v1), some (.int v2), some (.int v3), some (.int v4), w5], [x.1], x.2)) := by
  refine (ze_iload 35 zm157 dX10_fewest_33 rfl rfl).trans ?_
  exact ze_statI (as := [.int v4]) (rest := []) 38 zm157 dX10_fewest_35 r10_167 zm139 rfl rfl rfl rfl rfl rfl
theorem b157_38 (sc : zScr) (v1 : Int32) (v2 : Int32) (v3 : Int32) (v4 : Int32) (w5 : Option Value) (s0 : Int32) (i : Nat → Nat → Int32) (b : Bool) (l : Nat → Nat → Int64) : zev sc (157, 38, [some (.ref 173), some (.int v1), some (.int v2), some (.int v3), some (.int v4), w5], [.int s0], (197, i, (zRF b), l)) = (zev sc (139, 0, [some (.int v3), none, none], [], (197, i, (zRF b), l))).bind (fun x => zev sc (157, 42, [some (.ref 173), some (.int v1), some (.int v2), some (.int v3), some (.int v4), w5], [x.1, .int s0], x.2)) := by
  refine (ze_iload_n 39 zm157 dX10_fewest_38 rfl rfl).trans ?_
  exact ze_statI (as := [.int v3]) (rest := [.int s0]) 42 zm157 dX10_fewest_39 r10_167 zm139 rfl rfl rfl rfl rfl rfl
theorem b157_42 (sc : zScr) (v1 : Int32) (v2 : Int32) (v3 : Int32) (v4 : Int32) (w5 : Option Value) (s0 : Int32) (s1 : Int32) (i : Nat → Nat → Int32) (b : Bool) (l : Nat → Nat → Int64) : zev sc (157, 42, [some (.ref 173), some (.int v1), some (.int v2), some (.int v3), some (.int v4), w5], [.int s0, .int s1], (197, i, (zRF b), l)) = if s0 < s1 then zev sc (157, 49, [some (.ref 173), some (.int v1), some (.int v2), some (.int v3), some (.int v4), w5], [], (197, i, (zRF b), l)) else zev sc (157, 45, [some (.ref 173), some (.int v1), some (.int v2), some (.int v3), some (.int v4), w5], [], (197, i, (zRF b), l)) := by
  exact ze_icmp_gt 49 45 zm157 dX10_fewest_42 (by decide) rfl
theorem b157_45 (sc : zScr) (v1 : Int32) (v2 : Int32) (v3 : Int32) (v4 : Int32) (w5 : Option Value) (i : Nat → Nat → Int32) (b : Bool) (l : Nat → Nat → Int64) : zev sc (157, 45, [some (.ref 173), some (.int v1), some (.int v2), some (.int v3), some (.int v4), w5], [], (197, i, (zRF b), l)) = zev sc (157, 50, [some (.ref 173), some (.int v1), some (.int v2), some (.int v3), some (.int v4), w5], [.int (1 : Int32)], (197, i, (zRF b), l)) := by
  refine (ze_iconst 46 zm157 dX10_fewest_45 ci_1 rfl).trans ?_
  exact ze_goto 50 zm157 dX10_fewest_46 (by decide)
theorem b157_49 (sc : zScr) (v1 : Int32) (v2 : Int32) (v3 : Int32) (v4 : Int32) (w5 : Option Value) (i : Nat → Nat → Int32) (b : Bool) (l : Nat → Nat → Int64) : zev sc (157, 49, [some (.ref 173), some (.int v1), some (.int v2), some (.int v3), some (.int v4), w5], [], (197, i, (zRF b), l)) = zev sc (157, 50, [some (.ref 173), some (.int v1), some (.int v2), some (.int v3), some (.int v4), w5], [.int (0 : Int32)], (197, i, (zRF b), l)) := by
  refine (ze_iconst 50 zm157 dX10_fewest_49 ci_0 rfl).trans ?_
  rfl
theorem b157_50 (sc : zScr) (v1 : Int32) (v2 : Int32) (v3 : Int32) (v4 : Int32) (w5 : Option Value) (s0 : Int32) (i : Nat → Nat → Int32) (b : Bool) (l : Nat → Nat → Int64) : zev sc (157, 50, [some (.ref 173), some (.int v1), some (.int v2), some (.int v3), some (.int v4), w5], [.int s0], (197, i, (zRF b), l)) = if s0 = 0 then zev sc (157, 87, [some (.ref 173), some (.int v1), some (.int v2), some (.int v3), some (.int v4), some (.int s0)], [], (197, i, (zRF b), l)) else zev sc (157, 57, [some (.ref 173), some (.int v1), some (.int v2), some (.int v3), some (.int v4), some (.int s0)], [], (197, i, (zRF b), l)) := by
  refine (ze_istore (A := 99) (ls' := [some (.ref 173), some (.int v1), some (.int v2), some (.int v3), some (.int v4), some (.int s0)]) 52 zm157 dX10_fewest_50 za157 rfl rfl rfl rfl rfl).trans ?_
  refine (ze_iload 54 zm157 dX10_fewest_52 rfl rfl).trans ?_
  exact ze_if_eq 87 57 zm157 dX10_fewest_54 (by decide) rfl
theorem b157_57 (sc : zScr) (v1 : Int32) (v2 : Int32) (v3 : Int32) (v4 : Int32) (v5 : Int32) (i : Nat → Nat → Int32) (b : Bool) (l : Nat → Nat → Int64) : zev sc (157, 57, [some (.ref 173), some (.int v1), some (.int v2), some (.int v3), some (.int v4), some (.int v5)], [], (197, i, (zRF b), l)) = if v1 = 0 then zev sc (157, 61, [some (.ref 173), some (.int v1), some (.int v2), some (.int v3), some (.int v4), some (.int v5)], [], (197, i, (zRF b), l)) else zev sc (157, 73, [some (.ref 173), some (.int v1), some (.int v2), some (.int v3), some (.int v4), some (.int v5)], [], (197, i, (zRF b), l)) := by
  refine (ze_iload_n 58 zm157 dX10_fewest_57 rfl rfl).trans ?_
  exact ze_if_ne 73 61 zm157 dX10_fewest_58 (by decide) rfl
theorem b157_61 (sc : zScr) (v1 : Int32) (v2 : Int32) (v3 : Int32) (v4 : Int32) (v5 : Int32) (i : Nat → Nat → Int32) (b : Bool) (l : Nat → Nat → Int64) : zev sc (157, 61, [some (.ref 173), some (.int v1), some (.int v2), some (.int v3), some (.int v4), some (.int v5)], [], (197, i, (zRF b), l)) = (zev sc (155, 0, [some (.ref 173), some (.int v4), none, none, none], [], (197, i, (zRF b), l))).bind (fun x => zev sc (157, 67, [some (.ref 173), some (.int v1), some (.int v2), some (.int v3), some (.int v4), some (.int v5)], [x.1], x.2)) := by
  refine (ze_aload_n 62 zm157 dX10_fewest_61 rfl rfl).trans ?_
  refine (ze_iload 64 zm157 dX10_fewest_62 rfl rfl).trans ?_
  exact ze_virtI (as := [.int v4]) (rest := []) 67 zm157 dX10_fewest_64 r10_180 zm155 rfl rfl k173_10 rfl rfl rfl rfl
theorem b157_67 (sc : zScr) (v1 : Int32) (v2 : Int32) (v3 : Int32) (v4 : Int32) (v5 : Int32) (s0 : Int32) (i : Nat → Nat → Int32) (b : Bool) (l : Nat → Nat → Int64) : zev sc (157, 67, [some (.ref 173), some (.int v1), some (.int v2), some (.int v3), some (.int v4), some (.int v5)], [.int s0], (197, i, (zRF b), l)) = if s0 = 0 then zev sc (157, 87, [some (.ref 173), some (.int v1), some (.int v2), some (.int v3), some (.int v4), some (.int v5)], [], (197, i, (zRF b), l)) else zev sc (157, 70, [some (.ref 173), some (.int v1), some (.int v2), some (.int v3), some (.int v4), some (.int v5)], [], (197, i, (zRF b), l)) := by
  exact ze_if_eq 87 70 zm157 dX10_fewest_67 (by decide) rfl
theorem b157_70 (sc : zScr) (v1 : Int32) (v2 : Int32) (v3 : Int32) (v4 : Int32) (v5 : Int32) (i : Nat → Nat → Int32) (b : Bool) (l : Nat → Nat → Int64) : zev sc (157, 70, [some (.ref 173), some (.int v1), some (.int v2), some (.int v3), some (.int v4), some (.int v5)], [], (197, i, (zRF b), l)) = zev sc (157, 82, [some (.ref 173), some (.int v1), some (.int v2), some (.int v3), some (.int v4), some (.int v5)], [], (197, i, (zRF b), l)) := by
  exact ze_goto 82 zm157 dX10_fewest_70 (by decide)
theorem b157_73 (sc : zScr) (v1 : Int32) (v2 : Int32) (v3 : Int32) (v4 : Int32) (v5 : Int32) (i : Nat → Nat → Int32) (b : Bool) (l : Nat → Nat → Int64) : zev sc (157, 73, [some (.ref 173), some (.int v1), some (.int v2), some (.int v3), some (.int v4), some (.int v5)], [], (197, i, (zRF b), l)) = (zev sc (156, 0, [some (.ref 173), some (.int v4), none, none], [], (197, i, (zRF b), l))).bind (fun x => zev sc (157, 79, [some (.ref 173), some (.int v1), some (.int v2), some (.int v3), some (.int v4), some (.int v5)], [x.1], x.2)) := by
  refine (ze_aload_n 74 zm157 dX10_fewest_73 rfl rfl).trans ?_
  refine (ze_iload 76 zm157 dX10_fewest_74 rfl rfl).trans ?_
  exact ze_virtI (as := [.int v4]) (rest := []) 79 zm157 dX10_fewest_76 r10_183 zm156 rfl rfl k173_10 rfl rfl rfl rfl
theorem b157_79 (sc : zScr) (v1 : Int32) (v2 : Int32) (v3 : Int32) (v4 : Int32) (v5 : Int32) (s0 : Int32) (i : Nat → Nat → Int32) (b : Bool) (l : Nat → Nat → Int64) : zev sc (157, 79, [some (.ref 173), some (.int v1), some (.int v2), some (.int v3), some (.int v4), some (.int v5)], [.int s0], (197, i, (zRF b), l)) = if s0 = 0 then zev sc (157, 87, [some (.ref 173), some (.int v1), some (.int v2), some (.int v3), some (.int v4), some (.int v5)], [], (197, i, (zRF b), l)) else zev sc (157, 82, [some (.ref 173), some (.int v1), some (.int v2), some (.int v3), some (.int v4), some (.int v5)], [], (197, i, (zRF b), l)) := by
  exact ze_if_eq 87 82 zm157 dX10_fewest_79 (by decide) rfl
theorem b157_82 (sc : zScr) (v1 : Int32) (v2 : Int32) (v3 : Int32) (v4 : Int32) (v5 : Int32) (i : Nat → Nat → Int32) (b : Bool) (l : Nat → Nat → Int64) : zev sc (157, 82, [some (.ref 173), some (.int v1), some (.int v2), some (.int v3), some (.int v4), some (.int v5)], [], (197, i, (zRF b), l)) = zev sc (157, 88, [some (.ref 173), some (.int v1), some (.int v2), some (.int v3), some (.int v4), some (.int v5)], [.int v4], (197, i, (zRF b), l)) := by
  refine (ze_iload 84 zm157 dX10_fewest_82 rfl rfl).trans ?_
  exact ze_goto 88 zm157 dX10_fewest_84 (by decide)
theorem b157_87 (sc : zScr) (v1 : Int32) (v2 : Int32) (v3 : Int32) (v4 : Int32) (v5 : Int32) (i : Nat → Nat → Int32) (b : Bool) (l : Nat → Nat → Int64) : zev sc (157, 87, [some (.ref 173), some (.int v1), some (.int v2), some (.int v3), some (.int v4), some (.int v5)], [], (197, i, (zRF b), l)) = zev sc (157, 88, [some (.ref 173), some (.int v1), some (.int v2), some (.int v3), some (.int v4), some (.int v5)], [.int v3], (197, i, (zRF b), l)) := by
  refine (ze_iload_n 88 zm157 dX10_fewest_87 rfl rfl).trans ?_
  rfl
theorem b157_88 (sc : zScr) (v1 : Int32) (v2 : Int32) (v3 : Int32) (v4 : Int32) (v5 : Int32) (s0 : Int32) (i : Nat → Nat → Int32) (b : Bool) (l : Nat → Nat → Int64) : zev sc (157, 88, [some (.ref 173), some (.int v1), some (.int v2), some (.int v3), some (.int v4), some (.int v5)], [.int s0], (197, i, (zRF b), l)) = zev sc (157, 28, [some (.ref 173), some (.int v1), some (.int v2), some (.int s0), some (.int (v4 + (-1))), some (.int v5)], [], (197, i, (zRF b), l)) := by
  refine (ze_istore_n (A := 99) (ls' := [some (.ref 173), some (.int v1), some (.int v2), some (.int s0), some (.int v4), some (.int v5)]) 89 zm157 dX10_fewest_88 za157 rfl rfl rfl rfl rfl).trans ?_
  refine (ze_iinc (v := (-1 : Int32)) (A := 99) (ls' := [some (.ref 173), some (.int v1), some (.int v2), some (.int s0), some (.int (v4 + (-1))), some (.int v5)]) 92 zm157 dX10_fewest_89 rfl ci_m1 za157 rfl rfl rfl rfl rfl).trans ?_
  exact ze_goto 28 zm157 dX10_fewest_92 (by decide)
theorem b157_95 (sc : zScr) (v1 : Int32) (v2 : Int32) (v3 : Int32) (v4 : Int32) (w5 : Option Value) (i : Nat → Nat → Int32) (b : Bool) (l : Nat → Nat → Int64) : zev sc (157, 95, [some (.ref 173), some (.int v1), some (.int v2), some (.int v3), some (.int v4), w5], [], (197, i, (zRF b), l)) = some (.int v3, (197, i, (zRF b), l)) := by
  refine (ze_iload_n 96 zm157 dX10_fewest_95 rfl rfl).trans ?_
  exact ze_ireturn zm157 dX10_fewest_96 rfl
/-! HarpFencesModel.now (I)I: method 158 -/
theorem b158_0 (sc : zScr) (v1 : Int32) (i : Nat → Nat → Int32) (b : Bool) (l : Nat → Nat → Int64) : zev sc (158, 0, [some (.ref 173), some (.int v1)], [], (197, i, (zRF b), l)) = zev sc (158, zcs v1 93 [((0 : Int32), 44), ((1 : Int32), 52), ((2 : Int32), 60), ((3 : Int32), 68), ((4 : Int32), 76), ((5 : Int32), 81), ((6 : Int32), 87)], [some (.ref 173), some (.int v1)], [], (197, i, (zRF b), l)) := by
  refine (ze_iload_n 1 zm158 dX10_now_0 rfl rfl).trans ?_
  exact ze_table zm158 dX10_now_1 (sw_158_1 _)
theorem b158_44 (sc : zScr) (v1 : Int32) (i : Nat → Nat → Int32) (b : Bool) (l : Nat → Nat → Int64) : zev sc (158, 44, [some (.ref 173), some (.int v1)], [], (197, i, (zRF b), l)) = some (.int (i 187 16), (197, i, (zRF b), l)) := by
  refine (ze_aload_n 45 zm158 dX10_now_44 rfl rfl).trans ?_
  refine (ze_getR 48 zm158 dX10_now_45 f10_50 k173_10 t10_20 (rr173_20 b) rfl).trans ?_
  refine (ze_bipush 50 zm158 dX10_now_48 cb_16 rfl).trans ?_
  refine (ze_iaload (t := 16) 51 zm158 dX10_now_50 k187_100 n187 vi_16_30 tn_16 rfl).trans ?_
  exact ze_ireturn zm158 dX10_now_51 rfl
theorem b158_52 (sc : zScr) (v1 : Int32) (i : Nat → Nat → Int32) (b : Bool) (l : Nat → Nat → Int64) : zev sc (158, 52, [some (.ref 173), some (.int v1)], [], (197, i, (zRF b), l)) = some (.int (i 187 14), (197, i, (zRF b), l)) := by
  refine (ze_aload_n 53 zm158 dX10_now_52 rfl rfl).trans ?_
  refine (ze_getR 56 zm158 dX10_now_53 f10_50 k173_10 t10_20 (rr173_20 b) rfl).trans ?_
  refine (ze_bipush 58 zm158 dX10_now_56 cb_14 rfl).trans ?_
  refine (ze_iaload (t := 14) 59 zm158 dX10_now_58 k187_100 n187 vi_14_30 tn_14 rfl).trans ?_
  exact ze_ireturn zm158 dX10_now_59 rfl
theorem b158_60 (sc : zScr) (v1 : Int32) (i : Nat → Nat → Int32) (b : Bool) (l : Nat → Nat → Int64) : zev sc (158, 60, [some (.ref 173), some (.int v1)], [], (197, i, (zRF b), l)) = some (.int (i 187 15), (197, i, (zRF b), l)) := by
  refine (ze_aload_n 61 zm158 dX10_now_60 rfl rfl).trans ?_
  refine (ze_getR 64 zm158 dX10_now_61 f10_50 k173_10 t10_20 (rr173_20 b) rfl).trans ?_
  refine (ze_bipush 66 zm158 dX10_now_64 cb_15 rfl).trans ?_
  refine (ze_iaload (t := 15) 67 zm158 dX10_now_66 k187_100 n187 vi_15_30 tn_15 rfl).trans ?_
  exact ze_ireturn zm158 dX10_now_67 rfl
theorem b158_68 (sc : zScr) (v1 : Int32) (i : Nat → Nat → Int32) (b : Bool) (l : Nat → Nat → Int64) : zev sc (158, 68, [some (.ref 173), some (.int v1)], [], (197, i, (zRF b), l)) = some (.int (i 187 17), (197, i, (zRF b), l)) := by
  refine (ze_aload_n 69 zm158 dX10_now_68 rfl rfl).trans ?_
  refine (ze_getR 72 zm158 dX10_now_69 f10_50 k173_10 t10_20 (rr173_20 b) rfl).trans ?_
  refine (ze_bipush 74 zm158 dX10_now_72 cb_17 rfl).trans ?_
  refine (ze_iaload (t := 17) 75 zm158 dX10_now_74 k187_100 n187 vi_17_30 tn_17 rfl).trans ?_
  exact ze_ireturn zm158 dX10_now_75 rfl
theorem b158_76 (sc : zScr) (v1 : Int32) (i : Nat → Nat → Int32) (b : Bool) (l : Nat → Nat → Int64) : zev sc (158, 76, [some (.ref 173), some (.int v1)], [], (197, i, (zRF b), l)) = (zev sc (154, 0, [some (.ref 173), none, none, none], [], (197, i, (zRF b), l))).bind (fun x => zev sc (158, 80, [some (.ref 173), some (.int v1)], [x.1], x.2)) := by
  refine (ze_aload_n 77 zm158 dX10_now_76 rfl rfl).trans ?_
  exact ze_virtI (as := []) (rest := []) 80 zm158 dX10_now_77 r10_186 zm154 rfl rfl k173_10 rfl rfl rfl rfl
theorem b158_80 (sc : zScr) (v1 : Int32) (s0 : Int32) (i : Nat → Nat → Int32) (b : Bool) (l : Nat → Nat → Int64) : zev sc (158, 80, [some (.ref 173), some (.int v1)], [.int s0], (197, i, (zRF b), l)) = some (.int s0, (197, i, (zRF b), l)) := by
  exact ze_ireturn zm158 dX10_now_80 rfl
theorem b158_81 (sc : zScr) (v1 : Int32) (i : Nat → Nat → Int32) (b : Bool) (l : Nat → Nat → Int64) : zev sc (158, 81, [some (.ref 173), some (.int v1)], [], (197, i, (zRF b), l)) = (zev sc (157, 0, [some (.ref 173), some (.int (0 : Int32)), none, none, none, none], [], (197, i, (zRF b), l))).bind (fun x => zev sc (158, 86, [some (.ref 173), some (.int v1)], [x.1], x.2)) := by
  refine (ze_aload_n 82 zm158 dX10_now_81 rfl rfl).trans ?_
  refine (ze_iconst 83 zm158 dX10_now_82 ci_0 rfl).trans ?_
  exact ze_virtI (as := [.int (0 : Int32)]) (rest := []) 86 zm158 dX10_now_83 r10_189 zm157 rfl rfl k173_10 rfl rfl rfl rfl
theorem b158_86 (sc : zScr) (v1 : Int32) (s0 : Int32) (i : Nat → Nat → Int32) (b : Bool) (l : Nat → Nat → Int64) : zev sc (158, 86, [some (.ref 173), some (.int v1)], [.int s0], (197, i, (zRF b), l)) = some (.int s0, (197, i, (zRF b), l)) := by
  exact ze_ireturn zm158 dX10_now_86 rfl
theorem b158_87 (sc : zScr) (v1 : Int32) (i : Nat → Nat → Int32) (b : Bool) (l : Nat → Nat → Int64) : zev sc (158, 87, [some (.ref 173), some (.int v1)], [], (197, i, (zRF b), l)) = (zev sc (157, 0, [some (.ref 173), some (.int (1 : Int32)), none, none, none, none], [], (197, i, (zRF b), l))).bind (fun x => zev sc (158, 92, [some (.ref 173), some (.int v1)], [x.1], x.2)) := by
  refine (ze_aload_n 88 zm158 dX10_now_87 rfl rfl).trans ?_
  refine (ze_iconst 89 zm158 dX10_now_88 ci_1 rfl).trans ?_
  exact ze_virtI (as := [.int (1 : Int32)]) (rest := []) 92 zm158 dX10_now_89 r10_189 zm157 rfl rfl k173_10 rfl rfl rfl rfl
theorem b158_92 (sc : zScr) (v1 : Int32) (s0 : Int32) (i : Nat → Nat → Int32) (b : Bool) (l : Nat → Nat → Int64) : zev sc (158, 92, [some (.ref 173), some (.int v1)], [.int s0], (197, i, (zRF b), l)) = some (.int s0, (197, i, (zRF b), l)) := by
  exact ze_ireturn zm158 dX10_now_92 rfl
theorem b158_93 (sc : zScr) (v1 : Int32) (i : Nat → Nat → Int32) (b : Bool) (l : Nat → Nat → Int64) : zev sc (158, 93, [some (.ref 173), some (.int v1)], [], (197, i, (zRF b), l)) = some (.int (-1 : Int32), (197, i, (zRF b), l)) := by
  refine (ze_iconst 94 zm158 dX10_now_93 ci_m1 rfl).trans ?_
  exact ze_ireturn zm158 dX10_now_94 rfl
/-! HarpFencesModel.song (I)I: method 159 -/
theorem b159_0 (sc : zScr) (v1 : Int32) (i : Nat → Nat → Int32) (b : Bool) (l : Nat → Nat → Int64) : zev sc (159, 0, [some (.ref 173), some (.int v1)], [], (197, i, (zRF b), l)) = (zev sc (119, 0, [some (.int v1), some (.int (0 : Int32)), some (.int (11 : Int32))], [], (197, i, (zRF b), l))).bind (fun x => zev sc (159, 7, [some (.ref 173), some (.int v1)], [x.1], x.2)) := by
  refine (ze_iload_n 1 zm159 dX10_song_0 rfl rfl).trans ?_
  refine (ze_iconst 2 zm159 dX10_song_1 ci_0 rfl).trans ?_
  refine (ze_bipush 4 zm159 dX10_song_2 cb_11 rfl).trans ?_
  exact ze_statI (as := [.int v1, .int (0 : Int32), .int (11 : Int32)]) (rest := []) 7 zm159 dX10_song_4 r10_81 zm119 rfl rfl rfl rfl rfl rfl
theorem b159_7 (sc : zScr) (v1 : Int32) (s0 : Int32) (i : Nat → Nat → Int32) (b : Bool) (l : Nat → Nat → Int64) : zev sc (159, 7, [some (.ref 173), some (.int v1)], [.int s0], (197, i, (zRF b), l)) = if s0 = 0 then zev sc (159, 10, [some (.ref 173), some (.int v1)], [], (197, i, (zRF b), l)) else zev sc (159, 12, [some (.ref 173), some (.int v1)], [], (197, i, (zRF b), l)) := by
  exact ze_if_ne 12 10 zm159 dX10_song_7 (by decide) rfl
theorem b159_10 (sc : zScr) (v1 : Int32) (i : Nat → Nat → Int32) (b : Bool) (l : Nat → Nat → Int64) : zev sc (159, 10, [some (.ref 173), some (.int v1)], [], (197, i, (zRF b), l)) = some (.int (-1 : Int32), (197, i, (zRF b), l)) := by
  refine (ze_iconst 11 zm159 dX10_song_10 ci_m1 rfl).trans ?_
  exact ze_ireturn zm159 dX10_song_11 rfl
theorem b159_12 (sc : zScr) (v1 : Int32) (i : Nat → Nat → Int32) (b : Bool) (l : Nat → Nat → Int64) : zev sc (159, 12, [some (.ref 173), some (.int v1)], [], (197, i, (zRF b), l)) = if (i 187 17) ≤ v1 then zev sc (159, 45, [some (.ref 173), some (.int v1)], [], (197, i, (zRF b), l)) else zev sc (159, 23, [some (.ref 173), some (.int v1)], [], (197, i, (zRF b), l)) := by
  refine (ze_iload_n 13 zm159 dX10_song_12 rfl rfl).trans ?_
  refine (ze_aload_n 14 zm159 dX10_song_13 rfl rfl).trans ?_
  refine (ze_getR 17 zm159 dX10_song_14 f10_50 k173_10 t10_20 (rr173_20 b) rfl).trans ?_
  refine (ze_bipush 19 zm159 dX10_song_17 cb_17 rfl).trans ?_
  refine (ze_iaload (t := 17) 20 zm159 dX10_song_19 k187_100 n187 vi_17_30 tn_17 rfl).trans ?_
  exact ze_icmp_ge 45 23 zm159 dX10_song_20 (by decide) rfl
theorem b159_23 (sc : zScr) (v1 : Int32) (i : Nat → Nat → Int32) (b : Bool) (l : Nat → Nat → Int64) (h1 : vp_in ((((18 : Int32) + (i 187 17)) - (1 : Int32)) - v1) 30) : zev sc (159, 23, [some (.ref 173), some (.int v1)], [], (197, i, (zRF b), l)) = zev sc (159, 47, [some (.ref 173), some (.int v1)], [.int (i 187 (((((18 : Int32) + (i 187 17)) - (1 : Int32)) - v1)).toNatClampNeg)], (197, i, (zRF b), l)) := by
  refine (ze_aload_n 24 zm159 dX10_song_23 rfl rfl).trans ?_
  refine (ze_getR 27 zm159 dX10_song_24 f10_50 k173_10 t10_20 (rr173_20 b) rfl).trans ?_
  refine (ze_bipush 29 zm159 dX10_song_27 cb_18 rfl).trans ?_
  refine (ze_aload_n 30 zm159 dX10_song_29 rfl rfl).trans ?_
  refine (ze_getR 33 zm159 dX10_song_30 f10_50 k173_10 t10_20 (rr173_20 b) rfl).trans ?_
  refine (ze_bipush 35 zm159 dX10_song_33 cb_17 rfl).trans ?_
  refine (ze_iaload (t := 17) 36 zm159 dX10_song_35 k187_100 n187 vi_17_30 tn_17 rfl).trans ?_
  refine (ze_iadd 37 zm159 dX10_song_36 rfl).trans ?_
  refine (ze_iconst 38 zm159 dX10_song_37 ci_1 rfl).trans ?_
  refine (ze_isub 39 zm159 dX10_song_38 rfl).trans ?_
  refine (ze_iload_n 40 zm159 dX10_song_39 rfl rfl).trans ?_
  refine (ze_isub 41 zm159 dX10_song_40 rfl).trans ?_
  refine (ze_iaload (t := (((((18 : Int32) + (i 187 17)) - (1 : Int32)) - v1)).toNatClampNeg) 42 zm159 dX10_song_41 k187_100 n187 h1 rfl rfl).trans ?_
  exact ze_goto 47 zm159 dX10_song_42 (by decide)
theorem b159_45 (sc : zScr) (v1 : Int32) (i : Nat → Nat → Int32) (b : Bool) (l : Nat → Nat → Int64) : zev sc (159, 45, [some (.ref 173), some (.int v1)], [], (197, i, (zRF b), l)) = zev sc (159, 47, [some (.ref 173), some (.int v1)], [.int (-9 : Int32)], (197, i, (zRF b), l)) := by
  refine (ze_bipush 47 zm159 dX10_song_45 cb_m9 rfl).trans ?_
  rfl
theorem b159_47 (sc : zScr) (v1 : Int32) (s0 : Int32) (i : Nat → Nat → Int32) (b : Bool) (l : Nat → Nat → Int64) : zev sc (159, 47, [some (.ref 173), some (.int v1)], [.int s0], (197, i, (zRF b), l)) = some (.int s0, (197, i, (zRF b), l)) := by
  exact ze_ireturn zm159 dX10_song_47 rfl
/-! HarpFencesModel.who (I)I: method 160 -/
theorem b160_0 (sc : zScr) (v1 : Int32) (i : Nat → Nat → Int32) (b : Bool) (l : Nat → Nat → Int64) : zev sc (160, 0, [some (.ref 173), some (.int v1), none, none, none, none], [], (197, i, (zRF b), l)) = (zev sc (119, 0, [some (.int v1), some (.int (0 : Int32)), some (.int (43 : Int32))], [], (197, i, (zRF b), l))).bind (fun x => zev sc (160, 7, [some (.ref 173), some (.int v1), none, none, none, none], [x.1], x.2)) := by
  refine (ze_iload_n 1 zm160 dX10_who_0 rfl rfl).trans ?_
  refine (ze_iconst 2 zm160 dX10_who_1 ci_0 rfl).trans ?_
  refine (ze_bipush 4 zm160 dX10_who_2 cb_43 rfl).trans ?_
  exact ze_statI (as := [.int v1, .int (0 : Int32), .int (43 : Int32)]) (rest := []) 7 zm160 dX10_who_4 r10_81 zm119 rfl rfl rfl rfl rfl rfl
theorem b160_7 (sc : zScr) (v1 : Int32) (s0 : Int32) (i : Nat → Nat → Int32) (b : Bool) (l : Nat → Nat → Int64) : zev sc (160, 7, [some (.ref 173), some (.int v1), none, none, none, none], [.int s0], (197, i, (zRF b), l)) = if s0 = 0 then zev sc (160, 10, [some (.ref 173), some (.int v1), none, none, none, none], [], (197, i, (zRF b), l)) else zev sc (160, 12, [some (.ref 173), some (.int v1), none, none, none, none], [], (197, i, (zRF b), l)) := by
  exact ze_if_ne 12 10 zm160 dX10_who_7 (by decide) rfl
theorem b160_10 (sc : zScr) (v1 : Int32) (i : Nat → Nat → Int32) (b : Bool) (l : Nat → Nat → Int64) : zev sc (160, 10, [some (.ref 173), some (.int v1), none, none, none, none], [], (197, i, (zRF b), l)) = some (.int (-1 : Int32), (197, i, (zRF b), l)) := by
  refine (ze_iconst 11 zm160 dX10_who_10 ci_m1 rfl).trans ?_
  exact ze_ireturn zm160 dX10_who_11 rfl
theorem b160_12 (sc : zScr) (v1 : Int32) (i : Nat → Nat → Int32) (b : Bool) (l : Nat → Nat → Int64) : zev sc (160, 12, [some (.ref 173), some (.int v1), none, none, none, none], [], (197, i, (zRF b), l)) = zev sc (160, 16, [some (.ref 173), some (.int v1), some (.int (0 : Int32)), some (.int (0 : Int32)), none, none], [], (197, i, (zRF b), l)) := by
  refine (ze_iconst 13 zm160 dX10_who_12 ci_0 rfl).trans ?_
  refine (ze_istore_n (A := 99) (ls' := [some (.ref 173), some (.int v1), some (.int (0 : Int32)), none, none, none]) 14 zm160 dX10_who_13 za160 rfl rfl rfl rfl rfl).trans ?_
  refine (ze_iconst 15 zm160 dX10_who_14 ci_0 rfl).trans ?_
  refine (ze_istore_n (A := 99) (ls' := [some (.ref 173), some (.int v1), some (.int (0 : Int32)), some (.int (0 : Int32)), none, none]) 16 zm160 dX10_who_15 za160 rfl rfl rfl rfl rfl).trans ?_
  rfl
theorem b160_16 (sc : zScr) (v1 : Int32) (v2 : Int32) (v3 : Int32) (w4 : Option Value) (w5 : Option Value) (i : Nat → Nat → Int32) (b : Bool) (l : Nat → Nat → Int64) : zev sc (160, 16, [some (.ref 173), some (.int v1), some (.int v2), some (.int v3), w4, w5], [], (197, i, (zRF b), l)) = if (i 183 0) ≤ v3 then zev sc (160, 107, [some (.ref 173), some (.int v1), some (.int v2), some (.int v3), w4, w5], [], (197, i, (zRF b), l)) else zev sc (160, 26, [some (.ref 173), some (.int v1), some (.int v2), some (.int v3), w4, w5], [], (197, i, (zRF b), l)) := by
  refine (ze_iload_n 17 zm160 dX10_who_16 rfl rfl).trans ?_
  refine (ze_aload_n 18 zm160 dX10_who_17 rfl rfl).trans ?_
  refine (ze_getR 21 zm160 dX10_who_18 f10_38 k173_10 t10_10 (rr173_10 b) rfl).trans ?_
  refine (ze_iconst 22 zm160 dX10_who_21 ci_0 rfl).trans ?_
  refine (ze_iaload (t := 0) 23 zm160 dX10_who_22 k183_100 n183 vi_0_2 tn_0 rfl).trans ?_
  exact ze_icmp_ge 107 26 zm160 dX10_who_23 (by decide) rfl
theorem b160_26 (sc : zScr) (v1 : Int32) (v2 : Int32) (v3 : Int32) (w4 : Option Value) (w5 : Option Value) (i : Nat → Nat → Int32) (b : Bool) (l : Nat → Nat → Int64) : zev sc (160, 26, [some (.ref 173), some (.int v1), some (.int v2), some (.int v3), w4, w5], [], (197, i, (zRF b), l)) = zev sc (160, 29, [some (.ref 173), some (.int v1), some (.int v2), some (.int v3), some (.int (0 : Int32)), w5], [], (197, i, (zRF b), l)) := by
  refine (ze_iconst 27 zm160 dX10_who_26 ci_0 rfl).trans ?_
  refine (ze_istore (A := 99) (ls' := [some (.ref 173), some (.int v1), some (.int v2), some (.int v3), some (.int (0 : Int32)), w5]) 29 zm160 dX10_who_27 za160 rfl rfl rfl rfl rfl).trans ?_
  rfl
theorem b160_29 (sc : zScr) (v1 : Int32) (v2 : Int32) (v3 : Int32) (v4 : Int32) (w5 : Option Value) (i : Nat → Nat → Int32) (b : Bool) (l : Nat → Nat → Int64) : zev sc (160, 29, [some (.ref 173), some (.int v1), some (.int v2), some (.int v3), some (.int v4), w5], [], (197, i, (zRF b), l)) = if (i 176 0) ≤ v4 then zev sc (160, 101, [some (.ref 173), some (.int v1), some (.int v2), some (.int v3), some (.int v4), w5], [], (197, i, (zRF b), l)) else zev sc (160, 40, [some (.ref 173), some (.int v1), some (.int v2), some (.int v3), some (.int v4), w5], [], (197, i, (zRF b), l)) := by
  refine (ze_iload 31 zm160 dX10_who_29 rfl rfl).trans ?_
  refine (ze_aload_n 32 zm160 dX10_who_31 rfl rfl).trans ?_
  refine (ze_getR 35 zm160 dX10_who_32 f10_17 k173_10 t10_3 (rr173_3 b) rfl).trans ?_
  refine (ze_iconst 36 zm160 dX10_who_35 ci_0 rfl).trans ?_
  refine (ze_iaload (t := 0) 37 zm160 dX10_who_36 k176_100 n176 vi_0_2 tn_0 rfl).trans ?_
  exact ze_icmp_ge 101 40 zm160 dX10_who_37 (by decide) rfl
theorem b160_40 (sc : zScr) (v1 : Int32) (v2 : Int32) (v3 : Int32) (v4 : Int32) (w5 : Option Value) (i : Nat → Nat → Int32) (b : Bool) (l : Nat → Nat → Int64) (h1 : vp_in ((0 : Int32) + v3) 30) : zev sc (160, 40, [some (.ref 173), some (.int v1), some (.int v2), some (.int v3), some (.int v4), w5], [], (197, i, (zRF b), l)) = (zev sc (136, 0, [some (.ref 173), some (.int v4), some (.int (i 187 (((0 : Int32) + v3)).toNatClampNeg))], [], (197, i, (zRF b), l))).bind (fun x => zev sc (160, 54, [some (.ref 173), some (.int v1), some (.int v2), some (.int v3), some (.int v4), w5], [x.1], x.2)) := by
  refine (ze_aload_n 41 zm160 dX10_who_40 rfl rfl).trans ?_
  refine (ze_iload 43 zm160 dX10_who_41 rfl rfl).trans ?_
  refine (ze_aload_n 44 zm160 dX10_who_43 rfl rfl).trans ?_
  refine (ze_getR 47 zm160 dX10_who_44 f10_50 k173_10 t10_20 (rr173_20 b) rfl).trans ?_
  refine (ze_iconst 48 zm160 dX10_who_47 ci_0 rfl).trans ?_
  refine (ze_iload_n 49 zm160 dX10_who_48 rfl rfl).trans ?_
  refine (ze_iadd 50 zm160 dX10_who_49 rfl).trans ?_
  refine (ze_iaload (t := (((0 : Int32) + v3)).toNatClampNeg) 51 zm160 dX10_who_50 k187_100 n187 h1 rfl rfl).trans ?_
  exact ze_virtI (as := [.int v4, .int (i 187 (((0 : Int32) + v3)).toNatClampNeg)]) (rest := []) 54 zm160 dX10_who_51 r10_155 zm136 rfl rfl k173_10 rfl rfl rfl rfl
theorem b160_54 (sc : zScr) (v1 : Int32) (v2 : Int32) (v3 : Int32) (v4 : Int32) (w5 : Option Value) (s0 : Int32) (i : Nat → Nat → Int32) (b : Bool) (l : Nat → Nat → Int64) : zev sc (160, 54, [some (.ref 173), some (.int v1), some (.int v2), some (.int v3), some (.int v4), w5], [.int s0], (197, i, (zRF b), l)) = if s0 = 0 then zev sc (160, 77, [some (.ref 173), some (.int v1), some (.int v2), some (.int v3), some (.int v4), w5], [], (197, i, (zRF b), l)) else zev sc (160, 57, [some (.ref 173), some (.int v1), some (.int v2), some (.int v3), some (.int v4), w5], [], (197, i, (zRF b), l)) := by
  exact ze_if_eq 77 57 zm160 dX10_who_54 (by decide) rfl
theorem b160_57 (sc : zScr) (v1 : Int32) (v2 : Int32) (v3 : Int32) (v4 : Int32) (w5 : Option Value) (i : Nat → Nat → Int32) (b : Bool) (l : Nat → Nat → Int64) (h1 : vp_in v3 12) : zev sc (160, 57, [some (.ref 173), some (.int v1), some (.int v2), some (.int v3), some (.int v4), w5], [], (197, i, (zRF b), l)) = (zev sc (135, 0, [some (.ref 173), some (.int (i 184 v3.toNatClampNeg)), some (.int v4), none], [], (197, i, (zRF b), l))).bind (fun x => zev sc (160, 69, [some (.ref 173), some (.int v1), some (.int v2), some (.int v3), some (.int v4), w5], [x.1], x.2)) := by
  refine (ze_aload_n 58 zm160 dX10_who_57 rfl rfl).trans ?_
  refine (ze_aload_n 59 zm160 dX10_who_58 rfl rfl).trans ?_
  refine (ze_getR 62 zm160 dX10_who_59 f10_41 k173_10 t10_11 (rr173_11 b) rfl).trans ?_
  refine (ze_iload_n 63 zm160 dX10_who_62 rfl rfl).trans ?_
  refine (ze_iaload (t := v3.toNatClampNeg) 64 zm160 dX10_who_63 k184_100 n184 h1 rfl rfl).trans ?_
  refine (ze_iload 66 zm160 dX10_who_64 rfl rfl).trans ?_
  exact ze_virtI (as := [.int (i 184 v3.toNatClampNeg), .int v4]) (rest := []) 69 zm160 dX10_who_66 r10_152 zm135 rfl rfl k173_10 rfl rfl rfl rfl
theorem b160_69 (sc : zScr) (v1 : Int32) (v2 : Int32) (v3 : Int32) (v4 : Int32) (w5 : Option Value) (s0 : Int32) (i : Nat → Nat → Int32) (b : Bool) (l : Nat → Nat → Int64) : zev sc (160, 69, [some (.ref 173), some (.int v1), some (.int v2), some (.int v3), some (.int v4), w5], [.int s0], (197, i, (zRF b), l)) = if s0 = v1 then zev sc (160, 73, [some (.ref 173), some (.int v1), some (.int v2), some (.int v3), some (.int v4), w5], [], (197, i, (zRF b), l)) else zev sc (160, 77, [some (.ref 173), some (.int v1), some (.int v2), some (.int v3), some (.int v4), w5], [], (197, i, (zRF b), l)) := by
  refine (ze_iload_n 70 zm160 dX10_who_69 rfl rfl).trans ?_
  exact ze_icmp_ne 77 73 zm160 dX10_who_70 (by decide) rfl
theorem b160_73 (sc : zScr) (v1 : Int32) (v2 : Int32) (v3 : Int32) (v4 : Int32) (w5 : Option Value) (i : Nat → Nat → Int32) (b : Bool) (l : Nat → Nat → Int64) : zev sc (160, 73, [some (.ref 173), some (.int v1), some (.int v2), some (.int v3), some (.int v4), w5], [], (197, i, (zRF b), l)) = zev sc (160, 78, [some (.ref 173), some (.int v1), some (.int v2), some (.int v3), some (.int v4), w5], [.int (1 : Int32)], (197, i, (zRF b), l)) := by
  refine (ze_iconst 74 zm160 dX10_who_73 ci_1 rfl).trans ?_
  exact ze_goto 78 zm160 dX10_who_74 (by decide)
theorem b160_77 (sc : zScr) (v1 : Int32) (v2 : Int32) (v3 : Int32) (v4 : Int32) (w5 : Option Value) (i : Nat → Nat → Int32) (b : Bool) (l : Nat → Nat → Int64) : zev sc (160, 77, [some (.ref 173), some (.int v1), some (.int v2), some (.int v3), some (.int v4), w5], [], (197, i, (zRF b), l)) = zev sc (160, 78, [some (.ref 173), some (.int v1), some (.int v2), some (.int v3), some (.int v4), w5], [.int (0 : Int32)], (197, i, (zRF b), l)) := by
  refine (ze_iconst 78 zm160 dX10_who_77 ci_0 rfl).trans ?_
  rfl
theorem b160_78 (sc : zScr) (v1 : Int32) (v2 : Int32) (v3 : Int32) (v4 : Int32) (w5 : Option Value) (s0 : Int32) (i : Nat → Nat → Int32) (b : Bool) (l : Nat → Nat → Int64) : zev sc (160, 78, [some (.ref 173), some (.int v1), some (.int v2), some (.int v3), some (.int v4), w5], [.int s0], (197, i, (zRF b), l)) = if s0 = 0 then zev sc (160, 92, [some (.ref 173), some (.int v1), some (.int v2), some (.int v3), some (.int v4), some (.int s0)], [.int v2], (197, i, (zRF b), l)) else zev sc (160, 86, [some (.ref 173), some (.int v1), some (.int v2), some (.int v3), some (.int v4), some (.int s0)], [.int v2], (197, i, (zRF b), l)) := by
  refine (ze_istore (A := 99) (ls' := [some (.ref 173), some (.int v1), some (.int v2), some (.int v3), some (.int v4), some (.int s0)]) 80 zm160 dX10_who_78 za160 rfl rfl rfl rfl rfl).trans ?_
  refine (ze_iload_n 81 zm160 dX10_who_80 rfl rfl).trans ?_
  refine (ze_iload 83 zm160 dX10_who_81 rfl rfl).trans ?_
  exact ze_if_eq 92 86 zm160 dX10_who_83 (by decide) rfl
theorem b160_86 (sc : zScr) (v1 : Int32) (v2 : Int32) (v3 : Int32) (v4 : Int32) (v5 : Int32) (s0 : Int32) (i : Nat → Nat → Int32) (b : Bool) (l : Nat → Nat → Int64) : zev sc (160, 86, [some (.ref 173), some (.int v1), some (.int v2), some (.int v3), some (.int v4), some (.int v5)], [.int s0], (197, i, (zRF b), l)) = zev sc (160, 93, [some (.ref 173), some (.int v1), some (.int v2), some (.int v3), some (.int v4), some (.int v5)], [.int ((1 : Int32) <<< (v3 &&& 31)), .int s0], (197, i, (zRF b), l)) := by
  refine (ze_iconst 87 zm160 dX10_who_86 ci_1 rfl).trans ?_
  refine (ze_iload_n 88 zm160 dX10_who_87 rfl rfl).trans ?_
  refine (ze_ishl 89 zm160 dX10_who_88 rfl).trans ?_
  exact ze_goto 93 zm160 dX10_who_89 (by decide)
theorem b160_92 (sc : zScr) (v1 : Int32) (v2 : Int32) (v3 : Int32) (v4 : Int32) (v5 : Int32) (s0 : Int32) (i : Nat → Nat → Int32) (b : Bool) (l : Nat → Nat → Int64) : zev sc (160, 92, [some (.ref 173), some (.int v1), some (.int v2), some (.int v3), some (.int v4), some (.int v5)], [.int s0], (197, i, (zRF b), l)) = zev sc (160, 93, [some (.ref 173), some (.int v1), some (.int v2), some (.int v3), some (.int v4), some (.int v5)], [.int (0 : Int32), .int s0], (197, i, (zRF b), l)) := by
  refine (ze_iconst 93 zm160 dX10_who_92 ci_0 rfl).trans ?_
  rfl
theorem b160_93 (sc : zScr) (v1 : Int32) (v2 : Int32) (v3 : Int32) (v4 : Int32) (v5 : Int32) (s0 : Int32) (s1 : Int32) (i : Nat → Nat → Int32) (b : Bool) (l : Nat → Nat → Int64) : zev sc (160, 93, [some (.ref 173), some (.int v1), some (.int v2), some (.int v3), some (.int v4), some (.int v5)], [.int s0, .int s1], (197, i, (zRF b), l)) = zev sc (160, 29, [some (.ref 173), some (.int v1), some (.int (s1 ||| s0)), some (.int v3), some (.int (v4 + 1)), some (.int v5)], [], (197, i, (zRF b), l)) := by
  refine (ze_ior 94 zm160 dX10_who_93 rfl).trans ?_
  refine (ze_istore_n (A := 99) (ls' := [some (.ref 173), some (.int v1), some (.int (s1 ||| s0)), some (.int v3), some (.int v4), some (.int v5)]) 95 zm160 dX10_who_94 za160 rfl rfl rfl rfl rfl).trans ?_
  refine (ze_iinc (v := (1 : Int32)) (A := 99) (ls' := [some (.ref 173), some (.int v1), some (.int (s1 ||| s0)), some (.int v3), some (.int (v4 + 1)), some (.int v5)]) 98 zm160 dX10_who_95 rfl ci_1 za160 rfl rfl rfl rfl rfl).trans ?_
  exact ze_goto 29 zm160 dX10_who_98 (by decide)
theorem b160_101 (sc : zScr) (v1 : Int32) (v2 : Int32) (v3 : Int32) (v4 : Int32) (w5 : Option Value) (i : Nat → Nat → Int32) (b : Bool) (l : Nat → Nat → Int64) : zev sc (160, 101, [some (.ref 173), some (.int v1), some (.int v2), some (.int v3), some (.int v4), w5], [], (197, i, (zRF b), l)) = zev sc (160, 16, [some (.ref 173), some (.int v1), some (.int v2), some (.int (v3 + 1)), some (.int v4), w5], [], (197, i, (zRF b), l)) := by
  refine (ze_iinc (v := (1 : Int32)) (A := 99) (ls' := [some (.ref 173), some (.int v1), some (.int v2), some (.int (v3 + 1)), some (.int v4), w5]) 104 zm160 dX10_who_101 rfl ci_1 za160 rfl rfl rfl rfl rfl).trans ?_
  exact ze_goto 16 zm160 dX10_who_104 (by decide)
theorem b160_107 (sc : zScr) (v1 : Int32) (v2 : Int32) (v3 : Int32) (w4 : Option Value) (w5 : Option Value) (i : Nat → Nat → Int32) (b : Bool) (l : Nat → Nat → Int64) : zev sc (160, 107, [some (.ref 173), some (.int v1), some (.int v2), some (.int v3), w4, w5], [], (197, i, (zRF b), l)) = some (.int v2, (197, i, (zRF b), l)) := by
  refine (ze_iload_n 108 zm160 dX10_who_107 rfl rfl).trans ?_
  exact ze_ireturn zm160 dX10_who_108 rfl
/-! HarpFencesModel.hears (I)I: method 161 -/
theorem b161_0 (sc : zScr) (v1 : Int32) (i : Nat → Nat → Int32) (b : Bool) (l : Nat → Nat → Int64) : zev sc (161, 0, [some (.ref 173), some (.int v1)], [], (197, i, (zRF b), l)) = (zev sc (119, 0, [some (.int v1), some (.int (1 : Int32)), some (.int (43 : Int32))], [], (197, i, (zRF b), l))).bind (fun x => zev sc (161, 7, [some (.ref 173), some (.int v1)], [x.1], x.2)) := by
  refine (ze_iload_n 1 zm161 dX10_hears_0 rfl rfl).trans ?_
  refine (ze_iconst 2 zm161 dX10_hears_1 ci_1 rfl).trans ?_
  refine (ze_bipush 4 zm161 dX10_hears_2 cb_43 rfl).trans ?_
  exact ze_statI (as := [.int v1, .int (1 : Int32), .int (43 : Int32)]) (rest := []) 7 zm161 dX10_hears_4 r10_81 zm119 rfl rfl rfl rfl rfl rfl
theorem b161_7 (sc : zScr) (v1 : Int32) (s0 : Int32) (i : Nat → Nat → Int32) (b : Bool) (l : Nat → Nat → Int64) : zev sc (161, 7, [some (.ref 173), some (.int v1)], [.int s0], (197, i, (zRF b), l)) = if s0 = 0 then zev sc (161, 10, [some (.ref 173), some (.int v1)], [], (197, i, (zRF b), l)) else zev sc (161, 12, [some (.ref 173), some (.int v1)], [], (197, i, (zRF b), l)) := by
  exact ze_if_ne 12 10 zm161 dX10_hears_7 (by decide) rfl
theorem b161_10 (sc : zScr) (v1 : Int32) (i : Nat → Nat → Int32) (b : Bool) (l : Nat → Nat → Int64) : zev sc (161, 10, [some (.ref 173), some (.int v1)], [], (197, i, (zRF b), l)) = some (.int (-1 : Int32), (197, i, (zRF b), l)) := by
  refine (ze_iconst 11 zm161 dX10_hears_10 ci_m1 rfl).trans ?_
  exact ze_ireturn zm161 dX10_hears_11 rfl
theorem b161_12 (sc : zScr) (v1 : Int32) (i : Nat → Nat → Int32) (b : Bool) (l : Nat → Nat → Int64) : zev sc (161, 12, [some (.ref 173), some (.int v1)], [], (197, i, (zRF b), l)) = if (i 173 26) = (6 : Int32) then zev sc (161, 21, [some (.ref 173), some (.int v1)], [], (197, i, (zRF b), l)) else zev sc (161, 24, [some (.ref 173), some (.int v1)], [], (197, i, (zRF b), l)) := by
  refine (ze_aload_n 13 zm161 dX10_hears_12 rfl rfl).trans ?_
  refine (ze_getI 16 zm161 dX10_hears_13 f10_134 k173_10 (Or.inl t10_26) rfl).trans ?_
  refine (ze_bipush 18 zm161 dX10_hears_16 cb_6 rfl).trans ?_
  exact ze_icmp_ne 24 21 zm161 dX10_hears_18 (by decide) rfl
theorem b161_21 (sc : zScr) (v1 : Int32) (i : Nat → Nat → Int32) (b : Bool) (l : Nat → Nat → Int64) : zev sc (161, 21, [some (.ref 173), some (.int v1)], [], (197, i, (zRF b), l)) = some (.int (-3 : Int32), (197, i, (zRF b), l)) := by
  refine (ze_bipush 23 zm161 dX10_hears_21 cb_m3 rfl).trans ?_
  exact ze_ireturn zm161 dX10_hears_23 rfl
theorem b161_24 (sc : zScr) (v1 : Int32) (i : Nat → Nat → Int32) (b : Bool) (l : Nat → Nat → Int64) (h1 : vp_in (i 173 26) 6) : zev sc (161, 24, [some (.ref 173), some (.int v1)], [], (197, i, (zRF b), l)) = some (.int ((zU (zU i 192 ((i 173 26)).toNatClampNeg v1) 173 26 (((zU i 192 ((i 173 26)).toNatClampNeg v1) 173 26) + (1 : Int32))) 173 26), (197, (zU (zU i 192 ((i 173 26)).toNatClampNeg v1) 173 26 (((zU i 192 ((i 173 26)).toNatClampNeg v1) 173 26) + (1 : Int32))), (zRF b), l)) := by
  refine (ze_aload_n 25 zm161 dX10_hears_24 rfl rfl).trans ?_
  refine (ze_getR 28 zm161 dX10_hears_25 f10_66 k173_10 t10_25 (rr173_25 b) rfl).trans ?_
  refine (ze_aload_n 29 zm161 dX10_hears_28 rfl rfl).trans ?_
  refine (ze_getI 32 zm161 dX10_hears_29 f10_134 k173_10 (Or.inl t10_26) rfl).trans ?_
  refine (ze_iload_n 33 zm161 dX10_hears_32 rfl rfl).trans ?_
  refine (ze_iastore (t := ((i 173 26)).toNatClampNeg) 34 zm161 dX10_hears_33 k192_100 n192 h1 rfl rfl).trans ?_
  refine (ze_aload_n 35 zm161 dX10_hears_34 rfl rfl).trans ?_
  refine (ze_dup 36 zm161 dX10_hears_35 rfl rfl).trans ?_
  refine (ze_getI 39 zm161 dX10_hears_36 f10_134 k173_10 (Or.inl t10_26) rfl).trans ?_
  refine (ze_iconst 40 zm161 dX10_hears_39 ci_1 rfl).trans ?_
  refine (ze_iadd 41 zm161 dX10_hears_40 rfl).trans ?_
  refine (ze_putI 44 zm161 dX10_hears_41 f10_134 k173_10 (Or.inl fn10_26) t10_26 rfl).trans ?_
  refine (ze_aload_n 45 zm161 dX10_hears_44 rfl rfl).trans ?_
  refine (ze_getI 48 zm161 dX10_hears_45 f10_134 k173_10 (Or.inl t10_26) rfl).trans ?_
  exact ze_ireturn zm161 dX10_hears_48 rfl
/-! HarpFencesModel.forget ()I: method 162 -/
theorem b162_0 (sc : zScr) (i : Nat → Nat → Int32) (b : Bool) (l : Nat → Nat → Int64) : zev sc (162, 0, [some (.ref 173), none], [], (197, i, (zRF b), l)) = some (.int (i 173 26), (197, (zU i 173 26 (0 : Int32)), (zRF b), l)) := by
  refine (ze_aload_n 1 zm162 dX10_forget_0 rfl rfl).trans ?_
  refine (ze_getI 4 zm162 dX10_forget_1 f10_134 k173_10 (Or.inl t10_26) rfl).trans ?_
  refine (ze_istore_n (A := 99) (ls' := [some (.ref 173), some (.int (i 173 26))]) 5 zm162 dX10_forget_4 za162 rfl rfl rfl rfl rfl).trans ?_
  refine (ze_aload_n 6 zm162 dX10_forget_5 rfl rfl).trans ?_
  refine (ze_iconst 7 zm162 dX10_forget_6 ci_0 rfl).trans ?_
  refine (ze_putI 10 zm162 dX10_forget_7 f10_134 k173_10 (Or.inl fn10_26) t10_26 rfl).trans ?_
  refine (ze_iload_n 11 zm162 dX10_forget_10 rfl rfl).trans ?_
  exact ze_ireturn zm162 dX10_forget_11 rfl
/-! HarpFencesModel.ways (II)I: method 163 -/
theorem b163_0 (sc : zScr) (v1 : Int32) (v2 : Int32) (i : Nat → Nat → Int32) (b : Bool) (l : Nat → Nat → Int64) : zev sc (163, 0, [some (.ref 173), some (.int v1), some (.int v2), none, none], [], (197, i, (zRF b), l)) = (zev sc (133, 0, [some (.ref 173), some (.int v1)], [], (197, i, (zRF b), l))).bind (fun x => zev sc (163, 5, [some (.ref 173), some (.int v1), some (.int v2), none, none], [x.1], x.2)) := by
  refine (ze_aload_n 1 zm163 dX10_ways_0 rfl rfl).trans ?_
  refine (ze_iload_n 2 zm163 dX10_ways_1 rfl rfl).trans ?_
  exact ze_virtI (as := [.int v1]) (rest := []) 5 zm163 dX10_ways_2 r10_145 zm133 rfl rfl k173_10 rfl rfl rfl rfl
theorem b163_5 (sc : zScr) (v1 : Int32) (v2 : Int32) (s0 : Int32) (i : Nat → Nat → Int32) (b : Bool) (l : Nat → Nat → Int64) : zev sc (163, 5, [some (.ref 173), some (.int v1), some (.int v2), none, none], [.int s0], (197, i, (zRF b), l)) = if s0 = 0 then zev sc (163, 16, [some (.ref 173), some (.int v1), some (.int v2), none, none], [], (197, i, (zRF b), l)) else zev sc (163, 8, [some (.ref 173), some (.int v1), some (.int v2), none, none], [], (197, i, (zRF b), l)) := by
  exact ze_if_eq 16 8 zm163 dX10_ways_5 (by decide) rfl
theorem b163_8 (sc : zScr) (v1 : Int32) (v2 : Int32) (i : Nat → Nat → Int32) (b : Bool) (l : Nat → Nat → Int64) : zev sc (163, 8, [some (.ref 173), some (.int v1), some (.int v2), none, none], [], (197, i, (zRF b), l)) = (zev sc (131, 0, [some (.ref 173), some (.int v2)], [], (197, i, (zRF b), l))).bind (fun x => zev sc (163, 13, [some (.ref 173), some (.int v1), some (.int v2), none, none], [x.1], x.2)) := by
  refine (ze_aload_n 9 zm163 dX10_ways_8 rfl rfl).trans ?_
  refine (ze_iload_n 10 zm163 dX10_ways_9 rfl rfl).trans ?_
  exact ze_virtI (as := [.int v2]) (rest := []) 13 zm163 dX10_ways_10 r10_192 zm131 rfl rfl k173_10 rfl rfl rfl rfl
theorem b163_13 (sc : zScr) (v1 : Int32) (v2 : Int32) (s0 : Int32) (i : Nat → Nat → Int32) (b : Bool) (l : Nat → Nat → Int64) : zev sc (163, 13, [some (.ref 173), some (.int v1), some (.int v2), none, none], [.int s0], (197, i, (zRF b), l)) = if s0 = 0 then zev sc (163, 16, [some (.ref 173), some (.int v1), some (.int v2), none, none], [], (197, i, (zRF b), l)) else zev sc (163, 18, [some (.ref 173), some (.int v1), some (.int v2), none, none], [], (197, i, (zRF b), l)) := by
  exact ze_if_ne 18 16 zm163 dX10_ways_13 (by decide) rfl
theorem b163_16 (sc : zScr) (v1 : Int32) (v2 : Int32) (i : Nat → Nat → Int32) (b : Bool) (l : Nat → Nat → Int64) : zev sc (163, 16, [some (.ref 173), some (.int v1), some (.int v2), none, none], [], (197, i, (zRF b), l)) = some (.int (-1 : Int32), (197, i, (zRF b), l)) := by
  refine (ze_iconst 17 zm163 dX10_ways_16 ci_m1 rfl).trans ?_
  exact ze_ireturn zm163 dX10_ways_17 rfl
theorem b163_18 (sc : zScr) (v1 : Int32) (v2 : Int32) (i : Nat → Nat → Int32) (b : Bool) (l : Nat → Nat → Int64) : zev sc (163, 18, [some (.ref 173), some (.int v1), some (.int v2), none, none], [], (197, i, (zRF b), l)) = zev sc (163, 20, [some (.ref 173), some (.int v1), some (.int v2), some (.int (0 : Int32)), none], [], (197, i, (zRF b), l)) := by
  refine (ze_iconst 19 zm163 dX10_ways_18 ci_0 rfl).trans ?_
  refine (ze_istore_n (A := 99) (ls' := [some (.ref 173), some (.int v1), some (.int v2), some (.int (0 : Int32)), none]) 20 zm163 dX10_ways_19 za163 rfl rfl rfl rfl rfl).trans ?_
  rfl
theorem b163_20 (sc : zScr) (v1 : Int32) (v2 : Int32) (v3 : Int32) (i : Nat → Nat → Int32) (b : Bool) (l : Nat → Nat → Int64) : zev sc (163, 20, [some (.ref 173), some (.int v1), some (.int v2), some (.int v3), none], [], (197, i, (zRF b), l)) = if (8 : Int32) ≤ v3 then zev sc (163, 48, [some (.ref 173), some (.int v1), some (.int v2), some (.int v3), none], [], (197, i, (zRF b), l)) else zev sc (163, 26, [some (.ref 173), some (.int v1), some (.int v2), some (.int v3), none], [], (197, i, (zRF b), l)) := by
  refine (ze_iload_n 21 zm163 dX10_ways_20 rfl rfl).trans ?_
  refine (ze_bipush 23 zm163 dX10_ways_21 cb_8 rfl).trans ?_
  exact ze_icmp_ge 48 26 zm163 dX10_ways_23 (by decide) rfl
theorem b163_26 (sc : zScr) (v1 : Int32) (v2 : Int32) (v3 : Int32) (i : Nat → Nat → Int32) (b : Bool) (l : Nat → Nat → Int64) : zev sc (163, 26, [some (.ref 173), some (.int v1), some (.int v2), some (.int v3), none], [], (197, i, (zRF b), l)) = if v3 = v2 then zev sc (163, 36, [some (.ref 173), some (.int v1), some (.int v2), some (.int v3), none], [.int v3, .ref 193], (197, i, (zRF b), l)) else zev sc (163, 40, [some (.ref 173), some (.int v1), some (.int v2), some (.int v3), none], [.int v3, .ref 193], (197, i, (zRF b), l)) := by
  refine (ze_aload_n 27 zm163 dX10_ways_26 rfl rfl).trans ?_
  refine (ze_getR 30 zm163 dX10_ways_27 f10_69 k173_10 t10_27 (rr173_27 b) rfl).trans ?_
  refine (ze_iload_n 31 zm163 dX10_ways_30 rfl rfl).trans ?_
  refine (ze_iload_n 32 zm163 dX10_ways_31 rfl rfl).trans ?_
  refine (ze_iload_n 33 zm163 dX10_ways_32 rfl rfl).trans ?_
  exact ze_icmp_ne 40 36 zm163 dX10_ways_33 (by decide) rfl
theorem b163_36 (sc : zScr) (v1 : Int32) (v2 : Int32) (v3 : Int32) (s0 : Int32) (i : Nat → Nat → Int32) (b : Bool) (l : Nat → Nat → Int64) : zev sc (163, 36, [some (.ref 173), some (.int v1), some (.int v2), some (.int v3), none], [.int s0, .ref 193], (197, i, (zRF b), l)) = zev sc (163, 41, [some (.ref 173), some (.int v1), some (.int v2), some (.int v3), none], [.int (1 : Int32), .int s0, .ref 193], (197, i, (zRF b), l)) := by
  refine (ze_iconst 37 zm163 dX10_ways_36 ci_1 rfl).trans ?_
  exact ze_goto 41 zm163 dX10_ways_37 (by decide)
theorem b163_40 (sc : zScr) (v1 : Int32) (v2 : Int32) (v3 : Int32) (s0 : Int32) (i : Nat → Nat → Int32) (b : Bool) (l : Nat → Nat → Int64) : zev sc (163, 40, [some (.ref 173), some (.int v1), some (.int v2), some (.int v3), none], [.int s0, .ref 193], (197, i, (zRF b), l)) = zev sc (163, 41, [some (.ref 173), some (.int v1), some (.int v2), some (.int v3), none], [.int (0 : Int32), .int s0, .ref 193], (197, i, (zRF b), l)) := by
  refine (ze_iconst 41 zm163 dX10_ways_40 ci_0 rfl).trans ?_
  rfl
theorem b163_41 (sc : zScr) (v1 : Int32) (v2 : Int32) (v3 : Int32) (s0 : Int32) (s1 : Int32) (i : Nat → Nat → Int32) (b : Bool) (l : Nat → Nat → Int64) (h1 : vp_in s1 8) : zev sc (163, 41, [some (.ref 173), some (.int v1), some (.int v2), some (.int v3), none], [.int s0, .int s1, .ref 193], (197, i, (zRF b), l)) = zev sc (163, 20, [some (.ref 173), some (.int v1), some (.int v2), some (.int (v3 + 1)), none], [], (197, (zU i 193 s1.toNatClampNeg s0), (zRF b), l)) := by
  refine (ze_iastore (t := s1.toNatClampNeg) 42 zm163 dX10_ways_41 k193_100 n193 h1 rfl rfl).trans ?_
  refine (ze_iinc (v := (1 : Int32)) (A := 99) (ls' := [some (.ref 173), some (.int v1), some (.int v2), some (.int (v3 + 1)), none]) 45 zm163 dX10_ways_42 rfl ci_1 za163 rfl rfl rfl rfl rfl).trans ?_
  exact ze_goto 20 zm163 dX10_ways_45 (by decide)
theorem b163_48 (sc : zScr) (v1 : Int32) (v2 : Int32) (v3 : Int32) (i : Nat → Nat → Int32) (b : Bool) (l : Nat → Nat → Int64) : zev sc (163, 48, [some (.ref 173), some (.int v1), some (.int v2), some (.int v3), none], [], (197, i, (zRF b), l)) = zev sc (163, 50, [some (.ref 173), some (.int v1), some (.int v2), some (.int (0 : Int32)), none], [], (197, i, (zRF b), l)) := by
  refine (ze_iconst 49 zm163 dX10_ways_48 ci_0 rfl).trans ?_
  refine (ze_istore_n (A := 99) (ls' := [some (.ref 173), some (.int v1), some (.int v2), some (.int (0 : Int32)), none]) 50 zm163 dX10_ways_49 za163 rfl rfl rfl rfl rfl).trans ?_
  rfl
theorem b163_50 (sc : zScr) (v1 : Int32) (v2 : Int32) (v3 : Int32) (w4 : Option Value) (i : Nat → Nat → Int32) (b : Bool) (l : Nat → Nat → Int64) : zev sc (163, 50, [some (.ref 173), some (.int v1), some (.int v2), some (.int v3), w4], [], (197, i, (zRF b), l)) = if (i 173 26) ≤ v3 then zev sc (163, 234, [some (.ref 173), some (.int v1), some (.int v2), some (.int v3), w4], [], (197, i, (zRF b), l)) else zev sc (163, 58, [some (.ref 173), some (.int v1), some (.int v2), some (.int v3), w4], [], (197, i, (zRF b), l)) := by
  refine (ze_iload_n 51 zm163 dX10_ways_50 rfl rfl).trans ?_
  refine (ze_aload_n 52 zm163 dX10_ways_51 rfl rfl).trans ?_
  refine (ze_getI 55 zm163 dX10_ways_52 f10_134 k173_10 (Or.inl t10_26) rfl).trans ?_
  exact ze_icmp_ge 234 58 zm163 dX10_ways_55 (by decide) rfl
theorem b163_58 (sc : zScr) (v1 : Int32) (v2 : Int32) (v3 : Int32) (w4 : Option Value) (i : Nat → Nat → Int32) (b : Bool) (l : Nat → Nat → Int64) : zev sc (163, 58, [some (.ref 173), some (.int v1), some (.int v2), some (.int v3), w4], [], (197, i, (zRF b), l)) = zev sc (163, 61, [some (.ref 173), some (.int v1), some (.int v2), some (.int v3), some (.int (0 : Int32))], [], (197, i, (zRF b), l)) := by
  refine (ze_iconst 59 zm163 dX10_ways_58 ci_0 rfl).trans ?_
  refine (ze_istore (A := 99) (ls' := [some (.ref 173), some (.int v1), some (.int v2), some (.int v3), some (.int (0 : Int32))]) 61 zm163 dX10_ways_59 za163 rfl rfl rfl rfl rfl).trans ?_
  rfl
theorem b163_61 (sc : zScr) (v1 : Int32) (v2 : Int32) (v3 : Int32) (v4 : Int32) (i : Nat → Nat → Int32) (b : Bool) (l : Nat → Nat → Int64) : zev sc (163, 61, [some (.ref 173), some (.int v1), some (.int v2), some (.int v3), some (.int v4)], [], (197, i, (zRF b), l)) = if (8 : Int32) ≤ v4 then zev sc (163, 82, [some (.ref 173), some (.int v1), some (.int v2), some (.int v3), some (.int v4)], [], (197, i, (zRF b), l)) else zev sc (163, 68, [some (.ref 173), some (.int v1), some (.int v2), some (.int v3), some (.int v4)], [], (197, i, (zRF b), l)) := by
  refine (ze_iload 63 zm163 dX10_ways_61 rfl rfl).trans ?_
  refine (ze_bipush 65 zm163 dX10_ways_63 cb_8 rfl).trans ?_
  exact ze_icmp_ge 82 68 zm163 dX10_ways_65 (by decide) rfl
theorem b163_68 (sc : zScr) (v1 : Int32) (v2 : Int32) (v3 : Int32) (v4 : Int32) (i : Nat → Nat → Int32) (b : Bool) (l : Nat → Nat → Int64) (h1 : vp_in v4 8) : zev sc (163, 68, [some (.ref 173), some (.int v1), some (.int v2), some (.int v3), some (.int v4)], [], (197, i, (zRF b), l)) = zev sc (163, 61, [some (.ref 173), some (.int v1), some (.int v2), some (.int v3), some (.int (v4 + 1))], [], (197, (zU i 194 v4.toNatClampNeg (0 : Int32)), (zRF b), l)) := by
  refine (ze_aload_n 69 zm163 dX10_ways_68 rfl rfl).trans ?_
  refine (ze_getR 72 zm163 dX10_ways_69 f10_72 k173_10 t10_28 (rr173_28 b) rfl).trans ?_
  refine (ze_iload 74 zm163 dX10_ways_72 rfl rfl).trans ?_
  refine (ze_iconst 75 zm163 dX10_ways_74 ci_0 rfl).trans ?_
  refine (ze_iastore (t := v4.toNatClampNeg) 76 zm163 dX10_ways_75 k194_100 n194 h1 rfl rfl).trans ?_
  refine (ze_iinc (v := (1 : Int32)) (A := 99) (ls' := [some (.ref 173), some (.int v1), some (.int v2), some (.int v3), some (.int (v4 + 1))]) 79 zm163 dX10_ways_76 rfl ci_1 za163 rfl rfl rfl rfl rfl).trans ?_
  exact ze_goto 61 zm163 dX10_ways_79 (by decide)
theorem b163_82 (sc : zScr) (v1 : Int32) (v2 : Int32) (v3 : Int32) (v4 : Int32) (i : Nat → Nat → Int32) (b : Bool) (l : Nat → Nat → Int64) : zev sc (163, 82, [some (.ref 173), some (.int v1), some (.int v2), some (.int v3), some (.int v4)], [], (197, i, (zRF b), l)) = zev sc (163, 85, [some (.ref 173), some (.int v1), some (.int v2), some (.int v3), some (.int (0 : Int32))], [], (197, i, (zRF b), l)) := by
  refine (ze_iconst 83 zm163 dX10_ways_82 ci_0 rfl).trans ?_
  refine (ze_istore (A := 99) (ls' := [some (.ref 173), some (.int v1), some (.int v2), some (.int v3), some (.int (0 : Int32))]) 85 zm163 dX10_ways_83 za163 rfl rfl rfl rfl rfl).trans ?_
  rfl
theorem b163_85 (sc : zScr) (v1 : Int32) (v2 : Int32) (v3 : Int32) (v4 : Int32) (i : Nat → Nat → Int32) (b : Bool) (l : Nat → Nat → Int64) : zev sc (163, 85, [some (.ref 173), some (.int v1), some (.int v2), some (.int v3), some (.int v4)], [], (197, i, (zRF b), l)) = if (i 176 0) ≤ v4 then zev sc (163, 198, [some (.ref 173), some (.int v1), some (.int v2), some (.int v3), some (.int v4)], [], (197, i, (zRF b), l)) else zev sc (163, 96, [some (.ref 173), some (.int v1), some (.int v2), some (.int v3), some (.int v4)], [], (197, i, (zRF b), l)) := by
  refine (ze_iload 87 zm163 dX10_ways_85 rfl rfl).trans ?_
  refine (ze_aload_n 88 zm163 dX10_ways_87 rfl rfl).trans ?_
  refine (ze_getR 91 zm163 dX10_ways_88 f10_17 k173_10 t10_3 (rr173_3 b) rfl).trans ?_
  refine (ze_iconst 92 zm163 dX10_ways_91 ci_0 rfl).trans ?_
  refine (ze_iaload (t := 0) 93 zm163 dX10_ways_92 k176_100 n176 vi_0_2 tn_0 rfl).trans ?_
  exact ze_icmp_ge 198 96 zm163 dX10_ways_93 (by decide) rfl
theorem b163_96 (sc : zScr) (v1 : Int32) (v2 : Int32) (v3 : Int32) (v4 : Int32) (i : Nat → Nat → Int32) (b : Bool) (l : Nat → Nat → Int64) : zev sc (163, 96, [some (.ref 173), some (.int v1), some (.int v2), some (.int v3), some (.int v4)], [], (197, i, (zRF b), l)) = (zev sc (135, 0, [some (.ref 173), some (.int v1), some (.int v4), none], [], (197, i, (zRF b), l))).bind (fun x => zev sc (163, 103, [some (.ref 173), some (.int v1), some (.int v2), some (.int v3), some (.int v4)], [x.1], x.2)) := by
  refine (ze_aload_n 97 zm163 dX10_ways_96 rfl rfl).trans ?_
  refine (ze_iload_n 98 zm163 dX10_ways_97 rfl rfl).trans ?_
  refine (ze_iload 100 zm163 dX10_ways_98 rfl rfl).trans ?_
  exact ze_virtI (as := [.int v1, .int v4]) (rest := []) 103 zm163 dX10_ways_100 r10_152 zm135 rfl rfl k173_10 rfl rfl rfl rfl
theorem b163_103 (sc : zScr) (v1 : Int32) (v2 : Int32) (v3 : Int32) (v4 : Int32) (s0 : Int32) (i : Nat → Nat → Int32) (b : Bool) (l : Nat → Nat → Int64) (h1 : vp_in v3 6) : zev sc (163, 103, [some (.ref 173), some (.int v1), some (.int v2), some (.int v3), some (.int v4)], [.int s0], (197, i, (zRF b), l)) = if s0 = (i 192 v3.toNatClampNeg) then zev sc (163, 112, [some (.ref 173), some (.int v1), some (.int v2), some (.int v3), some (.int v4)], [], (197, i, (zRF b), l)) else zev sc (163, 192, [some (.ref 173), some (.int v1), some (.int v2), some (.int v3), some (.int v4)], [], (197, i, (zRF b), l)) := by
  refine (ze_aload_n 104 zm163 dX10_ways_103 rfl rfl).trans ?_
  refine (ze_getR 107 zm163 dX10_ways_104 f10_66 k173_10 t10_25 (rr173_25 b) rfl).trans ?_
  refine (ze_iload_n 108 zm163 dX10_ways_107 rfl rfl).trans ?_
  refine (ze_iaload (t := v3.toNatClampNeg) 109 zm163 dX10_ways_108 k192_100 n192 h1 rfl rfl).trans ?_
  exact ze_icmp_ne 192 112 zm163 dX10_ways_109 (by decide) rfl
theorem b163_112 (sc : zScr) (v1 : Int32) (v2 : Int32) (v3 : Int32) (v4 : Int32) (i : Nat → Nat → Int32) (b : Bool) (l : Nat → Nat → Int64) (h1 : vp_in v4 16) (h2 : vp_in (i 178 v4.toNatClampNeg) 8) (h3 : vp_in (i 177 v4.toNatClampNeg) 8) (h4 : vp_in ((zU i 194 ((i 178 v4.toNatClampNeg)).toNatClampNeg (((i 194 ((i 178 v4.toNatClampNeg)).toNatClampNeg) + (i 193 ((i 177 v4.toNatClampNeg)).toNatClampNeg)) - ((i 194 ((i 178 v4.toNatClampNeg)).toNatClampNeg) + (i 193 ((i 177 v4.toNatClampNeg)).toNatClampNeg)) / (1000003 : Int32) * (1000003 : Int32))) 177 v4.toNatClampNeg) 8) (h5 : vp_in ((zU i 194 ((i 178 v4.toNatClampNeg)).toNatClampNeg (((i 194 ((i 178 v4.toNatClampNeg)).toNatClampNeg) + (i 193 ((i 177 v4.toNatClampNeg)).toNatClampNeg)) - ((i 194 ((i 178 v4.toNatClampNeg)).toNatClampNeg) + (i 193 ((i 177 v4.toNatClampNeg)).toNatClampNeg)) / (1000003 : Int32) * (1000003 : Int32))) 178 v4.toNatClampNeg) 8) : zev sc (163, 112, [some (.ref 173), some (.int v1), some (.int v2), some (.int v3), some (.int v4)], [], (197, i, (zRF b), l)) = zev sc (163, 192, [some (.ref 173), some (.int v1), some (.int v2), some (.int v3), some (.int v4)], [], (197, (zU (zU i 194 ((i 178 v4.toNatClampNeg)).toNatClampNeg (((i 194 ((i 178 v4.toNatClampNeg)).toNatClampNeg) + (i 193 ((i 177 v4.toNatClampNeg)).toNatClampNeg)) - ((i 194 ((i 178 v4.toNatClampNeg)).toNatClampNeg) + (i 193 ((i 177 v4.toNatClampNeg)).toNatClampNeg)) / (1000003 : Int32) * (1000003 : Int32))) 194 (((zU i 194 ((i 178 v4.toNatClampNeg)).toNatClampNeg (((i 194 ((i 178 v4.toNatClampNeg)).toNatClampNeg) + (i 193 ((i 177 v4.toNatClampNeg)).toNatClampNeg)) - ((i 194 ((i 178 v4.toNatClampNeg)).toNatClampNeg) + (i 193 ((i 177 v4.toNatClampNeg)).toNatClampNeg)) / (1000003 : Int32) * (1000003 : Int32))) 177 v4.toNatClampNeg)).toNatClampNeg ((((zU i 194 ((i 178 v4.toNatClampNeg)).toNatClampNeg (((i 194 ((i 178 v4.toNatClampNeg)).toNatClampNeg) + (i 193 ((i 177 v4.toNatClampNeg)).toNatClampNeg)) - ((i 194 ((i 178 v4.toNatClampNeg)).toNatClampNeg) + (i 193 ((i 177 v4.toNatClampNeg)).toNatClampNeg)) / (1000003 : Int32) * (1000003 : Int32))) 194 (((zU i 194 ((i 178 v4.toNatClampNeg)).toNatClampNeg (((i 194 ((i 178 v4.toNatClampNeg)).toNatClampNeg) + (i 193 ((i 177 v4.toNatClampNeg)).toNatClampNeg)) - ((i 194 ((i 178 v4.toNatClampNeg)).toNatClampNeg) + (i 193 ((i 177 v4.toNatClampNeg)).toNatClampNeg)) / (1000003 : Int32) * (1000003 : Int32))) 177 v4.toNatClampNeg)).toNatClampNeg) + ((zU i 194 ((i 178 v4.toNatClampNeg)).toNatClampNeg (((i 194 ((i 178 v4.toNatClampNeg)).toNatClampNeg) + (i 193 ((i 177 v4.toNatClampNeg)).toNatClampNeg)) - ((i 194 ((i 178 v4.toNatClampNeg)).toNatClampNeg) + (i 193 ((i 177 v4.toNatClampNeg)).toNatClampNeg)) / (1000003 : Int32) * (1000003 : Int32))) 193 (((zU i 194 ((i 178 v4.toNatClampNeg)).toNatClampNeg (((i 194 ((i 178 v4.toNatClampNeg)).toNatClampNeg) + (i 193 ((i 177 v4.toNatClampNeg)).toNatClampNeg)) - ((i 194 ((i 178 v4.toNatClampNeg)).toNatClampNeg) + (i 193 ((i 177 v4.toNatClampNeg)).toNatClampNeg)) / (1000003 : Int32) * (1000003 : Int32))) 178 v4.toNatClampNeg)).toNatClampNeg)) - (((zU i 194 ((i 178 v4.toNatClampNeg)).toNatClampNeg (((i 194 ((i 178 v4.toNatClampNeg)).toNatClampNeg) + (i 193 ((i 177 v4.toNatClampNeg)).toNatClampNeg)) - ((i 194 ((i 178 v4.toNatClampNeg)).toNatClampNeg) + (i 193 ((i 177 v4.toNatClampNeg)).toNatClampNeg)) / (1000003 : Int32) * (1000003 : Int32))) 194 (((zU i 194 ((i 178 v4.toNatClampNeg)).toNatClampNeg (((i 194 ((i 178 v4.toNatClampNeg)).toNatClampNeg) + (i 193 ((i 177 v4.toNatClampNeg)).toNatClampNeg)) - ((i 194 ((i 178 v4.toNatClampNeg)).toNatClampNeg) + (i 193 ((i 177 v4.toNatClampNeg)).toNatClampNeg)) / (1000003 : Int32) * (1000003 : Int32))) 177 v4.toNatClampNeg)).toNatClampNeg) + ((zU i 194 ((i 178 v4.toNatClampNeg)).toNatClampNeg (((i 194 ((i 178 v4.toNatClampNeg)).toNatClampNeg) + (i 193 ((i 177 v4.toNatClampNeg)).toNatClampNeg)) - ((i 194 ((i 178 v4.toNatClampNeg)).toNatClampNeg) + (i 193 ((i 177 v4.toNatClampNeg)).toNatClampNeg)) / (1000003 : Int32) * (1000003 : Int32))) 193 (((zU i 194 ((i 178 v4.toNatClampNeg)).toNatClampNeg (((i 194 ((i 178 v4.toNatClampNeg)).toNatClampNeg) + (i 193 ((i 177 v4.toNatClampNeg)).toNatClampNeg)) - ((i 194 ((i 178 v4.toNatClampNeg)).toNatClampNeg) + (i 193 ((i 177 v4.toNatClampNeg)).toNatClampNeg)) / (1000003 : Int32) * (1000003 : Int32))) 178 v4.toNatClampNeg)).toNatClampNeg)) / (1000003 : Int32) * (1000003 : Int32))), (zRF b), l)) := by
  refine (ze_aload_n 113 zm163 dX10_ways_112 rfl rfl).trans ?_
  refine (ze_getR 116 zm163 dX10_ways_113 f10_72 k173_10 t10_28 (rr173_28 b) rfl).trans ?_
  refine (ze_aload_n 117 zm163 dX10_ways_116 rfl rfl).trans ?_
  refine (ze_getR 120 zm163 dX10_ways_117 f10_23 k173_10 t10_5 (rr173_5 b) rfl).trans ?_
  refine (ze_iload 122 zm163 dX10_ways_120 rfl rfl).trans ?_
  refine (ze_iaload (t := v4.toNatClampNeg) 123 zm163 dX10_ways_122 k178_100 n178 h1 rfl rfl).trans ?_
  refine (ze_aload_n 124 zm163 dX10_ways_123 rfl rfl).trans ?_
  refine (ze_getR 127 zm163 dX10_ways_124 f10_72 k173_10 t10_28 (rr173_28 b) rfl).trans ?_
  refine (ze_aload_n 128 zm163 dX10_ways_127 rfl rfl).trans ?_
  refine (ze_getR 131 zm163 dX10_ways_128 f10_23 k173_10 t10_5 (rr173_5 b) rfl).trans ?_
  refine (ze_iload 133 zm163 dX10_ways_131 rfl rfl).trans ?_
  refine (ze_iaload (t := v4.toNatClampNeg) 134 zm163 dX10_ways_133 k178_100 n178 h1 rfl rfl).trans ?_
  refine (ze_iaload (t := ((i 178 v4.toNatClampNeg)).toNatClampNeg) 135 zm163 dX10_ways_134 k194_100 n194 h2 rfl rfl).trans ?_
  refine (ze_aload_n 136 zm163 dX10_ways_135 rfl rfl).trans ?_
  refine (ze_getR 139 zm163 dX10_ways_136 f10_69 k173_10 t10_27 (rr173_27 b) rfl).trans ?_
  refine (ze_aload_n 140 zm163 dX10_ways_139 rfl rfl).trans ?_
  refine (ze_getR 143 zm163 dX10_ways_140 f10_20 k173_10 t10_4 (rr173_4 b) rfl).trans ?_
  refine (ze_iload 145 zm163 dX10_ways_143 rfl rfl).trans ?_
  refine (ze_iaload (t := v4.toNatClampNeg) 146 zm163 dX10_ways_145 k177_100 n177 h1 rfl rfl).trans ?_
  refine (ze_iaload (t := ((i 177 v4.toNatClampNeg)).toNatClampNeg) 147 zm163 dX10_ways_146 k193_100 n193 h3 rfl rfl).trans ?_
  refine (ze_iadd 148 zm163 dX10_ways_147 rfl).trans ?_
  refine (ze_ldc 150 zm163 dX10_ways_148 zi_10_195 rfl).trans ?_
  refine (ze_irem 151 zm163 dX10_ways_150 (by decide) rfl).trans ?_
  refine (ze_iastore (t := ((i 178 v4.toNatClampNeg)).toNatClampNeg) 152 zm163 dX10_ways_151 k194_100 n194 h2 rfl rfl).trans ?_
  refine (ze_aload_n 153 zm163 dX10_ways_152 rfl rfl).trans ?_
  refine (ze_getR 156 zm163 dX10_ways_153 f10_72 k173_10 t10_28 (rr173_28 b) rfl).trans ?_
  refine (ze_aload_n 157 zm163 dX10_ways_156 rfl rfl).trans ?_
  refine (ze_getR 160 zm163 dX10_ways_157 f10_20 k173_10 t10_4 (rr173_4 b) rfl).trans ?_
  refine (ze_iload 162 zm163 dX10_ways_160 rfl rfl).trans ?_
  refine (ze_iaload (t := v4.toNatClampNeg) 163 zm163 dX10_ways_162 k177_100 n177 h1 rfl rfl).trans ?_
  refine (ze_aload_n 164 zm163 dX10_ways_163 rfl rfl).trans ?_
  refine (ze_getR 167 zm163 dX10_ways_164 f10_72 k173_10 t10_28 (rr173_28 b) rfl).trans ?_
  refine (ze_aload_n 168 zm163 dX10_ways_167 rfl rfl).trans ?_
  refine (ze_getR 171 zm163 dX10_ways_168 f10_20 k173_10 t10_4 (rr173_4 b) rfl).trans ?_
  refine (ze_iload 173 zm163 dX10_ways_171 rfl rfl).trans ?_
  refine (ze_iaload (t := v4.toNatClampNeg) 174 zm163 dX10_ways_173 k177_100 n177 h1 rfl rfl).trans ?_
  refine (ze_iaload (t := (((zU i 194 ((i 178 v4.toNatClampNeg)).toNatClampNeg (((i 194 ((i 178 v4.toNatClampNeg)).toNatClampNeg) + (i 193 ((i 177 v4.toNatClampNeg)).toNatClampNeg)) - ((i 194 ((i 178 v4.toNatClampNeg)).toNatClampNeg) + (i 193 ((i 177 v4.toNatClampNeg)).toNatClampNeg)) / (1000003 : Int32) * (1000003 : Int32))) 177 v4.toNatClampNeg)).toNatClampNeg) 175 zm163 dX10_ways_174 k194_100 n194 h4 rfl rfl).trans ?_
  refine (ze_aload_n 176 zm163 dX10_ways_175 rfl rfl).trans ?_
  refine (ze_getR 179 zm163 dX10_ways_176 f10_69 k173_10 t10_27 (rr173_27 b) rfl).trans ?_
  refine (ze_aload_n 180 zm163 dX10_ways_179 rfl rfl).trans ?_
  refine (ze_getR 183 zm163 dX10_ways_180 f10_23 k173_10 t10_5 (rr173_5 b) rfl).trans ?_
  refine (ze_iload 185 zm163 dX10_ways_183 rfl rfl).trans ?_
  refine (ze_iaload (t := v4.toNatClampNeg) 186 zm163 dX10_ways_185 k178_100 n178 h1 rfl rfl).trans ?_
  refine (ze_iaload (t := (((zU i 194 ((i 178 v4.toNatClampNeg)).toNatClampNeg (((i 194 ((i 178 v4.toNatClampNeg)).toNatClampNeg) + (i 193 ((i 177 v4.toNatClampNeg)).toNatClampNeg)) - ((i 194 ((i 178 v4.toNatClampNeg)).toNatClampNeg) + (i 193 ((i 177 v4.toNatClampNeg)).toNatClampNeg)) / (1000003 : Int32) * (1000003 : Int32))) 178 v4.toNatClampNeg)).toNatClampNeg) 187 zm163 dX10_ways_186 k193_100 n193 h5 rfl rfl).trans ?_
  refine (ze_iadd 188 zm163 dX10_ways_187 rfl).trans ?_
  refine (ze_ldc 190 zm163 dX10_ways_188 zi_10_195 rfl).trans ?_
  refine (ze_irem 191 zm163 dX10_ways_190 (by decide) rfl).trans ?_
  refine (ze_iastore (t := (((zU i 194 ((i 178 v4.toNatClampNeg)).toNatClampNeg (((i 194 ((i 178 v4.toNatClampNeg)).toNatClampNeg) + (i 193 ((i 177 v4.toNatClampNeg)).toNatClampNeg)) - ((i 194 ((i 178 v4.toNatClampNeg)).toNatClampNeg) + (i 193 ((i 177 v4.toNatClampNeg)).toNatClampNeg)) / (1000003 : Int32) * (1000003 : Int32))) 177 v4.toNatClampNeg)).toNatClampNeg) 192 zm163 dX10_ways_191 k194_100 n194 h4 rfl rfl).trans ?_
  rfl
theorem b163_192 (sc : zScr) (v1 : Int32) (v2 : Int32) (v3 : Int32) (v4 : Int32) (i : Nat → Nat → Int32) (b : Bool) (l : Nat → Nat → Int64) : zev sc (163, 192, [some (.ref 173), some (.int v1), some (.int v2), some (.int v3), some (.int v4)], [], (197, i, (zRF b), l)) = zev sc (163, 85, [some (.ref 173), some (.int v1), some (.int v2), some (.int v3), some (.int (v4 + 1))], [], (197, i, (zRF b), l)) := by
  refine (ze_iinc (v := (1 : Int32)) (A := 99) (ls' := [some (.ref 173), some (.int v1), some (.int v2), some (.int v3), some (.int (v4 + 1))]) 195 zm163 dX10_ways_192 rfl ci_1 za163 rfl rfl rfl rfl rfl).trans ?_
  exact ze_goto 85 zm163 dX10_ways_195 (by decide)
theorem b163_198 (sc : zScr) (v1 : Int32) (v2 : Int32) (v3 : Int32) (v4 : Int32) (i : Nat → Nat → Int32) (b : Bool) (l : Nat → Nat → Int64) : zev sc (163, 198, [some (.ref 173), some (.int v1), some (.int v2), some (.int v3), some (.int v4)], [], (197, i, (zRF b), l)) = zev sc (163, 201, [some (.ref 173), some (.int v1), some (.int v2), some (.int v3), some (.int (0 : Int32))], [], (197, i, (zRF b), l)) := by
  refine (ze_iconst 199 zm163 dX10_ways_198 ci_0 rfl).trans ?_
  refine (ze_istore (A := 99) (ls' := [some (.ref 173), some (.int v1), some (.int v2), some (.int v3), some (.int (0 : Int32))]) 201 zm163 dX10_ways_199 za163 rfl rfl rfl rfl rfl).trans ?_
  rfl
theorem b163_201 (sc : zScr) (v1 : Int32) (v2 : Int32) (v3 : Int32) (v4 : Int32) (i : Nat → Nat → Int32) (b : Bool) (l : Nat → Nat → Int64) : zev sc (163, 201, [some (.ref 173), some (.int v1), some (.int v2), some (.int v3), some (.int v4)], [], (197, i, (zRF b), l)) = if (8 : Int32) ≤ v4 then zev sc (163, 228, [some (.ref 173), some (.int v1), some (.int v2), some (.int v3), some (.int v4)], [], (197, i, (zRF b), l)) else zev sc (163, 208, [some (.ref 173), some (.int v1), some (.int v2), some (.int v3), some (.int v4)], [], (197, i, (zRF b), l)) := by
  refine (ze_iload 203 zm163 dX10_ways_201 rfl rfl).trans ?_
  refine (ze_bipush 205 zm163 dX10_ways_203 cb_8 rfl).trans ?_
  exact ze_icmp_ge 228 208 zm163 dX10_ways_205 (by decide) rfl
theorem b163_208 (sc : zScr) (v1 : Int32) (v2 : Int32) (v3 : Int32) (v4 : Int32) (i : Nat → Nat → Int32) (b : Bool) (l : Nat → Nat → Int64) (h1 : vp_in v4 8) : zev sc (163, 208, [some (.ref 173), some (.int v1), some (.int v2), some (.int v3), some (.int v4)], [], (197, i, (zRF b), l)) = zev sc (163, 201, [some (.ref 173), some (.int v1), some (.int v2), some (.int v3), some (.int (v4 + 1))], [], (197, (zU i 193 v4.toNatClampNeg (i 194 v4.toNatClampNeg)), (zRF b), l)) := by
  refine (ze_aload_n 209 zm163 dX10_ways_208 rfl rfl).trans ?_
  refine (ze_getR 212 zm163 dX10_ways_209 f10_69 k173_10 t10_27 (rr173_27 b) rfl).trans ?_
  refine (ze_iload 214 zm163 dX10_ways_212 rfl rfl).trans ?_
  refine (ze_aload_n 215 zm163 dX10_ways_214 rfl rfl).trans ?_
  refine (ze_getR 218 zm163 dX10_ways_215 f10_72 k173_10 t10_28 (rr173_28 b) rfl).trans ?_
  refine (ze_iload 220 zm163 dX10_ways_218 rfl rfl).trans ?_
  refine (ze_iaload (t := v4.toNatClampNeg) 221 zm163 dX10_ways_220 k194_100 n194 h1 rfl rfl).trans ?_
  refine (ze_iastore (t := v4.toNatClampNeg) 222 zm163 dX10_ways_221 k193_100 n193 h1 rfl rfl).trans ?_
  refine (ze_iinc (v := (1 : Int32)) (A := 99) (ls' := [some (.ref 173), some (.int v1), some (.int v2), some (.int v3), some (.int (v4 + 1))]) 225 zm163 dX10_ways_222 rfl ci_1 za163 rfl rfl rfl rfl rfl).trans ?_
  exact ze_goto 201 zm163 dX10_ways_225 (by decide)
theorem b163_228 (sc : zScr) (v1 : Int32) (v2 : Int32) (v3 : Int32) (v4 : Int32) (i : Nat → Nat → Int32) (b : Bool) (l : Nat → Nat → Int64) : zev sc (163, 228, [some (.ref 173), some (.int v1), some (.int v2), some (.int v3), some (.int v4)], [], (197, i, (zRF b), l)) = zev sc (163, 50, [some (.ref 173), some (.int v1), some (.int v2), some (.int (v3 + 1)), some (.int v4)], [], (197, i, (zRF b), l)) := by
  refine (ze_iinc (v := (1 : Int32)) (A := 99) (ls' := [some (.ref 173), some (.int v1), some (.int v2), some (.int (v3 + 1)), some (.int v4)]) 231 zm163 dX10_ways_228 rfl ci_1 za163 rfl rfl rfl rfl rfl).trans ?_
  exact ze_goto 50 zm163 dX10_ways_231 (by decide)
theorem b163_234 (sc : zScr) (v1 : Int32) (v2 : Int32) (v3 : Int32) (w4 : Option Value) (i : Nat → Nat → Int32) (b : Bool) (l : Nat → Nat → Int64) : zev sc (163, 234, [some (.ref 173), some (.int v1), some (.int v2), some (.int v3), w4], [], (197, i, (zRF b), l)) = zev sc (163, 239, [some (.ref 173), some (.int v1), some (.int v2), some (.int (0 : Int32)), some (.int (0 : Int32))], [], (197, i, (zRF b), l)) := by
  refine (ze_iconst 235 zm163 dX10_ways_234 ci_0 rfl).trans ?_
  refine (ze_istore_n (A := 99) (ls' := [some (.ref 173), some (.int v1), some (.int v2), some (.int (0 : Int32)), w4]) 236 zm163 dX10_ways_235 za163 rfl rfl rfl rfl rfl).trans ?_
  refine (ze_iconst 237 zm163 dX10_ways_236 ci_0 rfl).trans ?_
  refine (ze_istore (A := 99) (ls' := [some (.ref 173), some (.int v1), some (.int v2), some (.int (0 : Int32)), some (.int (0 : Int32))]) 239 zm163 dX10_ways_237 za163 rfl rfl rfl rfl rfl).trans ?_
  rfl
theorem b163_239 (sc : zScr) (v1 : Int32) (v2 : Int32) (v3 : Int32) (v4 : Int32) (i : Nat → Nat → Int32) (b : Bool) (l : Nat → Nat → Int64) : zev sc (163, 239, [some (.ref 173), some (.int v1), some (.int v2), some (.int v3), some (.int v4)], [], (197, i, (zRF b), l)) = if (8 : Int32) ≤ v4 then zev sc (163, 265, [some (.ref 173), some (.int v1), some (.int v2), some (.int v3), some (.int v4)], [], (197, i, (zRF b), l)) else zev sc (163, 246, [some (.ref 173), some (.int v1), some (.int v2), some (.int v3), some (.int v4)], [], (197, i, (zRF b), l)) := by
  refine (ze_iload 241 zm163 dX10_ways_239 rfl rfl).trans ?_
  refine (ze_bipush 243 zm163 dX10_ways_241 cb_8 rfl).trans ?_
  exact ze_icmp_ge 265 246 zm163 dX10_ways_243 (by decide) rfl
theorem b163_246 (sc : zScr) (v1 : Int32) (v2 : Int32) (v3 : Int32) (v4 : Int32) (i : Nat → Nat → Int32) (b : Bool) (l : Nat → Nat → Int64) (h1 : vp_in v4 8) : zev sc (163, 246, [some (.ref 173), some (.int v1), some (.int v2), some (.int v3), some (.int v4)], [], (197, i, (zRF b), l)) = zev sc (163, 239, [some (.ref 173), some (.int v1), some (.int v2), some (.int ((v3 + (i 193 v4.toNatClampNeg)) - (v3 + (i 193 v4.toNatClampNeg)) / (1000003 : Int32) * (1000003 : Int32))), some (.int (v4 + 1))], [], (197, i, (zRF b), l)) := by
  refine (ze_iload_n 247 zm163 dX10_ways_246 rfl rfl).trans ?_
  refine (ze_aload_n 248 zm163 dX10_ways_247 rfl rfl).trans ?_
  refine (ze_getR 251 zm163 dX10_ways_248 f10_69 k173_10 t10_27 (rr173_27 b) rfl).trans ?_
  refine (ze_iload 253 zm163 dX10_ways_251 rfl rfl).trans ?_
  refine (ze_iaload (t := v4.toNatClampNeg) 254 zm163 dX10_ways_253 k193_100 n193 h1 rfl rfl).trans ?_
  refine (ze_iadd 255 zm163 dX10_ways_254 rfl).trans ?_
  refine (ze_ldc 257 zm163 dX10_ways_255 zi_10_195 rfl).trans ?_
  refine (ze_irem 258 zm163 dX10_ways_257 (by decide) rfl).trans ?_
  refine (ze_istore_n (A := 99) (ls' := [some (.ref 173), some (.int v1), some (.int v2), some (.int ((v3 + (i 193 v4.toNatClampNeg)) - (v3 + (i 193 v4.toNatClampNeg)) / (1000003 : Int32) * (1000003 : Int32))), some (.int v4)]) 259 zm163 dX10_ways_258 za163 rfl rfl rfl rfl rfl).trans ?_
  refine (ze_iinc (v := (1 : Int32)) (A := 99) (ls' := [some (.ref 173), some (.int v1), some (.int v2), some (.int ((v3 + (i 193 v4.toNatClampNeg)) - (v3 + (i 193 v4.toNatClampNeg)) / (1000003 : Int32) * (1000003 : Int32))), some (.int (v4 + 1))]) 262 zm163 dX10_ways_259 rfl ci_1 za163 rfl rfl rfl rfl rfl).trans ?_
  exact ze_goto 239 zm163 dX10_ways_262 (by decide)
theorem b163_265 (sc : zScr) (v1 : Int32) (v2 : Int32) (v3 : Int32) (v4 : Int32) (i : Nat → Nat → Int32) (b : Bool) (l : Nat → Nat → Int64) : zev sc (163, 265, [some (.ref 173), some (.int v1), some (.int v2), some (.int v3), some (.int v4)], [], (197, i, (zRF b), l)) = some (.int v3, (197, i, (zRF b), l)) := by
  refine (ze_iload_n 266 zm163 dX10_ways_265 rfl rfl).trans ?_
  exact ze_ireturn zm163 dX10_ways_266 rfl
/-! HarpFencesModel.endsOf (I)I: method 164 -/
theorem b164_0 (sc : zScr) (v1 : Int32) (i : Nat → Nat → Int32) (b : Bool) (l : Nat → Nat → Int64) : zev sc (164, 0, [some (.ref 173), some (.int v1), none, none, none, none], [], (197, i, (zRF b), l)) = (zev sc (140, 0, [some (.int (i 175 0))], [], (197, i, (zRF b), l))).bind (fun x => zev sc (164, 9, [some (.ref 173), some (.int v1), none, none, none, none], [x.1], x.2)) := by
  refine (ze_aload_n 1 zm164 dX10_endsOf_0 rfl rfl).trans ?_
  refine (ze_getR 4 zm164 dX10_endsOf_1 f10_13 k173_10 t10_2 (rr173_2 b) rfl).trans ?_
  refine (ze_iconst 5 zm164 dX10_endsOf_4 ci_0 rfl).trans ?_
  refine (ze_iaload (t := 0) 6 zm164 dX10_endsOf_5 k175_100 n175 vi_0_2 tn_0 rfl).trans ?_
  exact ze_statI (as := [.int (i 175 0)]) (rest := []) 9 zm164 dX10_endsOf_6 r10_171 zm140 rfl rfl rfl rfl rfl rfl
theorem b164_9 (sc : zScr) (v1 : Int32) (s0 : Int32) (i : Nat → Nat → Int32) (b : Bool) (l : Nat → Nat → Int64) : zev sc (164, 9, [some (.ref 173), some (.int v1), none, none, none, none], [.int s0], (197, i, (zRF b), l)) = zev sc (164, 12, [some (.ref 173), some (.int v1), some (.int s0), some (.int (0 : Int32)), none, none], [], (197, i, (zRF b), l)) := by
  refine (ze_istore_n (A := 99) (ls' := [some (.ref 173), some (.int v1), some (.int s0), none, none, none]) 10 zm164 dX10_endsOf_9 za164 rfl rfl rfl rfl rfl).trans ?_
  refine (ze_iconst 11 zm164 dX10_endsOf_10 ci_0 rfl).trans ?_
  refine (ze_istore_n (A := 99) (ls' := [some (.ref 173), some (.int v1), some (.int s0), some (.int (0 : Int32)), none, none]) 12 zm164 dX10_endsOf_11 za164 rfl rfl rfl rfl rfl).trans ?_
  rfl
theorem b164_12 (sc : zScr) (v1 : Int32) (v2 : Int32) (v3 : Int32) (w4 : Option Value) (w5 : Option Value) (i : Nat → Nat → Int32) (b : Bool) (l : Nat → Nat → Int64) : zev sc (164, 12, [some (.ref 173), some (.int v1), some (.int v2), some (.int v3), w4, w5], [], (197, i, (zRF b), l)) = if (i 173 26) ≤ v3 then zev sc (164, 132, [some (.ref 173), some (.int v1), some (.int v2), some (.int v3), w4, w5], [], (197, i, (zRF b), l)) else zev sc (164, 20, [some (.ref 173), some (.int v1), some (.int v2), some (.int v3), w4, w5], [], (197, i, (zRF b), l)) := by
  refine (ze_iload_n 13 zm164 dX10_endsOf_12 rfl rfl).trans ?_
  refine (ze_aload_n 14 zm164 dX10_endsOf_13 rfl rfl).trans ?_
  refine (ze_getI 17 zm164 dX10_endsOf_14 f10_134 k173_10 (Or.inl t10_26) rfl).trans ?_
  exact ze_icmp_ge 132 20 zm164 dX10_endsOf_17 (by decide) rfl
theorem b164_20 (sc : zScr) (v1 : Int32) (v2 : Int32) (v3 : Int32) (w4 : Option Value) (w5 : Option Value) (i : Nat → Nat → Int32) (b : Bool) (l : Nat → Nat → Int64) : zev sc (164, 20, [some (.ref 173), some (.int v1), some (.int v2), some (.int v3), w4, w5], [], (197, i, (zRF b), l)) = zev sc (164, 26, [some (.ref 173), some (.int v1), some (.int v2), some (.int v3), some (.int (0 : Int32)), some (.int (0 : Int32))], [], (197, i, (zRF b), l)) := by
  refine (ze_iconst 21 zm164 dX10_endsOf_20 ci_0 rfl).trans ?_
  refine (ze_istore (A := 99) (ls' := [some (.ref 173), some (.int v1), some (.int v2), some (.int v3), some (.int (0 : Int32)), w5]) 23 zm164 dX10_endsOf_21 za164 rfl rfl rfl rfl rfl).trans ?_
  refine (ze_iconst 24 zm164 dX10_endsOf_23 ci_0 rfl).trans ?_
  refine (ze_istore (A := 99) (ls' := [some (.ref 173), some (.int v1), some (.int v2), some (.int v3), some (.int (0 : Int32)), some (.int (0 : Int32))]) 26 zm164 dX10_endsOf_24 za164 rfl rfl rfl rfl rfl).trans ?_
  rfl
theorem b164_26 (sc : zScr) (v1 : Int32) (v2 : Int32) (v3 : Int32) (v4 : Int32) (v5 : Int32) (i : Nat → Nat → Int32) (b : Bool) (l : Nat → Nat → Int64) : zev sc (164, 26, [some (.ref 173), some (.int v1), some (.int v2), some (.int v3), some (.int v4), some (.int v5)], [], (197, i, (zRF b), l)) = if (i 176 0) ≤ v5 then zev sc (164, 123, [some (.ref 173), some (.int v1), some (.int v2), some (.int v3), some (.int v4), some (.int v5)], [], (197, i, (zRF b), l)) else zev sc (164, 37, [some (.ref 173), some (.int v1), some (.int v2), some (.int v3), some (.int v4), some (.int v5)], [], (197, i, (zRF b), l)) := by
  refine (ze_iload 28 zm164 dX10_endsOf_26 rfl rfl).trans ?_
  refine (ze_aload_n 29 zm164 dX10_endsOf_28 rfl rfl).trans ?_
  refine (ze_getR 32 zm164 dX10_endsOf_29 f10_17 k173_10 t10_3 (rr173_3 b) rfl).trans ?_
  refine (ze_iconst 33 zm164 dX10_endsOf_32 ci_0 rfl).trans ?_
  refine (ze_iaload (t := 0) 34 zm164 dX10_endsOf_33 k176_100 n176 vi_0_2 tn_0 rfl).trans ?_
  exact ze_icmp_ge 123 37 zm164 dX10_endsOf_34 (by decide) rfl
theorem b164_37 (sc : zScr) (v1 : Int32) (v2 : Int32) (v3 : Int32) (v4 : Int32) (v5 : Int32) (i : Nat → Nat → Int32) (b : Bool) (l : Nat → Nat → Int64) : zev sc (164, 37, [some (.ref 173), some (.int v1), some (.int v2), some (.int v3), some (.int v4), some (.int v5)], [], (197, i, (zRF b), l)) = (zev sc (135, 0, [some (.ref 173), some (.int v1), some (.int v5), none], [], (197, i, (zRF b), l))).bind (fun x => zev sc (164, 44, [some (.ref 173), some (.int v1), some (.int v2), some (.int v3), some (.int v4), some (.int v5)], [x.1], x.2)) := by
  refine (ze_aload_n 38 zm164 dX10_endsOf_37 rfl rfl).trans ?_
  refine (ze_iload_n 39 zm164 dX10_endsOf_38 rfl rfl).trans ?_
  refine (ze_iload 41 zm164 dX10_endsOf_39 rfl rfl).trans ?_
  exact ze_virtI (as := [.int v1, .int v5]) (rest := []) 44 zm164 dX10_endsOf_41 r10_152 zm135 rfl rfl k173_10 rfl rfl rfl rfl
theorem b164_44 (sc : zScr) (v1 : Int32) (v2 : Int32) (v3 : Int32) (v4 : Int32) (v5 : Int32) (s0 : Int32) (i : Nat → Nat → Int32) (b : Bool) (l : Nat → Nat → Int64) (h1 : vp_in v3 6) : zev sc (164, 44, [some (.ref 173), some (.int v1), some (.int v2), some (.int v3), some (.int v4), some (.int v5)], [.int s0], (197, i, (zRF b), l)) = if s0 = (i 192 v3.toNatClampNeg) then zev sc (164, 53, [some (.ref 173), some (.int v1), some (.int v2), some (.int v3), some (.int v4), some (.int v5)], [], (197, i, (zRF b), l)) else zev sc (164, 117, [some (.ref 173), some (.int v1), some (.int v2), some (.int v3), some (.int v4), some (.int v5)], [], (197, i, (zRF b), l)) := by
  refine (ze_aload_n 45 zm164 dX10_endsOf_44 rfl rfl).trans ?_
  refine (ze_getR 48 zm164 dX10_endsOf_45 f10_66 k173_10 t10_25 (rr173_25 b) rfl).trans ?_
  refine (ze_iload_n 49 zm164 dX10_endsOf_48 rfl rfl).trans ?_
  refine (ze_iaload (t := v3.toNatClampNeg) 50 zm164 dX10_endsOf_49 k192_100 n192 h1 rfl rfl).trans ?_
  exact ze_icmp_ne 117 53 zm164 dX10_endsOf_50 (by decide) rfl
theorem b164_53 (sc : zScr) (v1 : Int32) (v2 : Int32) (v3 : Int32) (v4 : Int32) (v5 : Int32) (i : Nat → Nat → Int32) (b : Bool) (l : Nat → Nat → Int64) (h1 : vp_in v5 16) : zev sc (164, 53, [some (.ref 173), some (.int v1), some (.int v2), some (.int v3), some (.int v4), some (.int v5)], [], (197, i, (zRF b), l)) = (zev sc (120, 0, [some (.int v2), some (.int (i 177 v5.toNatClampNeg))], [], (197, i, (zRF b), l))).bind (fun x => zev sc (164, 66, [some (.ref 173), some (.int v1), some (.int v2), some (.int v3), some (.int v4), some (.int v5)], [x.1, .int v4], x.2)) := by
  refine (ze_iload 55 zm164 dX10_endsOf_53 rfl rfl).trans ?_
  refine (ze_iload_n 56 zm164 dX10_endsOf_55 rfl rfl).trans ?_
  refine (ze_aload_n 57 zm164 dX10_endsOf_56 rfl rfl).trans ?_
  refine (ze_getR 60 zm164 dX10_endsOf_57 f10_20 k173_10 t10_4 (rr173_4 b) rfl).trans ?_
  refine (ze_iload 62 zm164 dX10_endsOf_60 rfl rfl).trans ?_
  refine (ze_iaload (t := v5.toNatClampNeg) 63 zm164 dX10_endsOf_62 k177_100 n177 h1 rfl rfl).trans ?_
  exact ze_statI (as := [.int v2, .int (i 177 v5.toNatClampNeg)]) (rest := [.int v4]) 66 zm164 dX10_endsOf_63 r10_137 zm120 rfl rfl rfl rfl rfl rfl
theorem b164_66 (sc : zScr) (v1 : Int32) (v2 : Int32) (v3 : Int32) (v4 : Int32) (v5 : Int32) (s0 : Int32) (s1 : Int32) (i : Nat → Nat → Int32) (b : Bool) (l : Nat → Nat → Int64) : zev sc (164, 66, [some (.ref 173), some (.int v1), some (.int v2), some (.int v3), some (.int v4), some (.int v5)], [.int s0, .int s1], (197, i, (zRF b), l)) = if s0 = 0 then zev sc (164, 81, [some (.ref 173), some (.int v1), some (.int v2), some (.int v3), some (.int v4), some (.int v5)], [.int s1], (197, i, (zRF b), l)) else zev sc (164, 69, [some (.ref 173), some (.int v1), some (.int v2), some (.int v3), some (.int v4), some (.int v5)], [.int s1], (197, i, (zRF b), l)) := by
  exact ze_if_eq 81 69 zm164 dX10_endsOf_66 (by decide) rfl
theorem b164_69 (sc : zScr) (v1 : Int32) (v2 : Int32) (v3 : Int32) (v4 : Int32) (v5 : Int32) (s0 : Int32) (i : Nat → Nat → Int32) (b : Bool) (l : Nat → Nat → Int64) (h1 : vp_in v5 16) : zev sc (164, 69, [some (.ref 173), some (.int v1), some (.int v2), some (.int v3), some (.int v4), some (.int v5)], [.int s0], (197, i, (zRF b), l)) = zev sc (164, 82, [some (.ref 173), some (.int v1), some (.int v2), some (.int v3), some (.int v4), some (.int v5)], [.int ((1 : Int32) <<< ((i 178 v5.toNatClampNeg) &&& 31)), .int s0], (197, i, (zRF b), l)) := by
  refine (ze_iconst 70 zm164 dX10_endsOf_69 ci_1 rfl).trans ?_
  refine (ze_aload_n 71 zm164 dX10_endsOf_70 rfl rfl).trans ?_
  refine (ze_getR 74 zm164 dX10_endsOf_71 f10_23 k173_10 t10_5 (rr173_5 b) rfl).trans ?_
  refine (ze_iload 76 zm164 dX10_endsOf_74 rfl rfl).trans ?_
  refine (ze_iaload (t := v5.toNatClampNeg) 77 zm164 dX10_endsOf_76 k178_100 n178 h1 rfl rfl).trans ?_
  refine (ze_ishl 78 zm164 dX10_endsOf_77 rfl).trans ?_
  exact ze_goto 82 zm164 dX10_endsOf_78 (by decide)
theorem b164_81 (sc : zScr) (v1 : Int32) (v2 : Int32) (v3 : Int32) (v4 : Int32) (v5 : Int32) (s0 : Int32) (i : Nat → Nat → Int32) (b : Bool) (l : Nat → Nat → Int64) : zev sc (164, 81, [some (.ref 173), some (.int v1), some (.int v2), some (.int v3), some (.int v4), some (.int v5)], [.int s0], (197, i, (zRF b), l)) = zev sc (164, 82, [some (.ref 173), some (.int v1), some (.int v2), some (.int v3), some (.int v4), some (.int v5)], [.int (0 : Int32), .int s0], (197, i, (zRF b), l)) := by
  refine (ze_iconst 82 zm164 dX10_endsOf_81 ci_0 rfl).trans ?_
  rfl
theorem b164_82 (sc : zScr) (v1 : Int32) (v2 : Int32) (v3 : Int32) (v4 : Int32) (v5 : Int32) (s0 : Int32) (s1 : Int32) (i : Nat → Nat → Int32) (b : Bool) (l : Nat → Nat → Int64) (h1 : vp_in v5 16) : zev sc (164, 82, [some (.ref 173), some (.int v1), some (.int v2), some (.int v3), some (.int v4), some (.int v5)], [.int s0, .int s1], (197, i, (zRF b), l)) = (zev sc (120, 0, [some (.int v2), some (.int (i 178 v5.toNatClampNeg))], [], (197, i, (zRF b), l))).bind (fun x => zev sc (164, 98, [some (.ref 173), some (.int v1), some (.int v2), some (.int v3), some (.int (s1 ||| s0)), some (.int v5)], [x.1, .int (s1 ||| s0)], x.2)) := by
  refine (ze_ior 83 zm164 dX10_endsOf_82 rfl).trans ?_
  refine (ze_istore (A := 99) (ls' := [some (.ref 173), some (.int v1), some (.int v2), some (.int v3), some (.int (s1 ||| s0)), some (.int v5)]) 85 zm164 dX10_endsOf_83 za164 rfl rfl rfl rfl rfl).trans ?_
  refine (ze_iload 87 zm164 dX10_endsOf_85 rfl rfl).trans ?_
  refine (ze_iload_n 88 zm164 dX10_endsOf_87 rfl rfl).trans ?_
  refine (ze_aload_n 89 zm164 dX10_endsOf_88 rfl rfl).trans ?_
  refine (ze_getR 92 zm164 dX10_endsOf_89 f10_23 k173_10 t10_5 (rr173_5 b) rfl).trans ?_
  refine (ze_iload 94 zm164 dX10_endsOf_92 rfl rfl).trans ?_
  refine (ze_iaload (t := v5.toNatClampNeg) 95 zm164 dX10_endsOf_94 k178_100 n178 h1 rfl rfl).trans ?_
  exact ze_statI (as := [.int v2, .int (i 178 v5.toNatClampNeg)]) (rest := [.int (s1 ||| s0)]) 98 zm164 dX10_endsOf_95 r10_137 zm120 rfl rfl rfl rfl rfl rfl
theorem b164_98 (sc : zScr) (v1 : Int32) (v2 : Int32) (v3 : Int32) (v4 : Int32) (v5 : Int32) (s0 : Int32) (s1 : Int32) (i : Nat → Nat → Int32) (b : Bool) (l : Nat → Nat → Int64) : zev sc (164, 98, [some (.ref 173), some (.int v1), some (.int v2), some (.int v3), some (.int v4), some (.int v5)], [.int s0, .int s1], (197, i, (zRF b), l)) = if s0 = 0 then zev sc (164, 113, [some (.ref 173), some (.int v1), some (.int v2), some (.int v3), some (.int v4), some (.int v5)], [.int s1], (197, i, (zRF b), l)) else zev sc (164, 101, [some (.ref 173), some (.int v1), some (.int v2), some (.int v3), some (.int v4), some (.int v5)], [.int s1], (197, i, (zRF b), l)) := by
  exact ze_if_eq 113 101 zm164 dX10_endsOf_98 (by decide) rfl
theorem b164_101 (sc : zScr) (v1 : Int32) (v2 : Int32) (v3 : Int32) (v4 : Int32) (v5 : Int32) (s0 : Int32) (i : Nat → Nat → Int32) (b : Bool) (l : Nat → Nat → Int64) (h1 : vp_in v5 16) : zev sc (164, 101, [some (.ref 173), some (.int v1), some (.int v2), some (.int v3), some (.int v4), some (.int v5)], [.int s0], (197, i, (zRF b), l)) = zev sc (164, 114, [some (.ref 173), some (.int v1), some (.int v2), some (.int v3), some (.int v4), some (.int v5)], [.int ((1 : Int32) <<< ((i 177 v5.toNatClampNeg) &&& 31)), .int s0], (197, i, (zRF b), l)) := by
  refine (ze_iconst 102 zm164 dX10_endsOf_101 ci_1 rfl).trans ?_
  refine (ze_aload_n 103 zm164 dX10_endsOf_102 rfl rfl).trans ?_
  refine (ze_getR 106 zm164 dX10_endsOf_103 f10_20 k173_10 t10_4 (rr173_4 b) rfl).trans ?_
  refine (ze_iload 108 zm164 dX10_endsOf_106 rfl rfl).trans ?_
  refine (ze_iaload (t := v5.toNatClampNeg) 109 zm164 dX10_endsOf_108 k177_100 n177 h1 rfl rfl).trans ?_
  refine (ze_ishl 110 zm164 dX10_endsOf_109 rfl).trans ?_
  exact ze_goto 114 zm164 dX10_endsOf_110 (by decide)
theorem b164_113 (sc : zScr) (v1 : Int32) (v2 : Int32) (v3 : Int32) (v4 : Int32) (v5 : Int32) (s0 : Int32) (i : Nat → Nat → Int32) (b : Bool) (l : Nat → Nat → Int64) : zev sc (164, 113, [some (.ref 173), some (.int v1), some (.int v2), some (.int v3), some (.int v4), some (.int v5)], [.int s0], (197, i, (zRF b), l)) = zev sc (164, 114, [some (.ref 173), some (.int v1), some (.int v2), some (.int v3), some (.int v4), some (.int v5)], [.int (0 : Int32), .int s0], (197, i, (zRF b), l)) := by
  refine (ze_iconst 114 zm164 dX10_endsOf_113 ci_0 rfl).trans ?_
  rfl
theorem b164_114 (sc : zScr) (v1 : Int32) (v2 : Int32) (v3 : Int32) (v4 : Int32) (v5 : Int32) (s0 : Int32) (s1 : Int32) (i : Nat → Nat → Int32) (b : Bool) (l : Nat → Nat → Int64) : zev sc (164, 114, [some (.ref 173), some (.int v1), some (.int v2), some (.int v3), some (.int v4), some (.int v5)], [.int s0, .int s1], (197, i, (zRF b), l)) = zev sc (164, 117, [some (.ref 173), some (.int v1), some (.int v2), some (.int v3), some (.int (s1 ||| s0)), some (.int v5)], [], (197, i, (zRF b), l)) := by
  refine (ze_ior 115 zm164 dX10_endsOf_114 rfl).trans ?_
  refine (ze_istore (A := 99) (ls' := [some (.ref 173), some (.int v1), some (.int v2), some (.int v3), some (.int (s1 ||| s0)), some (.int v5)]) 117 zm164 dX10_endsOf_115 za164 rfl rfl rfl rfl rfl).trans ?_
  rfl
theorem b164_117 (sc : zScr) (v1 : Int32) (v2 : Int32) (v3 : Int32) (v4 : Int32) (v5 : Int32) (i : Nat → Nat → Int32) (b : Bool) (l : Nat → Nat → Int64) : zev sc (164, 117, [some (.ref 173), some (.int v1), some (.int v2), some (.int v3), some (.int v4), some (.int v5)], [], (197, i, (zRF b), l)) = zev sc (164, 26, [some (.ref 173), some (.int v1), some (.int v2), some (.int v3), some (.int v4), some (.int (v5 + 1))], [], (197, i, (zRF b), l)) := by
  refine (ze_iinc (v := (1 : Int32)) (A := 99) (ls' := [some (.ref 173), some (.int v1), some (.int v2), some (.int v3), some (.int v4), some (.int (v5 + 1))]) 120 zm164 dX10_endsOf_117 rfl ci_1 za164 rfl rfl rfl rfl rfl).trans ?_
  exact ze_goto 26 zm164 dX10_endsOf_120 (by decide)
theorem b164_123 (sc : zScr) (v1 : Int32) (v2 : Int32) (v3 : Int32) (v4 : Int32) (v5 : Int32) (i : Nat → Nat → Int32) (b : Bool) (l : Nat → Nat → Int64) : zev sc (164, 123, [some (.ref 173), some (.int v1), some (.int v2), some (.int v3), some (.int v4), some (.int v5)], [], (197, i, (zRF b), l)) = zev sc (164, 12, [some (.ref 173), some (.int v1), some (.int v4), some (.int (v3 + 1)), some (.int v4), some (.int v5)], [], (197, i, (zRF b), l)) := by
  refine (ze_iload 125 zm164 dX10_endsOf_123 rfl rfl).trans ?_
  refine (ze_istore_n (A := 99) (ls' := [some (.ref 173), some (.int v1), some (.int v4), some (.int v3), some (.int v4), some (.int v5)]) 126 zm164 dX10_endsOf_125 za164 rfl rfl rfl rfl rfl).trans ?_
  refine (ze_iinc (v := (1 : Int32)) (A := 99) (ls' := [some (.ref 173), some (.int v1), some (.int v4), some (.int (v3 + 1)), some (.int v4), some (.int v5)]) 129 zm164 dX10_endsOf_126 rfl ci_1 za164 rfl rfl rfl rfl rfl).trans ?_
  exact ze_goto 12 zm164 dX10_endsOf_129 (by decide)
theorem b164_132 (sc : zScr) (v1 : Int32) (v2 : Int32) (v3 : Int32) (w4 : Option Value) (w5 : Option Value) (i : Nat → Nat → Int32) (b : Bool) (l : Nat → Nat → Int64) : zev sc (164, 132, [some (.ref 173), some (.int v1), some (.int v2), some (.int v3), w4, w5], [], (197, i, (zRF b), l)) = some (.int v2, (197, i, (zRF b), l)) := by
  refine (ze_iload_n 133 zm164 dX10_endsOf_132 rfl rfl).trans ?_
  exact ze_ireturn zm164 dX10_endsOf_133 rfl
/-! HarpFencesModel.ends (I)I: method 165 -/
theorem b165_0 (sc : zScr) (v1 : Int32) (i : Nat → Nat → Int32) (b : Bool) (l : Nat → Nat → Int64) : zev sc (165, 0, [some (.ref 173), some (.int v1)], [], (197, i, (zRF b), l)) = (zev sc (133, 0, [some (.ref 173), some (.int v1)], [], (197, i, (zRF b), l))).bind (fun x => zev sc (165, 5, [some (.ref 173), some (.int v1)], [x.1], x.2)) := by
  refine (ze_aload_n 1 zm165 dX10_ends_0 rfl rfl).trans ?_
  refine (ze_iload_n 2 zm165 dX10_ends_1 rfl rfl).trans ?_
  exact ze_virtI (as := [.int v1]) (rest := []) 5 zm165 dX10_ends_2 r10_145 zm133 rfl rfl k173_10 rfl rfl rfl rfl
theorem b165_5 (sc : zScr) (v1 : Int32) (s0 : Int32) (i : Nat → Nat → Int32) (b : Bool) (l : Nat → Nat → Int64) : zev sc (165, 5, [some (.ref 173), some (.int v1)], [.int s0], (197, i, (zRF b), l)) = if s0 = 0 then zev sc (165, 16, [some (.ref 173), some (.int v1)], [], (197, i, (zRF b), l)) else zev sc (165, 8, [some (.ref 173), some (.int v1)], [], (197, i, (zRF b), l)) := by
  exact ze_if_eq 16 8 zm165 dX10_ends_5 (by decide) rfl
theorem b165_8 (sc : zScr) (v1 : Int32) (i : Nat → Nat → Int32) (b : Bool) (l : Nat → Nat → Int64) : zev sc (165, 8, [some (.ref 173), some (.int v1)], [], (197, i, (zRF b), l)) = (zev sc (164, 0, [some (.ref 173), some (.int v1), none, none, none, none], [], (197, i, (zRF b), l))).bind (fun x => zev sc (165, 13, [some (.ref 173), some (.int v1)], [x.1], x.2)) := by
  refine (ze_aload_n 9 zm165 dX10_ends_8 rfl rfl).trans ?_
  refine (ze_iload_n 10 zm165 dX10_ends_9 rfl rfl).trans ?_
  exact ze_virtI (as := [.int v1]) (rest := []) 13 zm165 dX10_ends_10 r10_196 zm164 rfl rfl k173_10 rfl rfl rfl rfl
theorem b165_13 (sc : zScr) (v1 : Int32) (s0 : Int32) (i : Nat → Nat → Int32) (b : Bool) (l : Nat → Nat → Int64) : zev sc (165, 13, [some (.ref 173), some (.int v1)], [.int s0], (197, i, (zRF b), l)) = zev sc (165, 17, [some (.ref 173), some (.int v1)], [.int s0], (197, i, (zRF b), l)) := by
  exact ze_goto 17 zm165 dX10_ends_13 (by decide)
theorem b165_16 (sc : zScr) (v1 : Int32) (i : Nat → Nat → Int32) (b : Bool) (l : Nat → Nat → Int64) : zev sc (165, 16, [some (.ref 173), some (.int v1)], [], (197, i, (zRF b), l)) = zev sc (165, 17, [some (.ref 173), some (.int v1)], [.int (-1 : Int32)], (197, i, (zRF b), l)) := by
  refine (ze_iconst 17 zm165 dX10_ends_16 ci_m1 rfl).trans ?_
  rfl
theorem b165_17 (sc : zScr) (v1 : Int32) (s0 : Int32) (i : Nat → Nat → Int32) (b : Bool) (l : Nat → Nat → Int64) : zev sc (165, 17, [some (.ref 173), some (.int v1)], [.int s0], (197, i, (zRF b), l)) = some (.int s0, (197, i, (zRF b), l)) := by
  exact ze_ireturn zm165 dX10_ends_17 rfl
/-! HarpFencesModel.can ()I: method 166 -/
theorem b166_0 (sc : zScr) (i : Nat → Nat → Int32) (b : Bool) (l : Nat → Nat → Int64) : zev sc (166, 0, [some (.ref 173), none, none], [], (197, i, (zRF b), l)) = zev sc (166, 4, [some (.ref 173), some (.int (0 : Int32)), some (.int (0 : Int32))], [], (197, i, (zRF b), l)) := by
  refine (ze_iconst 1 zm166 dX10_can_0 ci_0 rfl).trans ?_
  refine (ze_istore_n (A := 99) (ls' := [some (.ref 173), some (.int (0 : Int32)), none]) 2 zm166 dX10_can_1 za166 rfl rfl rfl rfl rfl).trans ?_
  refine (ze_iconst 3 zm166 dX10_can_2 ci_0 rfl).trans ?_
  refine (ze_istore_n (A := 99) (ls' := [some (.ref 173), some (.int (0 : Int32)), some (.int (0 : Int32))]) 4 zm166 dX10_can_3 za166 rfl rfl rfl rfl rfl).trans ?_
  rfl
theorem b166_4 (sc : zScr) (v1 : Int32) (v2 : Int32) (i : Nat → Nat → Int32) (b : Bool) (l : Nat → Nat → Int64) : zev sc (166, 4, [some (.ref 173), some (.int v1), some (.int v2)], [], (197, i, (zRF b), l)) = if (i 180 0) ≤ v2 then zev sc (166, 38, [some (.ref 173), some (.int v1), some (.int v2)], [], (197, i, (zRF b), l)) else zev sc (166, 14, [some (.ref 173), some (.int v1), some (.int v2)], [], (197, i, (zRF b), l)) := by
  refine (ze_iload_n 5 zm166 dX10_can_4 rfl rfl).trans ?_
  refine (ze_aload_n 6 zm166 dX10_can_5 rfl rfl).trans ?_
  refine (ze_getR 9 zm166 dX10_can_6 f10_29 k173_10 t10_7 (rr173_7 b) rfl).trans ?_
  refine (ze_iconst 10 zm166 dX10_can_9 ci_0 rfl).trans ?_
  refine (ze_iaload (t := 0) 11 zm166 dX10_can_10 k180_100 n180 vi_0_2 tn_0 rfl).trans ?_
  exact ze_icmp_ge 38 14 zm166 dX10_can_11 (by decide) rfl
theorem b166_14 (sc : zScr) (v1 : Int32) (v2 : Int32) (i : Nat → Nat → Int32) (b : Bool) (l : Nat → Nat → Int64) : zev sc (166, 14, [some (.ref 173), some (.int v1), some (.int v2)], [], (197, i, (zRF b), l)) = (zev sc (164, 0, [some (.ref 173), some (.int v2), none, none, none, none], [], (197, i, (zRF b), l))).bind (fun x => zev sc (166, 20, [some (.ref 173), some (.int v1), some (.int v2)], [x.1, .int v1], x.2)) := by
  refine (ze_iload_n 15 zm166 dX10_can_14 rfl rfl).trans ?_
  refine (ze_aload_n 16 zm166 dX10_can_15 rfl rfl).trans ?_
  refine (ze_iload_n 17 zm166 dX10_can_16 rfl rfl).trans ?_
  exact ze_virtI (as := [.int v2]) (rest := [.int v1]) 20 zm166 dX10_can_17 r10_196 zm164 rfl rfl k173_10 rfl rfl rfl rfl
theorem b166_20 (sc : zScr) (v1 : Int32) (v2 : Int32) (s0 : Int32) (s1 : Int32) (i : Nat → Nat → Int32) (b : Bool) (l : Nat → Nat → Int64) : zev sc (166, 20, [some (.ref 173), some (.int v1), some (.int v2)], [.int s0, .int s1], (197, i, (zRF b), l)) = if s0 = 0 then zev sc (166, 29, [some (.ref 173), some (.int v1), some (.int v2)], [.int s1], (197, i, (zRF b), l)) else zev sc (166, 23, [some (.ref 173), some (.int v1), some (.int v2)], [.int s1], (197, i, (zRF b), l)) := by
  exact ze_if_eq 29 23 zm166 dX10_can_20 (by decide) rfl
theorem b166_23 (sc : zScr) (v1 : Int32) (v2 : Int32) (s0 : Int32) (i : Nat → Nat → Int32) (b : Bool) (l : Nat → Nat → Int64) : zev sc (166, 23, [some (.ref 173), some (.int v1), some (.int v2)], [.int s0], (197, i, (zRF b), l)) = zev sc (166, 30, [some (.ref 173), some (.int v1), some (.int v2)], [.int ((1 : Int32) <<< (v2 &&& 31)), .int s0], (197, i, (zRF b), l)) := by
  refine (ze_iconst 24 zm166 dX10_can_23 ci_1 rfl).trans ?_
  refine (ze_iload_n 25 zm166 dX10_can_24 rfl rfl).trans ?_
  refine (ze_ishl 26 zm166 dX10_can_25 rfl).trans ?_
  exact ze_goto 30 zm166 dX10_can_26 (by decide)
theorem b166_29 (sc : zScr) (v1 : Int32) (v2 : Int32) (s0 : Int32) (i : Nat → Nat → Int32) (b : Bool) (l : Nat → Nat → Int64) : zev sc (166, 29, [some (.ref 173), some (.int v1), some (.int v2)], [.int s0], (197, i, (zRF b), l)) = zev sc (166, 30, [some (.ref 173), some (.int v1), some (.int v2)], [.int (0 : Int32), .int s0], (197, i, (zRF b), l)) := by
  refine (ze_iconst 30 zm166 dX10_can_29 ci_0 rfl).trans ?_
  rfl
theorem b166_30 (sc : zScr) (v1 : Int32) (v2 : Int32) (s0 : Int32) (s1 : Int32) (i : Nat → Nat → Int32) (b : Bool) (l : Nat → Nat → Int64) : zev sc (166, 30, [some (.ref 173), some (.int v1), some (.int v2)], [.int s0, .int s1], (197, i, (zRF b), l)) = zev sc (166, 4, [some (.ref 173), some (.int (s1 ||| s0)), some (.int (v2 + 1))], [], (197, i, (zRF b), l)) := by
  refine (ze_ior 31 zm166 dX10_can_30 rfl).trans ?_
  refine (ze_istore_n (A := 99) (ls' := [some (.ref 173), some (.int (s1 ||| s0)), some (.int v2)]) 32 zm166 dX10_can_31 za166 rfl rfl rfl rfl rfl).trans ?_
  refine (ze_iinc (v := (1 : Int32)) (A := 99) (ls' := [some (.ref 173), some (.int (s1 ||| s0)), some (.int (v2 + 1))]) 35 zm166 dX10_can_32 rfl ci_1 za166 rfl rfl rfl rfl rfl).trans ?_
  exact ze_goto 4 zm166 dX10_can_35 (by decide)
theorem b166_38 (sc : zScr) (v1 : Int32) (v2 : Int32) (i : Nat → Nat → Int32) (b : Bool) (l : Nat → Nat → Int64) : zev sc (166, 38, [some (.ref 173), some (.int v1), some (.int v2)], [], (197, i, (zRF b), l)) = some (.int v1, (197, i, (zRF b), l)) := by
  refine (ze_iload_n 39 zm166 dX10_can_38 rfl rfl).trans ?_
  exact ze_ireturn zm166 dX10_can_39 rfl
/-! HarpFencesModel.comesTo (II)Z: method 167 -/
theorem b167_0 (sc : zScr) (v1 : Int32) (v2 : Int32) (i : Nat → Nat → Int32) (b : Bool) (l : Nat → Nat → Int64) : zev sc (167, 0, [some (.ref 173), some (.int v1), some (.int v2), none], [], (197, i, (zRF b), l)) = (zev sc (164, 0, [some (.ref 173), some (.int v1), none, none, none, none], [], (197, i, (zRF b), l))).bind (fun x => zev sc (167, 5, [some (.ref 173), some (.int v1), some (.int v2), none], [x.1], x.2)) := by
  refine (ze_aload_n 1 zm167 dX10_comesTo_0 rfl rfl).trans ?_
  refine (ze_iload_n 2 zm167 dX10_comesTo_1 rfl rfl).trans ?_
  exact ze_virtI (as := [.int v1]) (rest := []) 5 zm167 dX10_comesTo_2 r10_196 zm164 rfl rfl k173_10 rfl rfl rfl rfl
theorem b167_5 (sc : zScr) (v1 : Int32) (v2 : Int32) (s0 : Int32) (i : Nat → Nat → Int32) (b : Bool) (l : Nat → Nat → Int64) (h1 : vp_in v2 16) : zev sc (167, 5, [some (.ref 173), some (.int v1), some (.int v2), none], [.int s0], (197, i, (zRF b), l)) = (zev sc (120, 0, [some (.int s0), some (.int (i 177 v2.toNatClampNeg))], [], (197, i, (zRF b), l))).bind (fun x => zev sc (167, 16, [some (.ref 173), some (.int v1), some (.int v2), some (.int s0)], [x.1], x.2)) := by
  refine (ze_istore_n (A := 99) (ls' := [some (.ref 173), some (.int v1), some (.int v2), some (.int s0)]) 6 zm167 dX10_comesTo_5 za167 rfl rfl rfl rfl rfl).trans ?_
  refine (ze_iload_n 7 zm167 dX10_comesTo_6 rfl rfl).trans ?_
  refine (ze_aload_n 8 zm167 dX10_comesTo_7 rfl rfl).trans ?_
  refine (ze_getR 11 zm167 dX10_comesTo_8 f10_20 k173_10 t10_4 (rr173_4 b) rfl).trans ?_
  refine (ze_iload_n 12 zm167 dX10_comesTo_11 rfl rfl).trans ?_
  refine (ze_iaload (t := v2.toNatClampNeg) 13 zm167 dX10_comesTo_12 k177_100 n177 h1 rfl rfl).trans ?_
  exact ze_statI (as := [.int s0, .int (i 177 v2.toNatClampNeg)]) (rest := []) 16 zm167 dX10_comesTo_13 r10_137 zm120 rfl rfl rfl rfl rfl rfl
theorem b167_16 (sc : zScr) (v1 : Int32) (v2 : Int32) (v3 : Int32) (s0 : Int32) (i : Nat → Nat → Int32) (b : Bool) (l : Nat → Nat → Int64) : zev sc (167, 16, [some (.ref 173), some (.int v1), some (.int v2), some (.int v3)], [.int s0], (197, i, (zRF b), l)) = if s0 = 0 then zev sc (167, 19, [some (.ref 173), some (.int v1), some (.int v2), some (.int v3)], [], (197, i, (zRF b), l)) else zev sc (167, 32, [some (.ref 173), some (.int v1), some (.int v2), some (.int v3)], [], (197, i, (zRF b), l)) := by
  exact ze_if_ne 32 19 zm167 dX10_comesTo_16 (by decide) rfl
theorem b167_19 (sc : zScr) (v1 : Int32) (v2 : Int32) (v3 : Int32) (i : Nat → Nat → Int32) (b : Bool) (l : Nat → Nat → Int64) (h1 : vp_in v2 16) : zev sc (167, 19, [some (.ref 173), some (.int v1), some (.int v2), some (.int v3)], [], (197, i, (zRF b), l)) = (zev sc (120, 0, [some (.int v3), some (.int (i 178 v2.toNatClampNeg))], [], (197, i, (zRF b), l))).bind (fun x => zev sc (167, 29, [some (.ref 173), some (.int v1), some (.int v2), some (.int v3)], [x.1], x.2)) := by
  refine (ze_iload_n 20 zm167 dX10_comesTo_19 rfl rfl).trans ?_
  refine (ze_aload_n 21 zm167 dX10_comesTo_20 rfl rfl).trans ?_
  refine (ze_getR 24 zm167 dX10_comesTo_21 f10_23 k173_10 t10_5 (rr173_5 b) rfl).trans ?_
  refine (ze_iload_n 25 zm167 dX10_comesTo_24 rfl rfl).trans ?_
  refine (ze_iaload (t := v2.toNatClampNeg) 26 zm167 dX10_comesTo_25 k178_100 n178 h1 rfl rfl).trans ?_
  exact ze_statI (as := [.int v3, .int (i 178 v2.toNatClampNeg)]) (rest := []) 29 zm167 dX10_comesTo_26 r10_137 zm120 rfl rfl rfl rfl rfl rfl
theorem b167_29 (sc : zScr) (v1 : Int32) (v2 : Int32) (v3 : Int32) (s0 : Int32) (i : Nat → Nat → Int32) (b : Bool) (l : Nat → Nat → Int64) : zev sc (167, 29, [some (.ref 173), some (.int v1), some (.int v2), some (.int v3)], [.int s0], (197, i, (zRF b), l)) = if s0 = 0 then zev sc (167, 36, [some (.ref 173), some (.int v1), some (.int v2), some (.int v3)], [], (197, i, (zRF b), l)) else zev sc (167, 32, [some (.ref 173), some (.int v1), some (.int v2), some (.int v3)], [], (197, i, (zRF b), l)) := by
  exact ze_if_eq 36 32 zm167 dX10_comesTo_29 (by decide) rfl
theorem b167_32 (sc : zScr) (v1 : Int32) (v2 : Int32) (v3 : Int32) (i : Nat → Nat → Int32) (b : Bool) (l : Nat → Nat → Int64) : zev sc (167, 32, [some (.ref 173), some (.int v1), some (.int v2), some (.int v3)], [], (197, i, (zRF b), l)) = zev sc (167, 37, [some (.ref 173), some (.int v1), some (.int v2), some (.int v3)], [.int (1 : Int32)], (197, i, (zRF b), l)) := by
  refine (ze_iconst 33 zm167 dX10_comesTo_32 ci_1 rfl).trans ?_
  exact ze_goto 37 zm167 dX10_comesTo_33 (by decide)
theorem b167_36 (sc : zScr) (v1 : Int32) (v2 : Int32) (v3 : Int32) (i : Nat → Nat → Int32) (b : Bool) (l : Nat → Nat → Int64) : zev sc (167, 36, [some (.ref 173), some (.int v1), some (.int v2), some (.int v3)], [], (197, i, (zRF b), l)) = zev sc (167, 37, [some (.ref 173), some (.int v1), some (.int v2), some (.int v3)], [.int (0 : Int32)], (197, i, (zRF b), l)) := by
  refine (ze_iconst 37 zm167 dX10_comesTo_36 ci_0 rfl).trans ?_
  rfl
theorem b167_37 (sc : zScr) (v1 : Int32) (v2 : Int32) (v3 : Int32) (s0 : Int32) (i : Nat → Nat → Int32) (b : Bool) (l : Nat → Nat → Int64) (h1 : s0 = 0 ∨ s0 = 1) : zev sc (167, 37, [some (.ref 173), some (.int v1), some (.int v2), some (.int v3)], [.int s0], (197, i, (zRF b), l)) = some (.int s0, (197, i, (zRF b), l)) := by
  exact ze_zreturn zm167 dX10_comesTo_37 rfl h1
/-! HarpFencesModel.ask ()I: method 168 -/
theorem b168_0 (sc : zScr) (i : Nat → Nat → Int32) (b : Bool) (l : Nat → Nat → Int64) : zev sc (168, 0, [some (.ref 173), none, none, none, none, none, none, none], [], (197, i, (zRF b), l)) = zev sc (168, 7, [some (.ref 173), some (.int (-9 : Int32)), some (.int (0 : Int32)), some (.int (0 : Int32)), none, none, none, none], [], (197, i, (zRF b), l)) := by
  refine (ze_bipush 2 zm168 dX10_ask_0 cb_m9 rfl).trans ?_
  refine (ze_istore_n (A := 99) (ls' := [some (.ref 173), some (.int (-9 : Int32)), none, none, none, none, none, none]) 3 zm168 dX10_ask_2 za168 rfl rfl rfl rfl rfl).trans ?_
  refine (ze_iconst 4 zm168 dX10_ask_3 ci_0 rfl).trans ?_
  refine (ze_istore_n (A := 99) (ls' := [some (.ref 173), some (.int (-9 : Int32)), some (.int (0 : Int32)), none, none, none, none, none]) 5 zm168 dX10_ask_4 za168 rfl rfl rfl rfl rfl).trans ?_
  refine (ze_iconst 6 zm168 dX10_ask_5 ci_0 rfl).trans ?_
  refine (ze_istore_n (A := 99) (ls' := [some (.ref 173), some (.int (-9 : Int32)), some (.int (0 : Int32)), some (.int (0 : Int32)), none, none, none, none]) 7 zm168 dX10_ask_6 za168 rfl rfl rfl rfl rfl).trans ?_
  rfl
theorem b168_7 (sc : zScr) (v1 : Int32) (v2 : Int32) (v3 : Int32) (w4 : Option Value) (w5 : Option Value) (w6 : Option Value) (w7 : Option Value) (i : Nat → Nat → Int32) (b : Bool) (l : Nat → Nat → Int64) : zev sc (168, 7, [some (.ref 173), some (.int v1), some (.int v2), some (.int v3), w4, w5, w6, w7], [], (197, i, (zRF b), l)) = if (i 176 0) ≤ v3 then zev sc (168, 154, [some (.ref 173), some (.int v1), some (.int v2), some (.int v3), w4, w5, w6, w7], [], (197, i, (zRF b), l)) else zev sc (168, 17, [some (.ref 173), some (.int v1), some (.int v2), some (.int v3), w4, w5, w6, w7], [], (197, i, (zRF b), l)) := by
  refine (ze_iload_n 8 zm168 dX10_ask_7 rfl rfl).trans ?_
  refine (ze_aload_n 9 zm168 dX10_ask_8 rfl rfl).trans ?_
  refine (ze_getR 12 zm168 dX10_ask_9 f10_17 k173_10 t10_3 (rr173_3 b) rfl).trans ?_
  refine (ze_iconst 13 zm168 dX10_ask_12 ci_0 rfl).trans ?_
  refine (ze_iaload (t := 0) 14 zm168 dX10_ask_13 k176_100 n176 vi_0_2 tn_0 rfl).trans ?_
  exact ze_icmp_ge 154 17 zm168 dX10_ask_14 (by decide) rfl
theorem b168_17 (sc : zScr) (v1 : Int32) (v2 : Int32) (v3 : Int32) (w4 : Option Value) (w5 : Option Value) (w6 : Option Value) (w7 : Option Value) (i : Nat → Nat → Int32) (b : Bool) (l : Nat → Nat → Int64) : zev sc (168, 17, [some (.ref 173), some (.int v1), some (.int v2), some (.int v3), w4, w5, w6, w7], [], (197, i, (zRF b), l)) = zev sc (168, 23, [some (.ref 173), some (.int v1), some (.int v2), some (.int v3), some (.int (0 : Int32)), some (.int (0 : Int32)), w6, w7], [], (197, i, (zRF b), l)) := by
  refine (ze_iconst 18 zm168 dX10_ask_17 ci_0 rfl).trans ?_
  refine (ze_istore (A := 99) (ls' := [some (.ref 173), some (.int v1), some (.int v2), some (.int v3), some (.int (0 : Int32)), w5, w6, w7]) 20 zm168 dX10_ask_18 za168 rfl rfl rfl rfl rfl).trans ?_
  refine (ze_iconst 21 zm168 dX10_ask_20 ci_0 rfl).trans ?_
  refine (ze_istore (A := 99) (ls' := [some (.ref 173), some (.int v1), some (.int v2), some (.int v3), some (.int (0 : Int32)), some (.int (0 : Int32)), w6, w7]) 23 zm168 dX10_ask_21 za168 rfl rfl rfl rfl rfl).trans ?_
  rfl
theorem b168_23 (sc : zScr) (v1 : Int32) (v2 : Int32) (v3 : Int32) (v4 : Int32) (v5 : Int32) (w6 : Option Value) (w7 : Option Value) (i : Nat → Nat → Int32) (b : Bool) (l : Nat → Nat → Int64) : zev sc (168, 23, [some (.ref 173), some (.int v1), some (.int v2), some (.int v3), some (.int v4), some (.int v5), w6, w7], [], (197, i, (zRF b), l)) = if (i 180 0) ≤ v5 then zev sc (168, 126, [some (.ref 173), some (.int v1), some (.int v2), some (.int v3), some (.int v4), some (.int v5), w6, w7], [], (197, i, (zRF b), l)) else zev sc (168, 34, [some (.ref 173), some (.int v1), some (.int v2), some (.int v3), some (.int v4), some (.int v5), w6, w7], [], (197, i, (zRF b), l)) := by
  refine (ze_iload 25 zm168 dX10_ask_23 rfl rfl).trans ?_
  refine (ze_aload_n 26 zm168 dX10_ask_25 rfl rfl).trans ?_
  refine (ze_getR 29 zm168 dX10_ask_26 f10_29 k173_10 t10_7 (rr173_7 b) rfl).trans ?_
  refine (ze_iconst 30 zm168 dX10_ask_29 ci_0 rfl).trans ?_
  refine (ze_iaload (t := 0) 31 zm168 dX10_ask_30 k180_100 n180 vi_0_2 tn_0 rfl).trans ?_
  exact ze_icmp_ge 126 34 zm168 dX10_ask_31 (by decide) rfl
theorem b168_34 (sc : zScr) (v1 : Int32) (v2 : Int32) (v3 : Int32) (v4 : Int32) (v5 : Int32) (w6 : Option Value) (w7 : Option Value) (i : Nat → Nat → Int32) (b : Bool) (l : Nat → Nat → Int64) : zev sc (168, 34, [some (.ref 173), some (.int v1), some (.int v2), some (.int v3), some (.int v4), some (.int v5), w6, w7], [], (197, i, (zRF b), l)) = zev sc (168, 40, [some (.ref 173), some (.int v1), some (.int v2), some (.int v3), some (.int v4), some (.int v5), some (.int (0 : Int32)), some (.int (0 : Int32))], [], (197, i, (zRF b), l)) := by
  refine (ze_iconst 35 zm168 dX10_ask_34 ci_0 rfl).trans ?_
  refine (ze_istore (A := 99) (ls' := [some (.ref 173), some (.int v1), some (.int v2), some (.int v3), some (.int v4), some (.int v5), some (.int (0 : Int32)), w7]) 37 zm168 dX10_ask_35 za168 rfl rfl rfl rfl rfl).trans ?_
  refine (ze_iconst 38 zm168 dX10_ask_37 ci_0 rfl).trans ?_
  refine (ze_istore (A := 99) (ls' := [some (.ref 173), some (.int v1), some (.int v2), some (.int v3), some (.int v4), some (.int v5), some (.int (0 : Int32)), some (.int (0 : Int32))]) 40 zm168 dX10_ask_38 za168 rfl rfl rfl rfl rfl).trans ?_
  rfl
theorem b168_40 (sc : zScr) (v1 : Int32) (v2 : Int32) (v3 : Int32) (v4 : Int32) (v5 : Int32) (v6 : Int32) (v7 : Int32) (i : Nat → Nat → Int32) (b : Bool) (l : Nat → Nat → Int64) : zev sc (168, 40, [some (.ref 173), some (.int v1), some (.int v2), some (.int v3), some (.int v4), some (.int v5), some (.int v6), some (.int v7)], [], (197, i, (zRF b), l)) = if (i 180 0) ≤ v7 then zev sc (168, 104, [some (.ref 173), some (.int v1), some (.int v2), some (.int v3), some (.int v4), some (.int v5), some (.int v6), some (.int v7)], [], (197, i, (zRF b), l)) else zev sc (168, 51, [some (.ref 173), some (.int v1), some (.int v2), some (.int v3), some (.int v4), some (.int v5), some (.int v6), some (.int v7)], [], (197, i, (zRF b), l)) := by
  refine (ze_iload 42 zm168 dX10_ask_40 rfl rfl).trans ?_
  refine (ze_aload_n 43 zm168 dX10_ask_42 rfl rfl).trans ?_
  refine (ze_getR 46 zm168 dX10_ask_43 f10_29 k173_10 t10_7 (rr173_7 b) rfl).trans ?_
  refine (ze_iconst 47 zm168 dX10_ask_46 ci_0 rfl).trans ?_
  refine (ze_iaload (t := 0) 48 zm168 dX10_ask_47 k180_100 n180 vi_0_2 tn_0 rfl).trans ?_
  exact ze_icmp_ge 104 51 zm168 dX10_ask_48 (by decide) rfl
theorem b168_51 (sc : zScr) (v1 : Int32) (v2 : Int32) (v3 : Int32) (v4 : Int32) (v5 : Int32) (v6 : Int32) (v7 : Int32) (i : Nat → Nat → Int32) (b : Bool) (l : Nat → Nat → Int64) : zev sc (168, 51, [some (.ref 173), some (.int v1), some (.int v2), some (.int v3), some (.int v4), some (.int v5), some (.int v6), some (.int v7)], [], (197, i, (zRF b), l)) = (zev sc (167, 0, [some (.ref 173), some (.int v5), some (.int v3), none], [], (197, i, (zRF b), l))).bind (fun x => zev sc (168, 58, [some (.ref 173), some (.int v1), some (.int v2), some (.int v3), some (.int v4), some (.int v5), some (.int v6), some (.int v7)], [x.1], x.2)) := by
  refine (ze_aload_n 52 zm168 dX10_ask_51 rfl rfl).trans ?_
  refine (ze_iload 54 zm168 dX10_ask_52 rfl rfl).trans ?_
  refine (ze_iload_n 55 zm168 dX10_ask_54 rfl rfl).trans ?_
  exact ze_virtI (as := [.int v5, .int v3]) (rest := []) 58 zm168 dX10_ask_55 r10_199 zm167 rfl rfl k173_10 rfl rfl rfl rfl
theorem b168_58 (sc : zScr) (v1 : Int32) (v2 : Int32) (v3 : Int32) (v4 : Int32) (v5 : Int32) (v6 : Int32) (v7 : Int32) (s0 : Int32) (i : Nat → Nat → Int32) (b : Bool) (l : Nat → Nat → Int64) : zev sc (168, 58, [some (.ref 173), some (.int v1), some (.int v2), some (.int v3), some (.int v4), some (.int v5), some (.int v6), some (.int v7)], [.int s0], (197, i, (zRF b), l)) = if s0 = 0 then zev sc (168, 104, [some (.ref 173), some (.int v1), some (.int v2), some (.int v3), some (.int v4), some (.int v5), some (.int v6), some (.int v7)], [], (197, i, (zRF b), l)) else zev sc (168, 61, [some (.ref 173), some (.int v1), some (.int v2), some (.int v3), some (.int v4), some (.int v5), some (.int v6), some (.int v7)], [], (197, i, (zRF b), l)) := by
  exact ze_if_eq 104 61 zm168 dX10_ask_58 (by decide) rfl
theorem b168_61 (sc : zScr) (v1 : Int32) (v2 : Int32) (v3 : Int32) (v4 : Int32) (v5 : Int32) (v6 : Int32) (v7 : Int32) (i : Nat → Nat → Int32) (b : Bool) (l : Nat → Nat → Int64) : zev sc (168, 61, [some (.ref 173), some (.int v1), some (.int v2), some (.int v3), some (.int v4), some (.int v5), some (.int v6), some (.int v7)], [], (197, i, (zRF b), l)) = (zev sc (167, 0, [some (.ref 173), some (.int v7), some (.int v3), none], [], (197, i, (zRF b), l))).bind (fun x => zev sc (168, 70, [some (.ref 173), some (.int v1), some (.int v2), some (.int v3), some (.int v4), some (.int v5), some (.int v6), some (.int v7)], [x.1, .int v6], x.2)) := by
  refine (ze_iload 63 zm168 dX10_ask_61 rfl rfl).trans ?_
  refine (ze_aload_n 64 zm168 dX10_ask_63 rfl rfl).trans ?_
  refine (ze_iload 66 zm168 dX10_ask_64 rfl rfl).trans ?_
  refine (ze_iload_n 67 zm168 dX10_ask_66 rfl rfl).trans ?_
  exact ze_virtI (as := [.int v7, .int v3]) (rest := [.int v6]) 70 zm168 dX10_ask_67 r10_199 zm167 rfl rfl k173_10 rfl rfl rfl rfl
theorem b168_70 (sc : zScr) (v1 : Int32) (v2 : Int32) (v3 : Int32) (v4 : Int32) (v5 : Int32) (v6 : Int32) (v7 : Int32) (s0 : Int32) (s1 : Int32) (i : Nat → Nat → Int32) (b : Bool) (l : Nat → Nat → Int64) : zev sc (168, 70, [some (.ref 173), some (.int v1), some (.int v2), some (.int v3), some (.int v4), some (.int v5), some (.int v6), some (.int v7)], [.int s0, .int s1], (197, i, (zRF b), l)) = if s0 = 0 then zev sc (168, 94, [some (.ref 173), some (.int v1), some (.int v2), some (.int v3), some (.int v4), some (.int v5), some (.int v6), some (.int v7)], [.int s1], (197, i, (zRF b), l)) else zev sc (168, 73, [some (.ref 173), some (.int v1), some (.int v2), some (.int v3), some (.int v4), some (.int v5), some (.int v6), some (.int v7)], [.int s1], (197, i, (zRF b), l)) := by
  exact ze_if_eq 94 73 zm168 dX10_ask_70 (by decide) rfl
theorem b168_73 (sc : zScr) (v1 : Int32) (v2 : Int32) (v3 : Int32) (v4 : Int32) (v5 : Int32) (v6 : Int32) (v7 : Int32) (s0 : Int32) (i : Nat → Nat → Int32) (b : Bool) (l : Nat → Nat → Int64) : zev sc (168, 73, [some (.ref 173), some (.int v1), some (.int v2), some (.int v3), some (.int v4), some (.int v5), some (.int v6), some (.int v7)], [.int s0], (197, i, (zRF b), l)) = (zev sc (135, 0, [some (.ref 173), some (.int v7), some (.int v3), none], [], (197, i, (zRF b), l))).bind (fun x => zev sc (168, 80, [some (.ref 173), some (.int v1), some (.int v2), some (.int v3), some (.int v4), some (.int v5), some (.int v6), some (.int v7)], [x.1, .int s0], x.2)) := by
  refine (ze_aload_n 74 zm168 dX10_ask_73 rfl rfl).trans ?_
  refine (ze_iload 76 zm168 dX10_ask_74 rfl rfl).trans ?_
  refine (ze_iload_n 77 zm168 dX10_ask_76 rfl rfl).trans ?_
  exact ze_virtI (as := [.int v7, .int v3]) (rest := [.int s0]) 80 zm168 dX10_ask_77 r10_152 zm135 rfl rfl k173_10 rfl rfl rfl rfl
theorem b168_80 (sc : zScr) (v1 : Int32) (v2 : Int32) (v3 : Int32) (v4 : Int32) (v5 : Int32) (v6 : Int32) (v7 : Int32) (s0 : Int32) (s1 : Int32) (i : Nat → Nat → Int32) (b : Bool) (l : Nat → Nat → Int64) : zev sc (168, 80, [some (.ref 173), some (.int v1), some (.int v2), some (.int v3), some (.int v4), some (.int v5), some (.int v6), some (.int v7)], [.int s0, .int s1], (197, i, (zRF b), l)) = (zev sc (135, 0, [some (.ref 173), some (.int v5), some (.int v3), none], [], (197, i, (zRF b), l))).bind (fun x => zev sc (168, 87, [some (.ref 173), some (.int v1), some (.int v2), some (.int v3), some (.int v4), some (.int v5), some (.int v6), some (.int v7)], [x.1, .int s0, .int s1], x.2)) := by
  refine (ze_aload_n 81 zm168 dX10_ask_80 rfl rfl).trans ?_
  refine (ze_iload 83 zm168 dX10_ask_81 rfl rfl).trans ?_
  refine (ze_iload_n 84 zm168 dX10_ask_83 rfl rfl).trans ?_
  exact ze_virtI (as := [.int v5, .int v3]) (rest := [.int s0, .int s1]) 87 zm168 dX10_ask_84 r10_152 zm135 rfl rfl k173_10 rfl rfl rfl rfl
theorem b168_87 (sc : zScr) (v1 : Int32) (v2 : Int32) (v3 : Int32) (v4 : Int32) (v5 : Int32) (v6 : Int32) (v7 : Int32) (s0 : Int32) (s1 : Int32) (s2 : Int32) (i : Nat → Nat → Int32) (b : Bool) (l : Nat → Nat → Int64) : zev sc (168, 87, [some (.ref 173), some (.int v1), some (.int v2), some (.int v3), some (.int v4), some (.int v5), some (.int v6), some (.int v7)], [.int s0, .int s1, .int s2], (197, i, (zRF b), l)) = if s1 = s0 then zev sc (168, 90, [some (.ref 173), some (.int v1), some (.int v2), some (.int v3), some (.int v4), some (.int v5), some (.int v6), some (.int v7)], [.int s2], (197, i, (zRF b), l)) else zev sc (168, 94, [some (.ref 173), some (.int v1), some (.int v2), some (.int v3), some (.int v4), some (.int v5), some (.int v6), some (.int v7)], [.int s2], (197, i, (zRF b), l)) := by
  exact ze_icmp_ne 94 90 zm168 dX10_ask_87 (by decide) rfl
theorem b168_90 (sc : zScr) (v1 : Int32) (v2 : Int32) (v3 : Int32) (v4 : Int32) (v5 : Int32) (v6 : Int32) (v7 : Int32) (s0 : Int32) (i : Nat → Nat → Int32) (b : Bool) (l : Nat → Nat → Int64) : zev sc (168, 90, [some (.ref 173), some (.int v1), some (.int v2), some (.int v3), some (.int v4), some (.int v5), some (.int v6), some (.int v7)], [.int s0], (197, i, (zRF b), l)) = zev sc (168, 95, [some (.ref 173), some (.int v1), some (.int v2), some (.int v3), some (.int v4), some (.int v5), some (.int v6), some (.int v7)], [.int (1 : Int32), .int s0], (197, i, (zRF b), l)) := by
  refine (ze_iconst 91 zm168 dX10_ask_90 ci_1 rfl).trans ?_
  exact ze_goto 95 zm168 dX10_ask_91 (by decide)
theorem b168_94 (sc : zScr) (v1 : Int32) (v2 : Int32) (v3 : Int32) (v4 : Int32) (v5 : Int32) (v6 : Int32) (v7 : Int32) (s0 : Int32) (i : Nat → Nat → Int32) (b : Bool) (l : Nat → Nat → Int64) : zev sc (168, 94, [some (.ref 173), some (.int v1), some (.int v2), some (.int v3), some (.int v4), some (.int v5), some (.int v6), some (.int v7)], [.int s0], (197, i, (zRF b), l)) = zev sc (168, 95, [some (.ref 173), some (.int v1), some (.int v2), some (.int v3), some (.int v4), some (.int v5), some (.int v6), some (.int v7)], [.int (0 : Int32), .int s0], (197, i, (zRF b), l)) := by
  refine (ze_iconst 95 zm168 dX10_ask_94 ci_0 rfl).trans ?_
  rfl
theorem b168_95 (sc : zScr) (v1 : Int32) (v2 : Int32) (v3 : Int32) (v4 : Int32) (v5 : Int32) (v6 : Int32) (v7 : Int32) (s0 : Int32) (s1 : Int32) (i : Nat → Nat → Int32) (b : Bool) (l : Nat → Nat → Int64) : zev sc (168, 95, [some (.ref 173), some (.int v1), some (.int v2), some (.int v3), some (.int v4), some (.int v5), some (.int v6), some (.int v7)], [.int s0, .int s1], (197, i, (zRF b), l)) = zev sc (168, 40, [some (.ref 173), some (.int v1), some (.int v2), some (.int v3), some (.int v4), some (.int v5), some (.int (s1 + s0)), some (.int (v7 + 1))], [], (197, i, (zRF b), l)) := by
  refine (ze_iadd 96 zm168 dX10_ask_95 rfl).trans ?_
  refine (ze_istore (A := 99) (ls' := [some (.ref 173), some (.int v1), some (.int v2), some (.int v3), some (.int v4), some (.int v5), some (.int (s1 + s0)), some (.int v7)]) 98 zm168 dX10_ask_96 za168 rfl rfl rfl rfl rfl).trans ?_
  refine (ze_iinc (v := (1 : Int32)) (A := 99) (ls' := [some (.ref 173), some (.int v1), some (.int v2), some (.int v3), some (.int v4), some (.int v5), some (.int (s1 + s0)), some (.int (v7 + 1))]) 101 zm168 dX10_ask_98 rfl ci_1 za168 rfl rfl rfl rfl rfl).trans ?_
  exact ze_goto 40 zm168 dX10_ask_101 (by decide)
theorem b168_104 (sc : zScr) (v1 : Int32) (v2 : Int32) (v3 : Int32) (v4 : Int32) (v5 : Int32) (v6 : Int32) (v7 : Int32) (i : Nat → Nat → Int32) (b : Bool) (l : Nat → Nat → Int64) : zev sc (168, 104, [some (.ref 173), some (.int v1), some (.int v2), some (.int v3), some (.int v4), some (.int v5), some (.int v6), some (.int v7)], [], (197, i, (zRF b), l)) = if v6 ≤ v4 then zev sc (168, 116, [some (.ref 173), some (.int v1), some (.int v2), some (.int v3), some (.int v4), some (.int v5), some (.int v6), some (.int v7)], [], (197, i, (zRF b), l)) else zev sc (168, 111, [some (.ref 173), some (.int v1), some (.int v2), some (.int v3), some (.int v4), some (.int v5), some (.int v6), some (.int v7)], [], (197, i, (zRF b), l)) := by
  refine (ze_iload 106 zm168 dX10_ask_104 rfl rfl).trans ?_
  refine (ze_iload 108 zm168 dX10_ask_106 rfl rfl).trans ?_
  exact ze_icmp_le 116 111 zm168 dX10_ask_108 (by decide) rfl
theorem b168_111 (sc : zScr) (v1 : Int32) (v2 : Int32) (v3 : Int32) (v4 : Int32) (v5 : Int32) (v6 : Int32) (v7 : Int32) (i : Nat → Nat → Int32) (b : Bool) (l : Nat → Nat → Int64) : zev sc (168, 111, [some (.ref 173), some (.int v1), some (.int v2), some (.int v3), some (.int v4), some (.int v5), some (.int v6), some (.int v7)], [], (197, i, (zRF b), l)) = zev sc (168, 118, [some (.ref 173), some (.int v1), some (.int v2), some (.int v3), some (.int v4), some (.int v5), some (.int v6), some (.int v7)], [.int v6], (197, i, (zRF b), l)) := by
  refine (ze_iload 113 zm168 dX10_ask_111 rfl rfl).trans ?_
  exact ze_goto 118 zm168 dX10_ask_113 (by decide)
theorem b168_116 (sc : zScr) (v1 : Int32) (v2 : Int32) (v3 : Int32) (v4 : Int32) (v5 : Int32) (v6 : Int32) (v7 : Int32) (i : Nat → Nat → Int32) (b : Bool) (l : Nat → Nat → Int64) : zev sc (168, 116, [some (.ref 173), some (.int v1), some (.int v2), some (.int v3), some (.int v4), some (.int v5), some (.int v6), some (.int v7)], [], (197, i, (zRF b), l)) = zev sc (168, 118, [some (.ref 173), some (.int v1), some (.int v2), some (.int v3), some (.int v4), some (.int v5), some (.int v6), some (.int v7)], [.int v4], (197, i, (zRF b), l)) := by
  refine (ze_iload 118 zm168 dX10_ask_116 rfl rfl).trans ?_
  rfl
theorem b168_118 (sc : zScr) (v1 : Int32) (v2 : Int32) (v3 : Int32) (v4 : Int32) (v5 : Int32) (v6 : Int32) (v7 : Int32) (s0 : Int32) (i : Nat → Nat → Int32) (b : Bool) (l : Nat → Nat → Int64) : zev sc (168, 118, [some (.ref 173), some (.int v1), some (.int v2), some (.int v3), some (.int v4), some (.int v5), some (.int v6), some (.int v7)], [.int s0], (197, i, (zRF b), l)) = zev sc (168, 23, [some (.ref 173), some (.int v1), some (.int v2), some (.int v3), some (.int s0), some (.int (v5 + 1)), some (.int v6), some (.int v7)], [], (197, i, (zRF b), l)) := by
  refine (ze_istore (A := 99) (ls' := [some (.ref 173), some (.int v1), some (.int v2), some (.int v3), some (.int s0), some (.int v5), some (.int v6), some (.int v7)]) 120 zm168 dX10_ask_118 za168 rfl rfl rfl rfl rfl).trans ?_
  refine (ze_iinc (v := (1 : Int32)) (A := 99) (ls' := [some (.ref 173), some (.int v1), some (.int v2), some (.int v3), some (.int s0), some (.int (v5 + 1)), some (.int v6), some (.int v7)]) 123 zm168 dX10_ask_120 rfl ci_1 za168 rfl rfl rfl rfl rfl).trans ?_
  exact ze_goto 23 zm168 dX10_ask_123 (by decide)
theorem b168_126 (sc : zScr) (v1 : Int32) (v2 : Int32) (v3 : Int32) (v4 : Int32) (v5 : Int32) (w6 : Option Value) (w7 : Option Value) (i : Nat → Nat → Int32) (b : Bool) (l : Nat → Nat → Int64) : zev sc (168, 126, [some (.ref 173), some (.int v1), some (.int v2), some (.int v3), some (.int v4), some (.int v5), w6, w7], [], (197, i, (zRF b), l)) = if v4 ≤ 0 then zev sc (168, 148, [some (.ref 173), some (.int v1), some (.int v2), some (.int v3), some (.int v4), some (.int v5), w6, w7], [], (197, i, (zRF b), l)) else zev sc (168, 131, [some (.ref 173), some (.int v1), some (.int v2), some (.int v3), some (.int v4), some (.int v5), w6, w7], [], (197, i, (zRF b), l)) := by
  refine (ze_iload 128 zm168 dX10_ask_126 rfl rfl).trans ?_
  exact ze_if_le 148 131 zm168 dX10_ask_128 (by decide) rfl
theorem b168_131 (sc : zScr) (v1 : Int32) (v2 : Int32) (v3 : Int32) (v4 : Int32) (v5 : Int32) (w6 : Option Value) (w7 : Option Value) (i : Nat → Nat → Int32) (b : Bool) (l : Nat → Nat → Int64) : zev sc (168, 131, [some (.ref 173), some (.int v1), some (.int v2), some (.int v3), some (.int v4), some (.int v5), w6, w7], [], (197, i, (zRF b), l)) = if v1 = (-9 : Int32) then zev sc (168, 143, [some (.ref 173), some (.int v1), some (.int v2), some (.int v3), some (.int v4), some (.int v5), w6, w7], [], (197, i, (zRF b), l)) else zev sc (168, 137, [some (.ref 173), some (.int v1), some (.int v2), some (.int v3), some (.int v4), some (.int v5), w6, w7], [], (197, i, (zRF b), l)) := by
  refine (ze_iload_n 132 zm168 dX10_ask_131 rfl rfl).trans ?_
  refine (ze_bipush 134 zm168 dX10_ask_132 cb_m9 rfl).trans ?_
  exact ze_icmp_eq 143 137 zm168 dX10_ask_134 (by decide) rfl
theorem b168_137 (sc : zScr) (v1 : Int32) (v2 : Int32) (v3 : Int32) (v4 : Int32) (v5 : Int32) (w6 : Option Value) (w7 : Option Value) (i : Nat → Nat → Int32) (b : Bool) (l : Nat → Nat → Int64) : zev sc (168, 137, [some (.ref 173), some (.int v1), some (.int v2), some (.int v3), some (.int v4), some (.int v5), w6, w7], [], (197, i, (zRF b), l)) = if v2 ≤ v4 then zev sc (168, 148, [some (.ref 173), some (.int v1), some (.int v2), some (.int v3), some (.int v4), some (.int v5), w6, w7], [], (197, i, (zRF b), l)) else zev sc (168, 143, [some (.ref 173), some (.int v1), some (.int v2), some (.int v3), some (.int v4), some (.int v5), w6, w7], [], (197, i, (zRF b), l)) := by
  refine (ze_iload 139 zm168 dX10_ask_137 rfl rfl).trans ?_
  refine (ze_iload_n 140 zm168 dX10_ask_139 rfl rfl).trans ?_
  exact ze_icmp_ge 148 143 zm168 dX10_ask_140 (by decide) rfl
theorem b168_143 (sc : zScr) (v1 : Int32) (v2 : Int32) (v3 : Int32) (v4 : Int32) (v5 : Int32) (w6 : Option Value) (w7 : Option Value) (i : Nat → Nat → Int32) (b : Bool) (l : Nat → Nat → Int64) : zev sc (168, 143, [some (.ref 173), some (.int v1), some (.int v2), some (.int v3), some (.int v4), some (.int v5), w6, w7], [], (197, i, (zRF b), l)) = zev sc (168, 148, [some (.ref 173), some (.int v3), some (.int v4), some (.int v3), some (.int v4), some (.int v5), w6, w7], [], (197, i, (zRF b), l)) := by
  refine (ze_iload_n 144 zm168 dX10_ask_143 rfl rfl).trans ?_
  refine (ze_istore_n (A := 99) (ls' := [some (.ref 173), some (.int v3), some (.int v2), some (.int v3), some (.int v4), some (.int v5), w6, w7]) 145 zm168 dX10_ask_144 za168 rfl rfl rfl rfl rfl).trans ?_
  refine (ze_iload 147 zm168 dX10_ask_145 rfl rfl).trans ?_
  refine (ze_istore_n (A := 99) (ls' := [some (.ref 173), some (.int v3), some (.int v4), some (.int v3), some (.int v4), some (.int v5), w6, w7]) 148 zm168 dX10_ask_147 za168 rfl rfl rfl rfl rfl).trans ?_
  rfl
theorem b168_148 (sc : zScr) (v1 : Int32) (v2 : Int32) (v3 : Int32) (v4 : Int32) (v5 : Int32) (w6 : Option Value) (w7 : Option Value) (i : Nat → Nat → Int32) (b : Bool) (l : Nat → Nat → Int64) : zev sc (168, 148, [some (.ref 173), some (.int v1), some (.int v2), some (.int v3), some (.int v4), some (.int v5), w6, w7], [], (197, i, (zRF b), l)) = zev sc (168, 7, [some (.ref 173), some (.int v1), some (.int v2), some (.int (v3 + 1)), some (.int v4), some (.int v5), w6, w7], [], (197, i, (zRF b), l)) := by
  refine (ze_iinc (v := (1 : Int32)) (A := 99) (ls' := [some (.ref 173), some (.int v1), some (.int v2), some (.int (v3 + 1)), some (.int v4), some (.int v5), w6, w7]) 151 zm168 dX10_ask_148 rfl ci_1 za168 rfl rfl rfl rfl rfl).trans ?_
  exact ze_goto 7 zm168 dX10_ask_151 (by decide)
theorem b168_154 (sc : zScr) (v1 : Int32) (v2 : Int32) (v3 : Int32) (w4 : Option Value) (w5 : Option Value) (w6 : Option Value) (w7 : Option Value) (i : Nat → Nat → Int32) (b : Bool) (l : Nat → Nat → Int64) : zev sc (168, 154, [some (.ref 173), some (.int v1), some (.int v2), some (.int v3), w4, w5, w6, w7], [], (197, i, (zRF b), l)) = some (.int v1, (197, i, (zRF b), l)) := by
  refine (ze_iload_n 155 zm168 dX10_ask_154 rfl rfl).trans ?_
  exact ze_ireturn zm168 dX10_ask_155 rfl
/-! HarpFencesModel.costOf (II)I: method 169 -/
theorem b169_0 (sc : zScr) (v1 : Int32) (v2 : Int32) (i : Nat → Nat → Int32) (b : Bool) (l : Nat → Nat → Int64) : zev sc (169, 0, [some (.ref 173), some (.int v1), some (.int v2)], [], (197, i, (zRF b), l)) = (zev sc (135, 0, [some (.ref 173), some (.int v1), some (.int v2), none], [], (197, i, (zRF b), l))).bind (fun x => zev sc (169, 6, [some (.ref 173), some (.int v1), some (.int v2)], [x.1], x.2)) := by
  refine (ze_aload_n 1 zm169 dX10_costOf_0 rfl rfl).trans ?_
  refine (ze_iload_n 2 zm169 dX10_costOf_1 rfl rfl).trans ?_
  refine (ze_iload_n 3 zm169 dX10_costOf_2 rfl rfl).trans ?_
  exact ze_virtI (as := [.int v1, .int v2]) (rest := []) 6 zm169 dX10_costOf_3 r10_152 zm135 rfl rfl k173_10 rfl rfl rfl rfl
theorem b169_6 (sc : zScr) (v1 : Int32) (v2 : Int32) (s0 : Int32) (i : Nat → Nat → Int32) (b : Bool) (l : Nat → Nat → Int64) : zev sc (169, 6, [some (.ref 173), some (.int v1), some (.int v2)], [.int s0], (197, i, (zRF b), l)) = if s0 ≤ 0 then zev sc (169, 14, [some (.ref 173), some (.int v1), some (.int v2)], [], (197, i, (zRF b), l)) else zev sc (169, 9, [some (.ref 173), some (.int v1), some (.int v2)], [], (197, i, (zRF b), l)) := by
  exact ze_if_le 14 9 zm169 dX10_costOf_6 (by decide) rfl
theorem b169_9 (sc : zScr) (v1 : Int32) (v2 : Int32) (i : Nat → Nat → Int32) (b : Bool) (l : Nat → Nat → Int64) : zev sc (169, 9, [some (.ref 173), some (.int v1), some (.int v2)], [], (197, i, (zRF b), l)) = zev sc (169, 15, [some (.ref 173), some (.int v1), some (.int v2)], [.int (101 : Int32)], (197, i, (zRF b), l)) := by
  refine (ze_bipush 11 zm169 dX10_costOf_9 cb_101 rfl).trans ?_
  exact ze_goto 15 zm169 dX10_costOf_11 (by decide)
theorem b169_14 (sc : zScr) (v1 : Int32) (v2 : Int32) (i : Nat → Nat → Int32) (b : Bool) (l : Nat → Nat → Int64) : zev sc (169, 14, [some (.ref 173), some (.int v1), some (.int v2)], [], (197, i, (zRF b), l)) = zev sc (169, 15, [some (.ref 173), some (.int v1), some (.int v2)], [.int (1 : Int32)], (197, i, (zRF b), l)) := by
  refine (ze_iconst 15 zm169 dX10_costOf_14 ci_1 rfl).trans ?_
  rfl
theorem b169_15 (sc : zScr) (v1 : Int32) (v2 : Int32) (s0 : Int32) (i : Nat → Nat → Int32) (b : Bool) (l : Nat → Nat → Int64) : zev sc (169, 15, [some (.ref 173), some (.int v1), some (.int v2)], [.int s0], (197, i, (zRF b), l)) = some (.int s0, (197, i, (zRF b), l)) := by
  exact ze_ireturn zm169 dX10_costOf_15 rfl
/-! HarpFencesModel.measure (II)V: method 170 -/
theorem b170_0 (sc : zScr) (v1 : Int32) (v2 : Int32) (i : Nat → Nat → Int32) (b : Bool) (l : Nat → Nat → Int64) : zev sc (170, 0, [some (.ref 173), some (.int v1), some (.int v2), none, none, none, none], [], (197, i, (zRF b), l)) = zev sc (170, 2, [some (.ref 173), some (.int v1), some (.int v2), some (.int (0 : Int32)), none, none, none], [], (197, i, (zRF b), l)) := by
  refine (ze_iconst 1 zm170 dX10_measure_0 ci_0 rfl).trans ?_
  refine (ze_istore_n (A := 99) (ls' := [some (.ref 173), some (.int v1), some (.int v2), some (.int (0 : Int32)), none, none, none]) 2 zm170 dX10_measure_1 za170 rfl rfl rfl rfl rfl).trans ?_
  rfl
theorem b170_2 (sc : zScr) (v1 : Int32) (v2 : Int32) (v3 : Int32) (i : Nat → Nat → Int32) (b : Bool) (l : Nat → Nat → Int64) : zev sc (170, 2, [some (.ref 173), some (.int v1), some (.int v2), some (.int v3), none, none, none], [], (197, i, (zRF b), l)) = if (8 : Int32) ≤ v3 then zev sc (170, 31, [some (.ref 173), some (.int v1), some (.int v2), some (.int v3), none, none, none], [], (197, i, (zRF b), l)) else zev sc (170, 8, [some (.ref 173), some (.int v1), some (.int v2), some (.int v3), none, none, none], [], (197, i, (zRF b), l)) := by
  refine (ze_iload_n 3 zm170 dX10_measure_2 rfl rfl).trans ?_
  refine (ze_bipush 5 zm170 dX10_measure_3 cb_8 rfl).trans ?_
  exact ze_icmp_ge 31 8 zm170 dX10_measure_5 (by decide) rfl
theorem b170_8 (sc : zScr) (v1 : Int32) (v2 : Int32) (v3 : Int32) (i : Nat → Nat → Int32) (b : Bool) (l : Nat → Nat → Int64) : zev sc (170, 8, [some (.ref 173), some (.int v1), some (.int v2), some (.int v3), none, none, none], [], (197, i, (zRF b), l)) = if v3 = v2 then zev sc (170, 18, [some (.ref 173), some (.int v1), some (.int v2), some (.int v3), none, none, none], [.int v3, .ref 195], (197, i, (zRF b), l)) else zev sc (170, 22, [some (.ref 173), some (.int v1), some (.int v2), some (.int v3), none, none, none], [.int v3, .ref 195], (197, i, (zRF b), l)) := by
  refine (ze_aload_n 9 zm170 dX10_measure_8 rfl rfl).trans ?_
  refine (ze_getR 12 zm170 dX10_measure_9 f10_75 k173_10 t10_29 (rr173_29 b) rfl).trans ?_
  refine (ze_iload_n 13 zm170 dX10_measure_12 rfl rfl).trans ?_
  refine (ze_iload_n 14 zm170 dX10_measure_13 rfl rfl).trans ?_
  refine (ze_iload_n 15 zm170 dX10_measure_14 rfl rfl).trans ?_
  exact ze_icmp_ne 22 18 zm170 dX10_measure_15 (by decide) rfl
theorem b170_18 (sc : zScr) (v1 : Int32) (v2 : Int32) (v3 : Int32) (s0 : Int32) (i : Nat → Nat → Int32) (b : Bool) (l : Nat → Nat → Int64) : zev sc (170, 18, [some (.ref 173), some (.int v1), some (.int v2), some (.int v3), none, none, none], [.int s0, .ref 195], (197, i, (zRF b), l)) = zev sc (170, 24, [some (.ref 173), some (.int v1), some (.int v2), some (.int v3), none, none, none], [.int (0 : Int32), .int s0, .ref 195], (197, i, (zRF b), l)) := by
  refine (ze_iconst 19 zm170 dX10_measure_18 ci_0 rfl).trans ?_
  exact ze_goto 24 zm170 dX10_measure_19 (by decide)
theorem b170_22 (sc : zScr) (v1 : Int32) (v2 : Int32) (v3 : Int32) (s0 : Int32) (i : Nat → Nat → Int32) (b : Bool) (l : Nat → Nat → Int64) : zev sc (170, 22, [some (.ref 173), some (.int v1), some (.int v2), some (.int v3), none, none, none], [.int s0, .ref 195], (197, i, (zRF b), l)) = zev sc (170, 24, [some (.ref 173), some (.int v1), some (.int v2), some (.int v3), none, none, none], [.int (1000000 : Int32), .int s0, .ref 195], (197, i, (zRF b), l)) := by
  refine (ze_ldc 24 zm170 dX10_measure_22 zi_10_202 rfl).trans ?_
  rfl
theorem b170_24 (sc : zScr) (v1 : Int32) (v2 : Int32) (v3 : Int32) (s0 : Int32) (s1 : Int32) (i : Nat → Nat → Int32) (b : Bool) (l : Nat → Nat → Int64) (h1 : vp_in s1 8) : zev sc (170, 24, [some (.ref 173), some (.int v1), some (.int v2), some (.int v3), none, none, none], [.int s0, .int s1, .ref 195], (197, i, (zRF b), l)) = zev sc (170, 2, [some (.ref 173), some (.int v1), some (.int v2), some (.int (v3 + 1)), none, none, none], [], (197, (zU i 195 s1.toNatClampNeg s0), (zRF b), l)) := by
  refine (ze_iastore (t := s1.toNatClampNeg) 25 zm170 dX10_measure_24 k195_100 n195 h1 rfl rfl).trans ?_
  refine (ze_iinc (v := (1 : Int32)) (A := 99) (ls' := [some (.ref 173), some (.int v1), some (.int v2), some (.int (v3 + 1)), none, none, none]) 28 zm170 dX10_measure_25 rfl ci_1 za170 rfl rfl rfl rfl rfl).trans ?_
  exact ze_goto 2 zm170 dX10_measure_28 (by decide)
theorem b170_31 (sc : zScr) (v1 : Int32) (v2 : Int32) (v3 : Int32) (i : Nat → Nat → Int32) (b : Bool) (l : Nat → Nat → Int64) : zev sc (170, 31, [some (.ref 173), some (.int v1), some (.int v2), some (.int v3), none, none, none], [], (197, i, (zRF b), l)) = zev sc (170, 33, [some (.ref 173), some (.int v1), some (.int v2), some (.int (0 : Int32)), none, none, none], [], (197, i, (zRF b), l)) := by
  refine (ze_iconst 32 zm170 dX10_measure_31 ci_0 rfl).trans ?_
  refine (ze_istore_n (A := 99) (ls' := [some (.ref 173), some (.int v1), some (.int v2), some (.int (0 : Int32)), none, none, none]) 33 zm170 dX10_measure_32 za170 rfl rfl rfl rfl rfl).trans ?_
  rfl
theorem b170_33 (sc : zScr) (v1 : Int32) (v2 : Int32) (v3 : Int32) (w4 : Option Value) (w5 : Option Value) (w6 : Option Value) (i : Nat → Nat → Int32) (b : Bool) (l : Nat → Nat → Int64) : zev sc (170, 33, [some (.ref 173), some (.int v1), some (.int v2), some (.int v3), w4, w5, w6], [], (197, i, (zRF b), l)) = if (8 : Int32) ≤ v3 then zev sc (170, 201, [some (.ref 173), some (.int v1), some (.int v2), some (.int v3), w4, w5, w6], [], (197, i, (zRF b), l)) else zev sc (170, 39, [some (.ref 173), some (.int v1), some (.int v2), some (.int v3), w4, w5, w6], [], (197, i, (zRF b), l)) := by
  refine (ze_iload_n 34 zm170 dX10_measure_33 rfl rfl).trans ?_
  refine (ze_bipush 36 zm170 dX10_measure_34 cb_8 rfl).trans ?_
  exact ze_icmp_ge 201 39 zm170 dX10_measure_36 (by decide) rfl
theorem b170_39 (sc : zScr) (v1 : Int32) (v2 : Int32) (v3 : Int32) (w4 : Option Value) (w5 : Option Value) (w6 : Option Value) (i : Nat → Nat → Int32) (b : Bool) (l : Nat → Nat → Int64) : zev sc (170, 39, [some (.ref 173), some (.int v1), some (.int v2), some (.int v3), w4, w5, w6], [], (197, i, (zRF b), l)) = zev sc (170, 42, [some (.ref 173), some (.int v1), some (.int v2), some (.int v3), some (.int (0 : Int32)), w5, w6], [], (197, i, (zRF b), l)) := by
  refine (ze_iconst 40 zm170 dX10_measure_39 ci_0 rfl).trans ?_
  refine (ze_istore (A := 99) (ls' := [some (.ref 173), some (.int v1), some (.int v2), some (.int v3), some (.int (0 : Int32)), w5, w6]) 42 zm170 dX10_measure_40 za170 rfl rfl rfl rfl rfl).trans ?_
  rfl
theorem b170_42 (sc : zScr) (v1 : Int32) (v2 : Int32) (v3 : Int32) (v4 : Int32) (w5 : Option Value) (w6 : Option Value) (i : Nat → Nat → Int32) (b : Bool) (l : Nat → Nat → Int64) : zev sc (170, 42, [some (.ref 173), some (.int v1), some (.int v2), some (.int v3), some (.int v4), w5, w6], [], (197, i, (zRF b), l)) = if (i 176 0) ≤ v4 then zev sc (170, 195, [some (.ref 173), some (.int v1), some (.int v2), some (.int v3), some (.int v4), w5, w6], [], (197, i, (zRF b), l)) else zev sc (170, 53, [some (.ref 173), some (.int v1), some (.int v2), some (.int v3), some (.int v4), w5, w6], [], (197, i, (zRF b), l)) := by
  refine (ze_iload 44 zm170 dX10_measure_42 rfl rfl).trans ?_
  refine (ze_aload_n 45 zm170 dX10_measure_44 rfl rfl).trans ?_
  refine (ze_getR 48 zm170 dX10_measure_45 f10_17 k173_10 t10_3 (rr173_3 b) rfl).trans ?_
  refine (ze_iconst 49 zm170 dX10_measure_48 ci_0 rfl).trans ?_
  refine (ze_iaload (t := 0) 50 zm170 dX10_measure_49 k176_100 n176 vi_0_2 tn_0 rfl).trans ?_
  exact ze_icmp_ge 195 53 zm170 dX10_measure_50 (by decide) rfl
theorem b170_53 (sc : zScr) (v1 : Int32) (v2 : Int32) (v3 : Int32) (v4 : Int32) (w5 : Option Value) (w6 : Option Value) (i : Nat → Nat → Int32) (b : Bool) (l : Nat → Nat → Int64) (h1 : vp_in v4 16) (h2 : vp_in (i 178 v4.toNatClampNeg) 8) : zev sc (170, 53, [some (.ref 173), some (.int v1), some (.int v2), some (.int v3), some (.int v4), w5, w6], [], (197, i, (zRF b), l)) = (zev sc (169, 0, [some (.ref 173), some (.int v1), some (.int v4)], [], (197, i, (zRF b), l))).bind (fun x => zev sc (170, 72, [some (.ref 173), some (.int v1), some (.int v2), some (.int v3), some (.int v4), w5, w6], [x.1, .int (i 195 ((i 178 v4.toNatClampNeg)).toNatClampNeg)], x.2)) := by
  refine (ze_aload_n 54 zm170 dX10_measure_53 rfl rfl).trans ?_
  refine (ze_getR 57 zm170 dX10_measure_54 f10_75 k173_10 t10_29 (rr173_29 b) rfl).trans ?_
  refine (ze_aload_n 58 zm170 dX10_measure_57 rfl rfl).trans ?_
  refine (ze_getR 61 zm170 dX10_measure_58 f10_23 k173_10 t10_5 (rr173_5 b) rfl).trans ?_
  refine (ze_iload 63 zm170 dX10_measure_61 rfl rfl).trans ?_
  refine (ze_iaload (t := v4.toNatClampNeg) 64 zm170 dX10_measure_63 k178_100 n178 h1 rfl rfl).trans ?_
  refine (ze_iaload (t := ((i 178 v4.toNatClampNeg)).toNatClampNeg) 65 zm170 dX10_measure_64 k195_100 n195 h2 rfl rfl).trans ?_
  refine (ze_aload_n 66 zm170 dX10_measure_65 rfl rfl).trans ?_
  refine (ze_iload_n 67 zm170 dX10_measure_66 rfl rfl).trans ?_
  refine (ze_iload 69 zm170 dX10_measure_67 rfl rfl).trans ?_
  exact ze_virtI (as := [.int v1, .int v4]) (rest := [.int (i 195 ((i 178 v4.toNatClampNeg)).toNatClampNeg)]) 72 zm170 dX10_measure_69 r10_203 zm169 rfl rfl k173_10 rfl rfl rfl rfl
theorem b170_72 (sc : zScr) (v1 : Int32) (v2 : Int32) (v3 : Int32) (v4 : Int32) (w5 : Option Value) (w6 : Option Value) (s0 : Int32) (s1 : Int32) (i : Nat → Nat → Int32) (b : Bool) (l : Nat → Nat → Int64) (h1 : vp_in v4 16) (h2 : vp_in (i 177 v4.toNatClampNeg) 8) : zev sc (170, 72, [some (.ref 173), some (.int v1), some (.int v2), some (.int v3), some (.int v4), w5, w6], [.int s0, .int s1], (197, i, (zRF b), l)) = (zev sc (169, 0, [some (.ref 173), some (.int v1), some (.int v4)], [], (197, i, (zRF b), l))).bind (fun x => zev sc (170, 94, [some (.ref 173), some (.int v1), some (.int v2), some (.int v3), some (.int v4), some (.int (s1 + s0)), w6], [x.1, .int (i 195 ((i 177 v4.toNatClampNeg)).toNatClampNeg)], x.2)) := by
  refine (ze_iadd 73 zm170 dX10_measure_72 rfl).trans ?_
  refine (ze_istore (A := 99) (ls' := [some (.ref 173), some (.int v1), some (.int v2), some (.int v3), some (.int v4), some (.int (s1 + s0)), w6]) 75 zm170 dX10_measure_73 za170 rfl rfl rfl rfl rfl).trans ?_
  refine (ze_aload_n 76 zm170 dX10_measure_75 rfl rfl).trans ?_
  refine (ze_getR 79 zm170 dX10_measure_76 f10_75 k173_10 t10_29 (rr173_29 b) rfl).trans ?_
  refine (ze_aload_n 80 zm170 dX10_measure_79 rfl rfl).trans ?_
  refine (ze_getR 83 zm170 dX10_measure_80 f10_20 k173_10 t10_4 (rr173_4 b) rfl).trans ?_
  refine (ze_iload 85 zm170 dX10_measure_83 rfl rfl).trans ?_
  refine (ze_iaload (t := v4.toNatClampNeg) 86 zm170 dX10_measure_85 k177_100 n177 h1 rfl rfl).trans ?_
  refine (ze_iaload (t := ((i 177 v4.toNatClampNeg)).toNatClampNeg) 87 zm170 dX10_measure_86 k195_100 n195 h2 rfl rfl).trans ?_
  refine (ze_aload_n 88 zm170 dX10_measure_87 rfl rfl).trans ?_
  refine (ze_iload_n 89 zm170 dX10_measure_88 rfl rfl).trans ?_
  refine (ze_iload 91 zm170 dX10_measure_89 rfl rfl).trans ?_
  exact ze_virtI (as := [.int v1, .int v4]) (rest := [.int (i 195 ((i 177 v4.toNatClampNeg)).toNatClampNeg)]) 94 zm170 dX10_measure_91 r10_203 zm169 rfl rfl k173_10 rfl rfl rfl rfl
theorem b170_94 (sc : zScr) (v1 : Int32) (v2 : Int32) (v3 : Int32) (v4 : Int32) (v5 : Int32) (w6 : Option Value) (s0 : Int32) (s1 : Int32) (i : Nat → Nat → Int32) (b : Bool) (l : Nat → Nat → Int64) (h1 : vp_in v4 16) (h2 : vp_in (i 177 v4.toNatClampNeg) 8) : zev sc (170, 94, [some (.ref 173), some (.int v1), some (.int v2), some (.int v3), some (.int v4), some (.int v5), w6], [.int s0, .int s1], (197, i, (zRF b), l)) = if (i 195 ((i 177 v4.toNatClampNeg)).toNatClampNeg) ≤ v5 then zev sc (170, 130, [some (.ref 173), some (.int v1), some (.int v2), some (.int v3), some (.int v4), some (.int v5), some (.int (s1 + s0))], [.int (i 177 v4.toNatClampNeg), .ref 195], (197, i, (zRF b), l)) else zev sc (170, 125, [some (.ref 173), some (.int v1), some (.int v2), some (.int v3), some (.int v4), some (.int v5), some (.int (s1 + s0))], [.int (i 177 v4.toNatClampNeg), .ref 195], (197, i, (zRF b), l)) := by
  refine (ze_iadd 95 zm170 dX10_measure_94 rfl).trans ?_
  refine (ze_istore (A := 99) (ls' := [some (.ref 173), some (.int v1), some (.int v2), some (.int v3), some (.int v4), some (.int v5), some (.int (s1 + s0))]) 97 zm170 dX10_measure_95 za170 rfl rfl rfl rfl rfl).trans ?_
  refine (ze_aload_n 98 zm170 dX10_measure_97 rfl rfl).trans ?_
  refine (ze_getR 101 zm170 dX10_measure_98 f10_75 k173_10 t10_29 (rr173_29 b) rfl).trans ?_
  refine (ze_aload_n 102 zm170 dX10_measure_101 rfl rfl).trans ?_
  refine (ze_getR 105 zm170 dX10_measure_102 f10_20 k173_10 t10_4 (rr173_4 b) rfl).trans ?_
  refine (ze_iload 107 zm170 dX10_measure_105 rfl rfl).trans ?_
  refine (ze_iaload (t := v4.toNatClampNeg) 108 zm170 dX10_measure_107 k177_100 n177 h1 rfl rfl).trans ?_
  refine (ze_iload 110 zm170 dX10_measure_108 rfl rfl).trans ?_
  refine (ze_aload_n 111 zm170 dX10_measure_110 rfl rfl).trans ?_
  refine (ze_getR 114 zm170 dX10_measure_111 f10_75 k173_10 t10_29 (rr173_29 b) rfl).trans ?_
  refine (ze_aload_n 115 zm170 dX10_measure_114 rfl rfl).trans ?_
  refine (ze_getR 118 zm170 dX10_measure_115 f10_20 k173_10 t10_4 (rr173_4 b) rfl).trans ?_
  refine (ze_iload 120 zm170 dX10_measure_118 rfl rfl).trans ?_
  refine (ze_iaload (t := v4.toNatClampNeg) 121 zm170 dX10_measure_120 k177_100 n177 h1 rfl rfl).trans ?_
  refine (ze_iaload (t := ((i 177 v4.toNatClampNeg)).toNatClampNeg) 122 zm170 dX10_measure_121 k195_100 n195 h2 rfl rfl).trans ?_
  exact ze_icmp_ge 130 125 zm170 dX10_measure_122 (by decide) rfl
theorem b170_125 (sc : zScr) (v1 : Int32) (v2 : Int32) (v3 : Int32) (v4 : Int32) (v5 : Int32) (v6 : Int32) (s0 : Int32) (i : Nat → Nat → Int32) (b : Bool) (l : Nat → Nat → Int64) : zev sc (170, 125, [some (.ref 173), some (.int v1), some (.int v2), some (.int v3), some (.int v4), some (.int v5), some (.int v6)], [.int s0, .ref 195], (197, i, (zRF b), l)) = zev sc (170, 142, [some (.ref 173), some (.int v1), some (.int v2), some (.int v3), some (.int v4), some (.int v5), some (.int v6)], [.int v5, .int s0, .ref 195], (197, i, (zRF b), l)) := by
  refine (ze_iload 127 zm170 dX10_measure_125 rfl rfl).trans ?_
  exact ze_goto 142 zm170 dX10_measure_127 (by decide)
theorem b170_130 (sc : zScr) (v1 : Int32) (v2 : Int32) (v3 : Int32) (v4 : Int32) (v5 : Int32) (v6 : Int32) (s0 : Int32) (i : Nat → Nat → Int32) (b : Bool) (l : Nat → Nat → Int64) (h1 : vp_in v4 16) (h2 : vp_in (i 177 v4.toNatClampNeg) 8) : zev sc (170, 130, [some (.ref 173), some (.int v1), some (.int v2), some (.int v3), some (.int v4), some (.int v5), some (.int v6)], [.int s0, .ref 195], (197, i, (zRF b), l)) = zev sc (170, 142, [some (.ref 173), some (.int v1), some (.int v2), some (.int v3), some (.int v4), some (.int v5), some (.int v6)], [.int (i 195 ((i 177 v4.toNatClampNeg)).toNatClampNeg), .int s0, .ref 195], (197, i, (zRF b), l)) := by
  refine (ze_aload_n 131 zm170 dX10_measure_130 rfl rfl).trans ?_
  refine (ze_getR 134 zm170 dX10_measure_131 f10_75 k173_10 t10_29 (rr173_29 b) rfl).trans ?_
  refine (ze_aload_n 135 zm170 dX10_measure_134 rfl rfl).trans ?_
  refine (ze_getR 138 zm170 dX10_measure_135 f10_20 k173_10 t10_4 (rr173_4 b) rfl).trans ?_
  refine (ze_iload 140 zm170 dX10_measure_138 rfl rfl).trans ?_
  refine (ze_iaload (t := v4.toNatClampNeg) 141 zm170 dX10_measure_140 k177_100 n177 h1 rfl rfl).trans ?_
  refine (ze_iaload (t := ((i 177 v4.toNatClampNeg)).toNatClampNeg) 142 zm170 dX10_measure_141 k195_100 n195 h2 rfl rfl).trans ?_
  rfl
theorem b170_142 (sc : zScr) (v1 : Int32) (v2 : Int32) (v3 : Int32) (v4 : Int32) (v5 : Int32) (v6 : Int32) (s0 : Int32) (s1 : Int32) (i : Nat → Nat → Int32) (b : Bool) (l : Nat → Nat → Int64) (h1 : vp_in s1 8) (h2 : vp_in v4 16) (h3 : vp_in ((zU i 195 s1.toNatClampNeg s0) 178 v4.toNatClampNeg) 8) : zev sc (170, 142, [some (.ref 173), some (.int v1), some (.int v2), some (.int v3), some (.int v4), some (.int v5), some (.int v6)], [.int s0, .int s1, .ref 195], (197, i, (zRF b), l)) = if ((zU i 195 s1.toNatClampNeg s0) 195 (((zU i 195 s1.toNatClampNeg s0) 178 v4.toNatClampNeg)).toNatClampNeg) ≤ v6 then zev sc (170, 176, [some (.ref 173), some (.int v1), some (.int v2), some (.int v3), some (.int v4), some (.int v5), some (.int v6)], [.int ((zU i 195 s1.toNatClampNeg s0) 178 v4.toNatClampNeg), .ref 195], (197, (zU i 195 s1.toNatClampNeg s0), (zRF b), l)) else zev sc (170, 171, [some (.ref 173), some (.int v1), some (.int v2), some (.int v3), some (.int v4), some (.int v5), some (.int v6)], [.int ((zU i 195 s1.toNatClampNeg s0) 178 v4.toNatClampNeg), .ref 195], (197, (zU i 195 s1.toNatClampNeg s0), (zRF b), l)) := by
  refine (ze_iastore (t := s1.toNatClampNeg) 143 zm170 dX10_measure_142 k195_100 n195 h1 rfl rfl).trans ?_
  refine (ze_aload_n 144 zm170 dX10_measure_143 rfl rfl).trans ?_
  refine (ze_getR 147 zm170 dX10_measure_144 f10_75 k173_10 t10_29 (rr173_29 b) rfl).trans ?_
  refine (ze_aload_n 148 zm170 dX10_measure_147 rfl rfl).trans ?_
  refine (ze_getR 151 zm170 dX10_measure_148 f10_23 k173_10 t10_5 (rr173_5 b) rfl).trans ?_
  refine (ze_iload 153 zm170 dX10_measure_151 rfl rfl).trans ?_
  refine (ze_iaload (t := v4.toNatClampNeg) 154 zm170 dX10_measure_153 k178_100 n178 h2 rfl rfl).trans ?_
  refine (ze_iload 156 zm170 dX10_measure_154 rfl rfl).trans ?_
  refine (ze_aload_n 157 zm170 dX10_measure_156 rfl rfl).trans ?_
  refine (ze_getR 160 zm170 dX10_measure_157 f10_75 k173_10 t10_29 (rr173_29 b) rfl).trans ?_
  refine (ze_aload_n 161 zm170 dX10_measure_160 rfl rfl).trans ?_
  refine (ze_getR 164 zm170 dX10_measure_161 f10_23 k173_10 t10_5 (rr173_5 b) rfl).trans ?_
  refine (ze_iload 166 zm170 dX10_measure_164 rfl rfl).trans ?_
  refine (ze_iaload (t := v4.toNatClampNeg) 167 zm170 dX10_measure_166 k178_100 n178 h2 rfl rfl).trans ?_
  refine (ze_iaload (t := (((zU i 195 s1.toNatClampNeg s0) 178 v4.toNatClampNeg)).toNatClampNeg) 168 zm170 dX10_measure_167 k195_100 n195 h3 rfl rfl).trans ?_
  exact ze_icmp_ge 176 171 zm170 dX10_measure_168 (by decide) rfl
theorem b170_171 (sc : zScr) (v1 : Int32) (v2 : Int32) (v3 : Int32) (v4 : Int32) (v5 : Int32) (v6 : Int32) (s0 : Int32) (i : Nat → Nat → Int32) (b : Bool) (l : Nat → Nat → Int64) : zev sc (170, 171, [some (.ref 173), some (.int v1), some (.int v2), some (.int v3), some (.int v4), some (.int v5), some (.int v6)], [.int s0, .ref 195], (197, i, (zRF b), l)) = zev sc (170, 188, [some (.ref 173), some (.int v1), some (.int v2), some (.int v3), some (.int v4), some (.int v5), some (.int v6)], [.int v6, .int s0, .ref 195], (197, i, (zRF b), l)) := by
  refine (ze_iload 173 zm170 dX10_measure_171 rfl rfl).trans ?_
  exact ze_goto 188 zm170 dX10_measure_173 (by decide)
theorem b170_176 (sc : zScr) (v1 : Int32) (v2 : Int32) (v3 : Int32) (v4 : Int32) (v5 : Int32) (v6 : Int32) (s0 : Int32) (i : Nat → Nat → Int32) (b : Bool) (l : Nat → Nat → Int64) (h1 : vp_in v4 16) (h2 : vp_in (i 178 v4.toNatClampNeg) 8) : zev sc (170, 176, [some (.ref 173), some (.int v1), some (.int v2), some (.int v3), some (.int v4), some (.int v5), some (.int v6)], [.int s0, .ref 195], (197, i, (zRF b), l)) = zev sc (170, 188, [some (.ref 173), some (.int v1), some (.int v2), some (.int v3), some (.int v4), some (.int v5), some (.int v6)], [.int (i 195 ((i 178 v4.toNatClampNeg)).toNatClampNeg), .int s0, .ref 195], (197, i, (zRF b), l)) := by
  refine (ze_aload_n 177 zm170 dX10_measure_176 rfl rfl).trans ?_
  refine (ze_getR 180 zm170 dX10_measure_177 f10_75 k173_10 t10_29 (rr173_29 b) rfl).trans ?_
  refine (ze_aload_n 181 zm170 dX10_measure_180 rfl rfl).trans ?_
  refine (ze_getR 184 zm170 dX10_measure_181 f10_23 k173_10 t10_5 (rr173_5 b) rfl).trans ?_
  refine (ze_iload 186 zm170 dX10_measure_184 rfl rfl).trans ?_
  refine (ze_iaload (t := v4.toNatClampNeg) 187 zm170 dX10_measure_186 k178_100 n178 h1 rfl rfl).trans ?_
  refine (ze_iaload (t := ((i 178 v4.toNatClampNeg)).toNatClampNeg) 188 zm170 dX10_measure_187 k195_100 n195 h2 rfl rfl).trans ?_
  rfl
theorem b170_188 (sc : zScr) (v1 : Int32) (v2 : Int32) (v3 : Int32) (v4 : Int32) (v5 : Int32) (v6 : Int32) (s0 : Int32) (s1 : Int32) (i : Nat → Nat → Int32) (b : Bool) (l : Nat → Nat → Int64) (h1 : vp_in s1 8) : zev sc (170, 188, [some (.ref 173), some (.int v1), some (.int v2), some (.int v3), some (.int v4), some (.int v5), some (.int v6)], [.int s0, .int s1, .ref 195], (197, i, (zRF b), l)) = zev sc (170, 42, [some (.ref 173), some (.int v1), some (.int v2), some (.int v3), some (.int (v4 + 1)), some (.int v5), some (.int v6)], [], (197, (zU i 195 s1.toNatClampNeg s0), (zRF b), l)) := by
  refine (ze_iastore (t := s1.toNatClampNeg) 189 zm170 dX10_measure_188 k195_100 n195 h1 rfl rfl).trans ?_
  refine (ze_iinc (v := (1 : Int32)) (A := 99) (ls' := [some (.ref 173), some (.int v1), some (.int v2), some (.int v3), some (.int (v4 + 1)), some (.int v5), some (.int v6)]) 192 zm170 dX10_measure_189 rfl ci_1 za170 rfl rfl rfl rfl rfl).trans ?_
  exact ze_goto 42 zm170 dX10_measure_192 (by decide)
theorem b170_195 (sc : zScr) (v1 : Int32) (v2 : Int32) (v3 : Int32) (v4 : Int32) (w5 : Option Value) (w6 : Option Value) (i : Nat → Nat → Int32) (b : Bool) (l : Nat → Nat → Int64) : zev sc (170, 195, [some (.ref 173), some (.int v1), some (.int v2), some (.int v3), some (.int v4), w5, w6], [], (197, i, (zRF b), l)) = zev sc (170, 33, [some (.ref 173), some (.int v1), some (.int v2), some (.int (v3 + 1)), some (.int v4), w5, w6], [], (197, i, (zRF b), l)) := by
  refine (ze_iinc (v := (1 : Int32)) (A := 99) (ls' := [some (.ref 173), some (.int v1), some (.int v2), some (.int (v3 + 1)), some (.int v4), w5, w6]) 198 zm170 dX10_measure_195 rfl ci_1 za170 rfl rfl rfl rfl rfl).trans ?_
  exact ze_goto 33 zm170 dX10_measure_198 (by decide)
theorem b170_201 (sc : zScr) (v1 : Int32) (v2 : Int32) (v3 : Int32) (w4 : Option Value) (w5 : Option Value) (w6 : Option Value) (i : Nat → Nat → Int32) (b : Bool) (l : Nat → Nat → Int64) : zev sc (170, 201, [some (.ref 173), some (.int v1), some (.int v2), some (.int v3), w4, w5, w6], [], (197, i, (zRF b), l)) = some (.null, (197, i, (zRF b), l)) := by
  exact ze_return zm170 dX10_measure_201 rfl
/-! HarpFencesModel.quiet (IIII)I: method 171 -/
theorem b171_0 (sc : zScr) (v1 : Int32) (v2 : Int32) (v3 : Int32) (v4 : Int32) (i : Nat → Nat → Int32) (b : Bool) (l : Nat → Nat → Int64) : zev sc (171, 0, [some (.ref 173), some (.int v1), some (.int v2), some (.int v3), some (.int v4), none, none, none], [], (197, i, (zRF b), l)) = (zev sc (133, 0, [some (.ref 173), some (.int v1)], [], (197, i, (zRF b), l))).bind (fun x => zev sc (171, 5, [some (.ref 173), some (.int v1), some (.int v2), some (.int v3), some (.int v4), none, none, none], [x.1], x.2)) := by
  refine (ze_aload_n 1 zm171 dX10_quiet_0 rfl rfl).trans ?_
  refine (ze_iload_n 2 zm171 dX10_quiet_1 rfl rfl).trans ?_
  exact ze_virtI (as := [.int v1]) (rest := []) 5 zm171 dX10_quiet_2 r10_145 zm133 rfl rfl k173_10 rfl rfl rfl rfl
theorem b171_5 (sc : zScr) (v1 : Int32) (v2 : Int32) (v3 : Int32) (v4 : Int32) (s0 : Int32) (i : Nat → Nat → Int32) (b : Bool) (l : Nat → Nat → Int64) : zev sc (171, 5, [some (.ref 173), some (.int v1), some (.int v2), some (.int v3), some (.int v4), none, none, none], [.int s0], (197, i, (zRF b), l)) = if s0 = 0 then zev sc (171, 34, [some (.ref 173), some (.int v1), some (.int v2), some (.int v3), some (.int v4), none, none, none], [], (197, i, (zRF b), l)) else zev sc (171, 8, [some (.ref 173), some (.int v1), some (.int v2), some (.int v3), some (.int v4), none, none, none], [], (197, i, (zRF b), l)) := by
  exact ze_if_eq 34 8 zm171 dX10_quiet_5 (by decide) rfl
theorem b171_8 (sc : zScr) (v1 : Int32) (v2 : Int32) (v3 : Int32) (v4 : Int32) (i : Nat → Nat → Int32) (b : Bool) (l : Nat → Nat → Int64) : zev sc (171, 8, [some (.ref 173), some (.int v1), some (.int v2), some (.int v3), some (.int v4), none, none, none], [], (197, i, (zRF b), l)) = (zev sc (131, 0, [some (.ref 173), some (.int v2)], [], (197, i, (zRF b), l))).bind (fun x => zev sc (171, 13, [some (.ref 173), some (.int v1), some (.int v2), some (.int v3), some (.int v4), none, none, none], [x.1], x.2)) := by
  refine (ze_aload_n 9 zm171 dX10_quiet_8 rfl rfl).trans ?_
  refine (ze_iload_n 10 zm171 dX10_quiet_9 rfl rfl).trans ?_
  exact ze_virtI (as := [.int v2]) (rest := []) 13 zm171 dX10_quiet_10 r10_192 zm131 rfl rfl k173_10 rfl rfl rfl rfl
theorem b171_13 (sc : zScr) (v1 : Int32) (v2 : Int32) (v3 : Int32) (v4 : Int32) (s0 : Int32) (i : Nat → Nat → Int32) (b : Bool) (l : Nat → Nat → Int64) : zev sc (171, 13, [some (.ref 173), some (.int v1), some (.int v2), some (.int v3), some (.int v4), none, none, none], [.int s0], (197, i, (zRF b), l)) = if s0 = 0 then zev sc (171, 34, [some (.ref 173), some (.int v1), some (.int v2), some (.int v3), some (.int v4), none, none, none], [], (197, i, (zRF b), l)) else zev sc (171, 16, [some (.ref 173), some (.int v1), some (.int v2), some (.int v3), some (.int v4), none, none, none], [], (197, i, (zRF b), l)) := by
  exact ze_if_eq 34 16 zm171 dX10_quiet_13 (by decide) rfl
theorem b171_16 (sc : zScr) (v1 : Int32) (v2 : Int32) (v3 : Int32) (v4 : Int32) (i : Nat → Nat → Int32) (b : Bool) (l : Nat → Nat → Int64) : zev sc (171, 16, [some (.ref 173), some (.int v1), some (.int v2), some (.int v3), some (.int v4), none, none, none], [], (197, i, (zRF b), l)) = (zev sc (131, 0, [some (.ref 173), some (.int v3)], [], (197, i, (zRF b), l))).bind (fun x => zev sc (171, 21, [some (.ref 173), some (.int v1), some (.int v2), some (.int v3), some (.int v4), none, none, none], [x.1], x.2)) := by
  refine (ze_aload_n 17 zm171 dX10_quiet_16 rfl rfl).trans ?_
  refine (ze_iload_n 18 zm171 dX10_quiet_17 rfl rfl).trans ?_
  exact ze_virtI (as := [.int v3]) (rest := []) 21 zm171 dX10_quiet_18 r10_192 zm131 rfl rfl k173_10 rfl rfl rfl rfl
theorem b171_21 (sc : zScr) (v1 : Int32) (v2 : Int32) (v3 : Int32) (v4 : Int32) (s0 : Int32) (i : Nat → Nat → Int32) (b : Bool) (l : Nat → Nat → Int64) : zev sc (171, 21, [some (.ref 173), some (.int v1), some (.int v2), some (.int v3), some (.int v4), none, none, none], [.int s0], (197, i, (zRF b), l)) = if s0 = 0 then zev sc (171, 34, [some (.ref 173), some (.int v1), some (.int v2), some (.int v3), some (.int v4), none, none, none], [], (197, i, (zRF b), l)) else zev sc (171, 24, [some (.ref 173), some (.int v1), some (.int v2), some (.int v3), some (.int v4), none, none, none], [], (197, i, (zRF b), l)) := by
  exact ze_if_eq 34 24 zm171 dX10_quiet_21 (by decide) rfl
theorem b171_24 (sc : zScr) (v1 : Int32) (v2 : Int32) (v3 : Int32) (v4 : Int32) (i : Nat → Nat → Int32) (b : Bool) (l : Nat → Nat → Int64) : zev sc (171, 24, [some (.ref 173), some (.int v1), some (.int v2), some (.int v3), some (.int v4), none, none, none], [], (197, i, (zRF b), l)) = (zev sc (119, 0, [some (.int v4), some (.int (0 : Int32)), some (.int (2 : Int32))], [], (197, i, (zRF b), l))).bind (fun x => zev sc (171, 31, [some (.ref 173), some (.int v1), some (.int v2), some (.int v3), some (.int v4), none, none, none], [x.1], x.2)) := by
  refine (ze_iload 26 zm171 dX10_quiet_24 rfl rfl).trans ?_
  refine (ze_iconst 27 zm171 dX10_quiet_26 ci_0 rfl).trans ?_
  refine (ze_iconst 28 zm171 dX10_quiet_27 ci_2 rfl).trans ?_
  exact ze_statI (as := [.int v4, .int (0 : Int32), .int (2 : Int32)]) (rest := []) 31 zm171 dX10_quiet_28 r10_81 zm119 rfl rfl rfl rfl rfl rfl
theorem b171_31 (sc : zScr) (v1 : Int32) (v2 : Int32) (v3 : Int32) (v4 : Int32) (s0 : Int32) (i : Nat → Nat → Int32) (b : Bool) (l : Nat → Nat → Int64) : zev sc (171, 31, [some (.ref 173), some (.int v1), some (.int v2), some (.int v3), some (.int v4), none, none, none], [.int s0], (197, i, (zRF b), l)) = if s0 = 0 then zev sc (171, 34, [some (.ref 173), some (.int v1), some (.int v2), some (.int v3), some (.int v4), none, none, none], [], (197, i, (zRF b), l)) else zev sc (171, 36, [some (.ref 173), some (.int v1), some (.int v2), some (.int v3), some (.int v4), none, none, none], [], (197, i, (zRF b), l)) := by
  exact ze_if_ne 36 34 zm171 dX10_quiet_31 (by decide) rfl
theorem b171_34 (sc : zScr) (v1 : Int32) (v2 : Int32) (v3 : Int32) (v4 : Int32) (i : Nat → Nat → Int32) (b : Bool) (l : Nat → Nat → Int64) : zev sc (171, 34, [some (.ref 173), some (.int v1), some (.int v2), some (.int v3), some (.int v4), none, none, none], [], (197, i, (zRF b), l)) = some (.int (-1 : Int32), (197, i, (zRF b), l)) := by
  refine (ze_iconst 35 zm171 dX10_quiet_34 ci_m1 rfl).trans ?_
  exact ze_ireturn zm171 dX10_quiet_35 rfl
theorem b171_36 (sc : zScr) (v1 : Int32) (v2 : Int32) (v3 : Int32) (v4 : Int32) (i : Nat → Nat → Int32) (b : Bool) (l : Nat → Nat → Int64) : zev sc (171, 36, [some (.ref 173), some (.int v1), some (.int v2), some (.int v3), some (.int v4), none, none, none], [], (197, i, (zRF b), l)) = (zev sc (170, 0, [some (.ref 173), some (.int v1), some (.int v3), none, none, none, none], [], (197, i, (zRF b), l))).bind (fun x => zev sc (171, 42, [some (.ref 173), some (.int v1), some (.int v2), some (.int v3), some (.int v4), none, none, none], [], x.2)) := by
  refine (ze_aload_n 37 zm171 dX10_quiet_36 rfl rfl).trans ?_
  refine (ze_iload_n 38 zm171 dX10_quiet_37 rfl rfl).trans ?_
  refine (ze_iload_n 39 zm171 dX10_quiet_38 rfl rfl).trans ?_
  exact ze_virtV (as := [.int v1, .int v3]) (rest := []) 42 zm171 dX10_quiet_39 r10_206 zm170 rfl rfl k173_10 rfl rfl rfl rfl
theorem b171_42 (sc : zScr) (v1 : Int32) (v2 : Int32) (v3 : Int32) (v4 : Int32) (i : Nat → Nat → Int32) (b : Bool) (l : Nat → Nat → Int64) (h1 : vp_in v2 8) : zev sc (171, 42, [some (.ref 173), some (.int v1), some (.int v2), some (.int v3), some (.int v4), none, none, none], [], (197, i, (zRF b), l)) = if (i 195 v2.toNatClampNeg) < (1000000 : Int32) then zev sc (171, 56, [some (.ref 173), some (.int v1), some (.int v2), some (.int v3), some (.int v4), none, none, none], [], (197, i, (zRF b), l)) else zev sc (171, 53, [some (.ref 173), some (.int v1), some (.int v2), some (.int v3), some (.int v4), none, none, none], [], (197, i, (zRF b), l)) := by
  refine (ze_aload_n 43 zm171 dX10_quiet_42 rfl rfl).trans ?_
  refine (ze_getR 46 zm171 dX10_quiet_43 f10_75 k173_10 t10_29 (rr173_29 b) rfl).trans ?_
  refine (ze_iload_n 47 zm171 dX10_quiet_46 rfl rfl).trans ?_
  refine (ze_iaload (t := v2.toNatClampNeg) 48 zm171 dX10_quiet_47 k195_100 n195 h1 rfl rfl).trans ?_
  refine (ze_ldc 50 zm171 dX10_quiet_48 zi_10_202 rfl).trans ?_
  exact ze_icmp_lt 56 53 zm171 dX10_quiet_50 (by decide) rfl
theorem b171_53 (sc : zScr) (v1 : Int32) (v2 : Int32) (v3 : Int32) (v4 : Int32) (i : Nat → Nat → Int32) (b : Bool) (l : Nat → Nat → Int64) : zev sc (171, 53, [some (.ref 173), some (.int v1), some (.int v2), some (.int v3), some (.int v4), none, none, none], [], (197, i, (zRF b), l)) = some (.int (-9 : Int32), (197, i, (zRF b), l)) := by
  refine (ze_bipush 55 zm171 dX10_quiet_53 cb_m9 rfl).trans ?_
  exact ze_ireturn zm171 dX10_quiet_55 rfl
theorem b171_56 (sc : zScr) (v1 : Int32) (v2 : Int32) (v3 : Int32) (v4 : Int32) (i : Nat → Nat → Int32) (b : Bool) (l : Nat → Nat → Int64) : zev sc (171, 56, [some (.ref 173), some (.int v1), some (.int v2), some (.int v3), some (.int v4), none, none, none], [], (197, i, (zRF b), l)) = if (2 : Int32) ≤ v4 then zev sc (171, 89, [some (.ref 173), some (.int v1), some (.int v2), some (.int v3), some (.int v4), none, none, none], [], (197, i, (zRF b), l)) else zev sc (171, 62, [some (.ref 173), some (.int v1), some (.int v2), some (.int v3), some (.int v4), none, none, none], [], (197, i, (zRF b), l)) := by
  refine (ze_iload 58 zm171 dX10_quiet_56 rfl rfl).trans ?_
  refine (ze_iconst 59 zm171 dX10_quiet_58 ci_2 rfl).trans ?_
  exact ze_icmp_ge 89 62 zm171 dX10_quiet_59 (by decide) rfl
theorem b171_62 (sc : zScr) (v1 : Int32) (v2 : Int32) (v3 : Int32) (v4 : Int32) (i : Nat → Nat → Int32) (b : Bool) (l : Nat → Nat → Int64) : zev sc (171, 62, [some (.ref 173), some (.int v1), some (.int v2), some (.int v3), some (.int v4), none, none, none], [], (197, i, (zRF b), l)) = if v4 = 0 then zev sc (171, 67, [some (.ref 173), some (.int v1), some (.int v2), some (.int v3), some (.int v4), none, none, none], [], (197, i, (zRF b), l)) else zev sc (171, 79, [some (.ref 173), some (.int v1), some (.int v2), some (.int v3), some (.int v4), none, none, none], [], (197, i, (zRF b), l)) := by
  refine (ze_iload 64 zm171 dX10_quiet_62 rfl rfl).trans ?_
  exact ze_if_ne 79 67 zm171 dX10_quiet_64 (by decide) rfl
theorem b171_67 (sc : zScr) (v1 : Int32) (v2 : Int32) (v3 : Int32) (v4 : Int32) (i : Nat → Nat → Int32) (b : Bool) (l : Nat → Nat → Int64) (h1 : vp_in v2 8) : zev sc (171, 67, [some (.ref 173), some (.int v1), some (.int v2), some (.int v3), some (.int v4), none, none, none], [], (197, i, (zRF b), l)) = zev sc (171, 88, [some (.ref 173), some (.int v1), some (.int v2), some (.int v3), some (.int v4), none, none, none], [.int ((i 195 v2.toNatClampNeg) / (100 : Int32))], (197, i, (zRF b), l)) := by
  refine (ze_aload_n 68 zm171 dX10_quiet_67 rfl rfl).trans ?_
  refine (ze_getR 71 zm171 dX10_quiet_68 f10_75 k173_10 t10_29 (rr173_29 b) rfl).trans ?_
  refine (ze_iload_n 72 zm171 dX10_quiet_71 rfl rfl).trans ?_
  refine (ze_iaload (t := v2.toNatClampNeg) 73 zm171 dX10_quiet_72 k195_100 n195 h1 rfl rfl).trans ?_
  refine (ze_bipush 75 zm171 dX10_quiet_73 cb_100 rfl).trans ?_
  refine (ze_idiv 76 zm171 dX10_quiet_75 (by decide) rfl).trans ?_
  exact ze_goto 88 zm171 dX10_quiet_76 (by decide)
theorem b171_79 (sc : zScr) (v1 : Int32) (v2 : Int32) (v3 : Int32) (v4 : Int32) (i : Nat → Nat → Int32) (b : Bool) (l : Nat → Nat → Int64) (h1 : vp_in v2 8) : zev sc (171, 79, [some (.ref 173), some (.int v1), some (.int v2), some (.int v3), some (.int v4), none, none, none], [], (197, i, (zRF b), l)) = zev sc (171, 88, [some (.ref 173), some (.int v1), some (.int v2), some (.int v3), some (.int v4), none, none, none], [.int ((i 195 v2.toNatClampNeg) - (i 195 v2.toNatClampNeg) / (100 : Int32) * (100 : Int32))], (197, i, (zRF b), l)) := by
  refine (ze_aload_n 80 zm171 dX10_quiet_79 rfl rfl).trans ?_
  refine (ze_getR 83 zm171 dX10_quiet_80 f10_75 k173_10 t10_29 (rr173_29 b) rfl).trans ?_
  refine (ze_iload_n 84 zm171 dX10_quiet_83 rfl rfl).trans ?_
  refine (ze_iaload (t := v2.toNatClampNeg) 85 zm171 dX10_quiet_84 k195_100 n195 h1 rfl rfl).trans ?_
  refine (ze_bipush 87 zm171 dX10_quiet_85 cb_100 rfl).trans ?_
  refine (ze_irem 88 zm171 dX10_quiet_87 (by decide) rfl).trans ?_
  rfl
theorem b171_88 (sc : zScr) (v1 : Int32) (v2 : Int32) (v3 : Int32) (v4 : Int32) (s0 : Int32) (i : Nat → Nat → Int32) (b : Bool) (l : Nat → Nat → Int64) : zev sc (171, 88, [some (.ref 173), some (.int v1), some (.int v2), some (.int v3), some (.int v4), none, none, none], [.int s0], (197, i, (zRF b), l)) = some (.int s0, (197, i, (zRF b), l)) := by
  exact ze_ireturn zm171 dX10_quiet_88 rfl
theorem b171_89 (sc : zScr) (v1 : Int32) (v2 : Int32) (v3 : Int32) (v4 : Int32) (i : Nat → Nat → Int32) (b : Bool) (l : Nat → Nat → Int64) : zev sc (171, 89, [some (.ref 173), some (.int v1), some (.int v2), some (.int v3), some (.int v4), none, none, none], [], (197, i, (zRF b), l)) = zev sc (171, 103, [some (.ref 173), some (.int v1), some (.int v2), some (.int v3), some (.int v4), some (.int (-9 : Int32)), some (.int ((i 176 0) - (1 : Int32))), none], [], (197, i, (zRF b), l)) := by
  refine (ze_bipush 91 zm171 dX10_quiet_89 cb_m9 rfl).trans ?_
  refine (ze_istore (A := 99) (ls' := [some (.ref 173), some (.int v1), some (.int v2), some (.int v3), some (.int v4), some (.int (-9 : Int32)), none, none]) 93 zm171 dX10_quiet_91 za171 rfl rfl rfl rfl rfl).trans ?_
  refine (ze_aload_n 94 zm171 dX10_quiet_93 rfl rfl).trans ?_
  refine (ze_getR 97 zm171 dX10_quiet_94 f10_17 k173_10 t10_3 (rr173_3 b) rfl).trans ?_
  refine (ze_iconst 98 zm171 dX10_quiet_97 ci_0 rfl).trans ?_
  refine (ze_iaload (t := 0) 99 zm171 dX10_quiet_98 k176_100 n176 vi_0_2 tn_0 rfl).trans ?_
  refine (ze_iconst 100 zm171 dX10_quiet_99 ci_1 rfl).trans ?_
  refine (ze_isub 101 zm171 dX10_quiet_100 rfl).trans ?_
  refine (ze_istore (A := 99) (ls' := [some (.ref 173), some (.int v1), some (.int v2), some (.int v3), some (.int v4), some (.int (-9 : Int32)), some (.int ((i 176 0) - (1 : Int32))), none]) 103 zm171 dX10_quiet_101 za171 rfl rfl rfl rfl rfl).trans ?_
  rfl
theorem b171_103 (sc : zScr) (v1 : Int32) (v2 : Int32) (v3 : Int32) (v4 : Int32) (v5 : Int32) (v6 : Int32) (w7 : Option Value) (i : Nat → Nat → Int32) (b : Bool) (l : Nat → Nat → Int64) : zev sc (171, 103, [some (.ref 173), some (.int v1), some (.int v2), some (.int v3), some (.int v4), some (.int v5), some (.int v6), w7], [], (197, i, (zRF b), l)) = if v6 < 0 then zev sc (171, 179, [some (.ref 173), some (.int v1), some (.int v2), some (.int v3), some (.int v4), some (.int v5), some (.int v6), w7], [], (197, i, (zRF b), l)) else zev sc (171, 108, [some (.ref 173), some (.int v1), some (.int v2), some (.int v3), some (.int v4), some (.int v5), some (.int v6), w7], [], (197, i, (zRF b), l)) := by
  refine (ze_iload 105 zm171 dX10_quiet_103 rfl rfl).trans ?_
  exact ze_if_lt 179 108 zm171 dX10_quiet_105 (by decide) rfl
theorem b171_108 (sc : zScr) (v1 : Int32) (v2 : Int32) (v3 : Int32) (v4 : Int32) (v5 : Int32) (v6 : Int32) (w7 : Option Value) (i : Nat → Nat → Int32) (b : Bool) (l : Nat → Nat → Int64) : zev sc (171, 108, [some (.ref 173), some (.int v1), some (.int v2), some (.int v3), some (.int v4), some (.int v5), some (.int v6), w7], [], (197, i, (zRF b), l)) = if v2 = v3 then zev sc (171, 156, [some (.ref 173), some (.int v1), some (.int v2), some (.int v3), some (.int v4), some (.int v5), some (.int v6), w7], [], (197, i, (zRF b), l)) else zev sc (171, 113, [some (.ref 173), some (.int v1), some (.int v2), some (.int v3), some (.int v4), some (.int v5), some (.int v6), w7], [], (197, i, (zRF b), l)) := by
  refine (ze_iload_n 109 zm171 dX10_quiet_108 rfl rfl).trans ?_
  refine (ze_iload_n 110 zm171 dX10_quiet_109 rfl rfl).trans ?_
  exact ze_icmp_eq 156 113 zm171 dX10_quiet_110 (by decide) rfl
theorem b171_113 (sc : zScr) (v1 : Int32) (v2 : Int32) (v3 : Int32) (v4 : Int32) (v5 : Int32) (v6 : Int32) (w7 : Option Value) (i : Nat → Nat → Int32) (b : Bool) (l : Nat → Nat → Int64) : zev sc (171, 113, [some (.ref 173), some (.int v1), some (.int v2), some (.int v3), some (.int v4), some (.int v5), some (.int v6), w7], [], (197, i, (zRF b), l)) = (zev sc (136, 0, [some (.ref 173), some (.int v6), some (.int v2)], [], (197, i, (zRF b), l))).bind (fun x => zev sc (171, 120, [some (.ref 173), some (.int v1), some (.int v2), some (.int v3), some (.int v4), some (.int v5), some (.int v6), w7], [x.1], x.2)) := by
  refine (ze_aload_n 114 zm171 dX10_quiet_113 rfl rfl).trans ?_
  refine (ze_iload 116 zm171 dX10_quiet_114 rfl rfl).trans ?_
  refine (ze_iload_n 117 zm171 dX10_quiet_116 rfl rfl).trans ?_
  exact ze_virtI (as := [.int v6, .int v2]) (rest := []) 120 zm171 dX10_quiet_117 r10_155 zm136 rfl rfl k173_10 rfl rfl rfl rfl
theorem b171_120 (sc : zScr) (v1 : Int32) (v2 : Int32) (v3 : Int32) (v4 : Int32) (v5 : Int32) (v6 : Int32) (w7 : Option Value) (s0 : Int32) (i : Nat → Nat → Int32) (b : Bool) (l : Nat → Nat → Int64) : zev sc (171, 120, [some (.ref 173), some (.int v1), some (.int v2), some (.int v3), some (.int v4), some (.int v5), some (.int v6), w7], [.int s0], (197, i, (zRF b), l)) = if s0 = 0 then zev sc (171, 156, [some (.ref 173), some (.int v1), some (.int v2), some (.int v3), some (.int v4), some (.int v5), some (.int v6), w7], [], (197, i, (zRF b), l)) else zev sc (171, 123, [some (.ref 173), some (.int v1), some (.int v2), some (.int v3), some (.int v4), some (.int v5), some (.int v6), w7], [], (197, i, (zRF b), l)) := by
  exact ze_if_eq 156 123 zm171 dX10_quiet_120 (by decide) rfl
theorem b171_123 (sc : zScr) (v1 : Int32) (v2 : Int32) (v3 : Int32) (v4 : Int32) (v5 : Int32) (v6 : Int32) (w7 : Option Value) (i : Nat → Nat → Int32) (b : Bool) (l : Nat → Nat → Int64) : zev sc (171, 123, [some (.ref 173), some (.int v1), some (.int v2), some (.int v3), some (.int v4), some (.int v5), some (.int v6), w7], [], (197, i, (zRF b), l)) = (zev sc (169, 0, [some (.ref 173), some (.int v1), some (.int v6)], [], (197, i, (zRF b), l))).bind (fun x => zev sc (171, 130, [some (.ref 173), some (.int v1), some (.int v2), some (.int v3), some (.int v4), some (.int v5), some (.int v6), w7], [x.1], x.2)) := by
  refine (ze_aload_n 124 zm171 dX10_quiet_123 rfl rfl).trans ?_
  refine (ze_iload_n 125 zm171 dX10_quiet_124 rfl rfl).trans ?_
  refine (ze_iload 127 zm171 dX10_quiet_125 rfl rfl).trans ?_
  exact ze_virtI (as := [.int v1, .int v6]) (rest := []) 130 zm171 dX10_quiet_127 r10_203 zm169 rfl rfl k173_10 rfl rfl rfl rfl
theorem b171_130 (sc : zScr) (v1 : Int32) (v2 : Int32) (v3 : Int32) (v4 : Int32) (v5 : Int32) (v6 : Int32) (w7 : Option Value) (s0 : Int32) (i : Nat → Nat → Int32) (b : Bool) (l : Nat → Nat → Int64) : zev sc (171, 130, [some (.ref 173), some (.int v1), some (.int v2), some (.int v3), some (.int v4), some (.int v5), some (.int v6), w7], [.int s0], (197, i, (zRF b), l)) = (zev sc (137, 0, [some (.ref 173), some (.int v6), some (.int v2)], [], (197, i, (zRF b), l))).bind (fun x => zev sc (171, 141, [some (.ref 173), some (.int v1), some (.int v2), some (.int v3), some (.int v4), some (.int v5), some (.int v6), w7], [x.1, .ref 195, .int s0], x.2)) := by
  refine (ze_aload_n 131 zm171 dX10_quiet_130 rfl rfl).trans ?_
  refine (ze_getR 134 zm171 dX10_quiet_131 f10_75 k173_10 t10_29 (rr173_29 b) rfl).trans ?_
  refine (ze_aload_n 135 zm171 dX10_quiet_134 rfl rfl).trans ?_
  refine (ze_iload 137 zm171 dX10_quiet_135 rfl rfl).trans ?_
  refine (ze_iload_n 138 zm171 dX10_quiet_137 rfl rfl).trans ?_
  exact ze_virtI (as := [.int v6, .int v2]) (rest := [.ref 195, .int s0]) 141 zm171 dX10_quiet_138 r10_161 zm137 rfl rfl k173_10 rfl rfl rfl rfl
theorem b171_141 (sc : zScr) (v1 : Int32) (v2 : Int32) (v3 : Int32) (v4 : Int32) (v5 : Int32) (v6 : Int32) (w7 : Option Value) (s0 : Int32) (s2 : Int32) (i : Nat → Nat → Int32) (b : Bool) (l : Nat → Nat → Int64) (h1 : vp_in s0 8) (h2 : vp_in v2 8) : zev sc (171, 141, [some (.ref 173), some (.int v1), some (.int v2), some (.int v3), some (.int v4), some (.int v5), some (.int v6), w7], [.int s0, .ref 195, .int s2], (197, i, (zRF b), l)) = if (s2 + (i 195 s0.toNatClampNeg)) = (i 195 v2.toNatClampNeg) then zev sc (171, 152, [some (.ref 173), some (.int v1), some (.int v2), some (.int v3), some (.int v4), some (.int v5), some (.int v6), w7], [], (197, i, (zRF b), l)) else zev sc (171, 156, [some (.ref 173), some (.int v1), some (.int v2), some (.int v3), some (.int v4), some (.int v5), some (.int v6), w7], [], (197, i, (zRF b), l)) := by
  refine (ze_iaload (t := s0.toNatClampNeg) 142 zm171 dX10_quiet_141 k195_100 n195 h1 rfl rfl).trans ?_
  refine (ze_iadd 143 zm171 dX10_quiet_142 rfl).trans ?_
  refine (ze_aload_n 144 zm171 dX10_quiet_143 rfl rfl).trans ?_
  refine (ze_getR 147 zm171 dX10_quiet_144 f10_75 k173_10 t10_29 (rr173_29 b) rfl).trans ?_
  refine (ze_iload_n 148 zm171 dX10_quiet_147 rfl rfl).trans ?_
  refine (ze_iaload (t := v2.toNatClampNeg) 149 zm171 dX10_quiet_148 k195_100 n195 h2 rfl rfl).trans ?_
  exact ze_icmp_ne 156 152 zm171 dX10_quiet_149 (by decide) rfl
theorem b171_152 (sc : zScr) (v1 : Int32) (v2 : Int32) (v3 : Int32) (v4 : Int32) (v5 : Int32) (v6 : Int32) (w7 : Option Value) (i : Nat → Nat → Int32) (b : Bool) (l : Nat → Nat → Int64) : zev sc (171, 152, [some (.ref 173), some (.int v1), some (.int v2), some (.int v3), some (.int v4), some (.int v5), some (.int v6), w7], [], (197, i, (zRF b), l)) = zev sc (171, 157, [some (.ref 173), some (.int v1), some (.int v2), some (.int v3), some (.int v4), some (.int v5), some (.int v6), w7], [.int (1 : Int32)], (197, i, (zRF b), l)) := by
  refine (ze_iconst 153 zm171 dX10_quiet_152 ci_1 rfl).trans ?_
  exact ze_goto 157 zm171 dX10_quiet_153 (by decide)
theorem b171_156 (sc : zScr) (v1 : Int32) (v2 : Int32) (v3 : Int32) (v4 : Int32) (v5 : Int32) (v6 : Int32) (w7 : Option Value) (i : Nat → Nat → Int32) (b : Bool) (l : Nat → Nat → Int64) : zev sc (171, 156, [some (.ref 173), some (.int v1), some (.int v2), some (.int v3), some (.int v4), some (.int v5), some (.int v6), w7], [], (197, i, (zRF b), l)) = zev sc (171, 157, [some (.ref 173), some (.int v1), some (.int v2), some (.int v3), some (.int v4), some (.int v5), some (.int v6), w7], [.int (0 : Int32)], (197, i, (zRF b), l)) := by
  refine (ze_iconst 157 zm171 dX10_quiet_156 ci_0 rfl).trans ?_
  rfl
theorem b171_157 (sc : zScr) (v1 : Int32) (v2 : Int32) (v3 : Int32) (v4 : Int32) (v5 : Int32) (v6 : Int32) (w7 : Option Value) (s0 : Int32) (i : Nat → Nat → Int32) (b : Bool) (l : Nat → Nat → Int64) : zev sc (171, 157, [some (.ref 173), some (.int v1), some (.int v2), some (.int v3), some (.int v4), some (.int v5), some (.int v6), w7], [.int s0], (197, i, (zRF b), l)) = if s0 = 0 then zev sc (171, 169, [some (.ref 173), some (.int v1), some (.int v2), some (.int v3), some (.int v4), some (.int v5), some (.int v6), some (.int s0)], [], (197, i, (zRF b), l)) else zev sc (171, 164, [some (.ref 173), some (.int v1), some (.int v2), some (.int v3), some (.int v4), some (.int v5), some (.int v6), some (.int s0)], [], (197, i, (zRF b), l)) := by
  refine (ze_istore (A := 99) (ls' := [some (.ref 173), some (.int v1), some (.int v2), some (.int v3), some (.int v4), some (.int v5), some (.int v6), some (.int s0)]) 159 zm171 dX10_quiet_157 za171 rfl rfl rfl rfl rfl).trans ?_
  refine (ze_iload 161 zm171 dX10_quiet_159 rfl rfl).trans ?_
  exact ze_if_eq 169 164 zm171 dX10_quiet_161 (by decide) rfl
theorem b171_164 (sc : zScr) (v1 : Int32) (v2 : Int32) (v3 : Int32) (v4 : Int32) (v5 : Int32) (v6 : Int32) (v7 : Int32) (i : Nat → Nat → Int32) (b : Bool) (l : Nat → Nat → Int64) : zev sc (171, 164, [some (.ref 173), some (.int v1), some (.int v2), some (.int v3), some (.int v4), some (.int v5), some (.int v6), some (.int v7)], [], (197, i, (zRF b), l)) = zev sc (171, 171, [some (.ref 173), some (.int v1), some (.int v2), some (.int v3), some (.int v4), some (.int v5), some (.int v6), some (.int v7)], [.int v6], (197, i, (zRF b), l)) := by
  refine (ze_iload 166 zm171 dX10_quiet_164 rfl rfl).trans ?_
  exact ze_goto 171 zm171 dX10_quiet_166 (by decide)
theorem b171_169 (sc : zScr) (v1 : Int32) (v2 : Int32) (v3 : Int32) (v4 : Int32) (v5 : Int32) (v6 : Int32) (v7 : Int32) (i : Nat → Nat → Int32) (b : Bool) (l : Nat → Nat → Int64) : zev sc (171, 169, [some (.ref 173), some (.int v1), some (.int v2), some (.int v3), some (.int v4), some (.int v5), some (.int v6), some (.int v7)], [], (197, i, (zRF b), l)) = zev sc (171, 171, [some (.ref 173), some (.int v1), some (.int v2), some (.int v3), some (.int v4), some (.int v5), some (.int v6), some (.int v7)], [.int v5], (197, i, (zRF b), l)) := by
  refine (ze_iload 171 zm171 dX10_quiet_169 rfl rfl).trans ?_
  rfl
theorem b171_171 (sc : zScr) (v1 : Int32) (v2 : Int32) (v3 : Int32) (v4 : Int32) (v5 : Int32) (v6 : Int32) (v7 : Int32) (s0 : Int32) (i : Nat → Nat → Int32) (b : Bool) (l : Nat → Nat → Int64) : zev sc (171, 171, [some (.ref 173), some (.int v1), some (.int v2), some (.int v3), some (.int v4), some (.int v5), some (.int v6), some (.int v7)], [.int s0], (197, i, (zRF b), l)) = zev sc (171, 103, [some (.ref 173), some (.int v1), some (.int v2), some (.int v3), some (.int v4), some (.int s0), some (.int (v6 + (-1))), some (.int v7)], [], (197, i, (zRF b), l)) := by
  refine (ze_istore (A := 99) (ls' := [some (.ref 173), some (.int v1), some (.int v2), some (.int v3), some (.int v4), some (.int s0), some (.int v6), some (.int v7)]) 173 zm171 dX10_quiet_171 za171 rfl rfl rfl rfl rfl).trans ?_
  refine (ze_iinc (v := (-1 : Int32)) (A := 99) (ls' := [some (.ref 173), some (.int v1), some (.int v2), some (.int v3), some (.int v4), some (.int s0), some (.int (v6 + (-1))), some (.int v7)]) 176 zm171 dX10_quiet_173 rfl ci_m1 za171 rfl rfl rfl rfl rfl).trans ?_
  exact ze_goto 103 zm171 dX10_quiet_176 (by decide)
theorem b171_179 (sc : zScr) (v1 : Int32) (v2 : Int32) (v3 : Int32) (v4 : Int32) (v5 : Int32) (v6 : Int32) (w7 : Option Value) (i : Nat → Nat → Int32) (b : Bool) (l : Nat → Nat → Int64) : zev sc (171, 179, [some (.ref 173), some (.int v1), some (.int v2), some (.int v3), some (.int v4), some (.int v5), some (.int v6), w7], [], (197, i, (zRF b), l)) = some (.int v5, (197, i, (zRF b), l)) := by
  refine (ze_iload 181 zm171 dX10_quiet_179 rfl rfl).trans ?_
  exact ze_ireturn zm171 dX10_quiet_181 rfl
/-! HarpFencesModel.fifthsOf (I)I: method 172 -/
theorem b172_0 (sc : zScr) (v1 : Int32) (i : Nat → Nat → Int32) (b : Bool) (l : Nat → Nat → Int64) : zev sc (172, 0, [some (.ref 173), some (.int v1), none, none, none, none, none], [], (197, i, (zRF b), l)) = zev sc (172, 4, [some (.ref 173), some (.int v1), some (.int (0 : Int32)), some (.int (0 : Int32)), none, none, none], [], (197, i, (zRF b), l)) := by
  refine (ze_iconst 1 zm172 dX10_fifthsOf_0 ci_0 rfl).trans ?_
  refine (ze_istore_n (A := 99) (ls' := [some (.ref 173), some (.int v1), some (.int (0 : Int32)), none, none, none, none]) 2 zm172 dX10_fifthsOf_1 za172 rfl rfl rfl rfl rfl).trans ?_
  refine (ze_iconst 3 zm172 dX10_fifthsOf_2 ci_0 rfl).trans ?_
  refine (ze_istore_n (A := 99) (ls' := [some (.ref 173), some (.int v1), some (.int (0 : Int32)), some (.int (0 : Int32)), none, none, none]) 4 zm172 dX10_fifthsOf_3 za172 rfl rfl rfl rfl rfl).trans ?_
  rfl
theorem b172_4 (sc : zScr) (v1 : Int32) (v2 : Int32) (v3 : Int32) (w4 : Option Value) (w5 : Option Value) (w6 : Option Value) (i : Nat → Nat → Int32) (b : Bool) (l : Nat → Nat → Int64) : zev sc (172, 4, [some (.ref 173), some (.int v1), some (.int v2), some (.int v3), w4, w5, w6], [], (197, i, (zRF b), l)) = if (i 176 0) ≤ v3 then zev sc (172, 134, [some (.ref 173), some (.int v1), some (.int v2), some (.int v3), w4, w5, w6], [], (197, i, (zRF b), l)) else zev sc (172, 14, [some (.ref 173), some (.int v1), some (.int v2), some (.int v3), w4, w5, w6], [], (197, i, (zRF b), l)) := by
  refine (ze_iload_n 5 zm172 dX10_fifthsOf_4 rfl rfl).trans ?_
  refine (ze_aload_n 6 zm172 dX10_fifthsOf_5 rfl rfl).trans ?_
  refine (ze_getR 9 zm172 dX10_fifthsOf_6 f10_17 k173_10 t10_3 (rr173_3 b) rfl).trans ?_
  refine (ze_iconst 10 zm172 dX10_fifthsOf_9 ci_0 rfl).trans ?_
  refine (ze_iaload (t := 0) 11 zm172 dX10_fifthsOf_10 k176_100 n176 vi_0_2 tn_0 rfl).trans ?_
  exact ze_icmp_ge 134 14 zm172 dX10_fifthsOf_11 (by decide) rfl
theorem b172_14 (sc : zScr) (v1 : Int32) (v2 : Int32) (v3 : Int32) (w4 : Option Value) (w5 : Option Value) (w6 : Option Value) (i : Nat → Nat → Int32) (b : Bool) (l : Nat → Nat → Int64) : zev sc (172, 14, [some (.ref 173), some (.int v1), some (.int v2), some (.int v3), w4, w5, w6], [], (197, i, (zRF b), l)) = zev sc (172, 19, [some (.ref 173), some (.int v1), some (.int v2), some (.int v3), some (.int (v3 + (1 : Int32))), w5, w6], [], (197, i, (zRF b), l)) := by
  refine (ze_iload_n 15 zm172 dX10_fifthsOf_14 rfl rfl).trans ?_
  refine (ze_iconst 16 zm172 dX10_fifthsOf_15 ci_1 rfl).trans ?_
  refine (ze_iadd 17 zm172 dX10_fifthsOf_16 rfl).trans ?_
  refine (ze_istore (A := 99) (ls' := [some (.ref 173), some (.int v1), some (.int v2), some (.int v3), some (.int (v3 + (1 : Int32))), w5, w6]) 19 zm172 dX10_fifthsOf_17 za172 rfl rfl rfl rfl rfl).trans ?_
  rfl
theorem b172_19 (sc : zScr) (v1 : Int32) (v2 : Int32) (v3 : Int32) (v4 : Int32) (w5 : Option Value) (w6 : Option Value) (i : Nat → Nat → Int32) (b : Bool) (l : Nat → Nat → Int64) : zev sc (172, 19, [some (.ref 173), some (.int v1), some (.int v2), some (.int v3), some (.int v4), w5, w6], [], (197, i, (zRF b), l)) = if (i 176 0) ≤ v4 then zev sc (172, 128, [some (.ref 173), some (.int v1), some (.int v2), some (.int v3), some (.int v4), w5, w6], [], (197, i, (zRF b), l)) else zev sc (172, 30, [some (.ref 173), some (.int v1), some (.int v2), some (.int v3), some (.int v4), w5, w6], [], (197, i, (zRF b), l)) := by
  refine (ze_iload 21 zm172 dX10_fifthsOf_19 rfl rfl).trans ?_
  refine (ze_aload_n 22 zm172 dX10_fifthsOf_21 rfl rfl).trans ?_
  refine (ze_getR 25 zm172 dX10_fifthsOf_22 f10_17 k173_10 t10_3 (rr173_3 b) rfl).trans ?_
  refine (ze_iconst 26 zm172 dX10_fifthsOf_25 ci_0 rfl).trans ?_
  refine (ze_iaload (t := 0) 27 zm172 dX10_fifthsOf_26 k176_100 n176 vi_0_2 tn_0 rfl).trans ?_
  exact ze_icmp_ge 128 30 zm172 dX10_fifthsOf_27 (by decide) rfl
theorem b172_30 (sc : zScr) (v1 : Int32) (v2 : Int32) (v3 : Int32) (v4 : Int32) (w5 : Option Value) (w6 : Option Value) (i : Nat → Nat → Int32) (b : Bool) (l : Nat → Nat → Int64) (h1 : vp_in ((6 : Int32) + v3) 30) (h2 : vp_in ((6 : Int32) + v4) 30) : zev sc (172, 30, [some (.ref 173), some (.int v1), some (.int v2), some (.int v3), some (.int v4), w5, w6], [], (197, i, (zRF b), l)) = (zev sc (136, 0, [some (.ref 173), some (.int v3), some (.int v1)], [], (197, i, (zRF b), l))).bind (fun x => zev sc (172, 58, [some (.ref 173), some (.int v1), some (.int v2), some (.int v3), some (.int v4), some (.int ((i 187 (((6 : Int32) + v3)).toNatClampNeg) - (i 187 (((6 : Int32) + v4)).toNatClampNeg))), w6], [x.1], x.2)) := by
  refine (ze_aload_n 31 zm172 dX10_fifthsOf_30 rfl rfl).trans ?_
  refine (ze_getR 34 zm172 dX10_fifthsOf_31 f10_50 k173_10 t10_20 (rr173_20 b) rfl).trans ?_
  refine (ze_bipush 36 zm172 dX10_fifthsOf_34 cb_6 rfl).trans ?_
  refine (ze_iload_n 37 zm172 dX10_fifthsOf_36 rfl rfl).trans ?_
  refine (ze_iadd 38 zm172 dX10_fifthsOf_37 rfl).trans ?_
  refine (ze_iaload (t := (((6 : Int32) + v3)).toNatClampNeg) 39 zm172 dX10_fifthsOf_38 k187_100 n187 h1 rfl rfl).trans ?_
  refine (ze_aload_n 40 zm172 dX10_fifthsOf_39 rfl rfl).trans ?_
  refine (ze_getR 43 zm172 dX10_fifthsOf_40 f10_50 k173_10 t10_20 (rr173_20 b) rfl).trans ?_
  refine (ze_bipush 45 zm172 dX10_fifthsOf_43 cb_6 rfl).trans ?_
  refine (ze_iload 47 zm172 dX10_fifthsOf_45 rfl rfl).trans ?_
  refine (ze_iadd 48 zm172 dX10_fifthsOf_47 rfl).trans ?_
  refine (ze_iaload (t := (((6 : Int32) + v4)).toNatClampNeg) 49 zm172 dX10_fifthsOf_48 k187_100 n187 h2 rfl rfl).trans ?_
  refine (ze_isub 50 zm172 dX10_fifthsOf_49 rfl).trans ?_
  refine (ze_istore (A := 99) (ls' := [some (.ref 173), some (.int v1), some (.int v2), some (.int v3), some (.int v4), some (.int ((i 187 (((6 : Int32) + v3)).toNatClampNeg) - (i 187 (((6 : Int32) + v4)).toNatClampNeg))), w6]) 52 zm172 dX10_fifthsOf_50 za172 rfl rfl rfl rfl rfl).trans ?_
  refine (ze_aload_n 53 zm172 dX10_fifthsOf_52 rfl rfl).trans ?_
  refine (ze_iload_n 54 zm172 dX10_fifthsOf_53 rfl rfl).trans ?_
  refine (ze_iload_n 55 zm172 dX10_fifthsOf_54 rfl rfl).trans ?_
  exact ze_virtI (as := [.int v3, .int v1]) (rest := []) 58 zm172 dX10_fifthsOf_55 r10_155 zm136 rfl rfl k173_10 rfl rfl rfl rfl
theorem b172_58 (sc : zScr) (v1 : Int32) (v2 : Int32) (v3 : Int32) (v4 : Int32) (v5 : Int32) (w6 : Option Value) (s0 : Int32) (i : Nat → Nat → Int32) (b : Bool) (l : Nat → Nat → Int64) : zev sc (172, 58, [some (.ref 173), some (.int v1), some (.int v2), some (.int v3), some (.int v4), some (.int v5), w6], [.int s0], (197, i, (zRF b), l)) = if s0 = 0 then zev sc (172, 92, [some (.ref 173), some (.int v1), some (.int v2), some (.int v3), some (.int v4), some (.int v5), w6], [], (197, i, (zRF b), l)) else zev sc (172, 61, [some (.ref 173), some (.int v1), some (.int v2), some (.int v3), some (.int v4), some (.int v5), w6], [], (197, i, (zRF b), l)) := by
  exact ze_if_eq 92 61 zm172 dX10_fifthsOf_58 (by decide) rfl
theorem b172_61 (sc : zScr) (v1 : Int32) (v2 : Int32) (v3 : Int32) (v4 : Int32) (v5 : Int32) (w6 : Option Value) (i : Nat → Nat → Int32) (b : Bool) (l : Nat → Nat → Int64) : zev sc (172, 61, [some (.ref 173), some (.int v1), some (.int v2), some (.int v3), some (.int v4), some (.int v5), w6], [], (197, i, (zRF b), l)) = (zev sc (136, 0, [some (.ref 173), some (.int v4), some (.int v1)], [], (197, i, (zRF b), l))).bind (fun x => zev sc (172, 68, [some (.ref 173), some (.int v1), some (.int v2), some (.int v3), some (.int v4), some (.int v5), w6], [x.1], x.2)) := by
  refine (ze_aload_n 62 zm172 dX10_fifthsOf_61 rfl rfl).trans ?_
  refine (ze_iload 64 zm172 dX10_fifthsOf_62 rfl rfl).trans ?_
  refine (ze_iload_n 65 zm172 dX10_fifthsOf_64 rfl rfl).trans ?_
  exact ze_virtI (as := [.int v4, .int v1]) (rest := []) 68 zm172 dX10_fifthsOf_65 r10_155 zm136 rfl rfl k173_10 rfl rfl rfl rfl
theorem b172_68 (sc : zScr) (v1 : Int32) (v2 : Int32) (v3 : Int32) (v4 : Int32) (v5 : Int32) (w6 : Option Value) (s0 : Int32) (i : Nat → Nat → Int32) (b : Bool) (l : Nat → Nat → Int64) : zev sc (172, 68, [some (.ref 173), some (.int v1), some (.int v2), some (.int v3), some (.int v4), some (.int v5), w6], [.int s0], (197, i, (zRF b), l)) = if s0 = 0 then zev sc (172, 92, [some (.ref 173), some (.int v1), some (.int v2), some (.int v3), some (.int v4), some (.int v5), w6], [], (197, i, (zRF b), l)) else zev sc (172, 71, [some (.ref 173), some (.int v1), some (.int v2), some (.int v3), some (.int v4), some (.int v5), w6], [], (197, i, (zRF b), l)) := by
  exact ze_if_eq 92 71 zm172 dX10_fifthsOf_68 (by decide) rfl
theorem b172_71 (sc : zScr) (v1 : Int32) (v2 : Int32) (v3 : Int32) (v4 : Int32) (v5 : Int32) (w6 : Option Value) (i : Nat → Nat → Int32) (b : Bool) (l : Nat → Nat → Int64) : zev sc (172, 71, [some (.ref 173), some (.int v1), some (.int v2), some (.int v3), some (.int v4), some (.int v5), w6], [], (197, i, (zRF b), l)) = (zev sc (138, 0, [some (.ref 173), some (.int v3)], [], (197, i, (zRF b), l))).bind (fun x => zev sc (172, 76, [some (.ref 173), some (.int v1), some (.int v2), some (.int v3), some (.int v4), some (.int v5), w6], [x.1], x.2)) := by
  refine (ze_aload_n 72 zm172 dX10_fifthsOf_71 rfl rfl).trans ?_
  refine (ze_iload_n 73 zm172 dX10_fifthsOf_72 rfl rfl).trans ?_
  exact ze_virtI (as := [.int v3]) (rest := []) 76 zm172 dX10_fifthsOf_73 r10_174 zm138 rfl rfl k173_10 rfl rfl rfl rfl
theorem b172_76 (sc : zScr) (v1 : Int32) (v2 : Int32) (v3 : Int32) (v4 : Int32) (v5 : Int32) (w6 : Option Value) (s0 : Int32) (i : Nat → Nat → Int32) (b : Bool) (l : Nat → Nat → Int64) : zev sc (172, 76, [some (.ref 173), some (.int v1), some (.int v2), some (.int v3), some (.int v4), some (.int v5), w6], [.int s0], (197, i, (zRF b), l)) = if s0 = 0 then zev sc (172, 92, [some (.ref 173), some (.int v1), some (.int v2), some (.int v3), some (.int v4), some (.int v5), w6], [], (197, i, (zRF b), l)) else zev sc (172, 79, [some (.ref 173), some (.int v1), some (.int v2), some (.int v3), some (.int v4), some (.int v5), w6], [], (197, i, (zRF b), l)) := by
  exact ze_if_eq 92 79 zm172 dX10_fifthsOf_76 (by decide) rfl
theorem b172_79 (sc : zScr) (v1 : Int32) (v2 : Int32) (v3 : Int32) (v4 : Int32) (v5 : Int32) (w6 : Option Value) (i : Nat → Nat → Int32) (b : Bool) (l : Nat → Nat → Int64) : zev sc (172, 79, [some (.ref 173), some (.int v1), some (.int v2), some (.int v3), some (.int v4), some (.int v5), w6], [], (197, i, (zRF b), l)) = (zev sc (138, 0, [some (.ref 173), some (.int v4)], [], (197, i, (zRF b), l))).bind (fun x => zev sc (172, 85, [some (.ref 173), some (.int v1), some (.int v2), some (.int v3), some (.int v4), some (.int v5), w6], [x.1], x.2)) := by
  refine (ze_aload_n 80 zm172 dX10_fifthsOf_79 rfl rfl).trans ?_
  refine (ze_iload 82 zm172 dX10_fifthsOf_80 rfl rfl).trans ?_
  exact ze_virtI (as := [.int v4]) (rest := []) 85 zm172 dX10_fifthsOf_82 r10_174 zm138 rfl rfl k173_10 rfl rfl rfl rfl
theorem b172_85 (sc : zScr) (v1 : Int32) (v2 : Int32) (v3 : Int32) (v4 : Int32) (v5 : Int32) (w6 : Option Value) (s0 : Int32) (i : Nat → Nat → Int32) (b : Bool) (l : Nat → Nat → Int64) : zev sc (172, 85, [some (.ref 173), some (.int v1), some (.int v2), some (.int v3), some (.int v4), some (.int v5), w6], [.int s0], (197, i, (zRF b), l)) = if s0 = 0 then zev sc (172, 92, [some (.ref 173), some (.int v1), some (.int v2), some (.int v3), some (.int v4), some (.int v5), w6], [], (197, i, (zRF b), l)) else zev sc (172, 88, [some (.ref 173), some (.int v1), some (.int v2), some (.int v3), some (.int v4), some (.int v5), w6], [], (197, i, (zRF b), l)) := by
  exact ze_if_eq 92 88 zm172 dX10_fifthsOf_85 (by decide) rfl
theorem b172_88 (sc : zScr) (v1 : Int32) (v2 : Int32) (v3 : Int32) (v4 : Int32) (v5 : Int32) (w6 : Option Value) (i : Nat → Nat → Int32) (b : Bool) (l : Nat → Nat → Int64) : zev sc (172, 88, [some (.ref 173), some (.int v1), some (.int v2), some (.int v3), some (.int v4), some (.int v5), w6], [], (197, i, (zRF b), l)) = zev sc (172, 93, [some (.ref 173), some (.int v1), some (.int v2), some (.int v3), some (.int v4), some (.int v5), w6], [.int (1 : Int32)], (197, i, (zRF b), l)) := by
  refine (ze_iconst 89 zm172 dX10_fifthsOf_88 ci_1 rfl).trans ?_
  exact ze_goto 93 zm172 dX10_fifthsOf_89 (by decide)
theorem b172_92 (sc : zScr) (v1 : Int32) (v2 : Int32) (v3 : Int32) (v4 : Int32) (v5 : Int32) (w6 : Option Value) (i : Nat → Nat → Int32) (b : Bool) (l : Nat → Nat → Int64) : zev sc (172, 92, [some (.ref 173), some (.int v1), some (.int v2), some (.int v3), some (.int v4), some (.int v5), w6], [], (197, i, (zRF b), l)) = zev sc (172, 93, [some (.ref 173), some (.int v1), some (.int v2), some (.int v3), some (.int v4), some (.int v5), w6], [.int (0 : Int32)], (197, i, (zRF b), l)) := by
  refine (ze_iconst 93 zm172 dX10_fifthsOf_92 ci_0 rfl).trans ?_
  rfl
theorem b172_93 (sc : zScr) (v1 : Int32) (v2 : Int32) (v3 : Int32) (v4 : Int32) (v5 : Int32) (w6 : Option Value) (s0 : Int32) (i : Nat → Nat → Int32) (b : Bool) (l : Nat → Nat → Int64) : zev sc (172, 93, [some (.ref 173), some (.int v1), some (.int v2), some (.int v3), some (.int v4), some (.int v5), w6], [.int s0], (197, i, (zRF b), l)) = if s0 = 0 then zev sc (172, 119, [some (.ref 173), some (.int v1), some (.int v2), some (.int v3), some (.int v4), some (.int v5), some (.int s0)], [.int v2], (197, i, (zRF b), l)) else zev sc (172, 101, [some (.ref 173), some (.int v1), some (.int v2), some (.int v3), some (.int v4), some (.int v5), some (.int s0)], [.int v2], (197, i, (zRF b), l)) := by
  refine (ze_istore (A := 99) (ls' := [some (.ref 173), some (.int v1), some (.int v2), some (.int v3), some (.int v4), some (.int v5), some (.int s0)]) 95 zm172 dX10_fifthsOf_93 za172 rfl rfl rfl rfl rfl).trans ?_
  refine (ze_iload_n 96 zm172 dX10_fifthsOf_95 rfl rfl).trans ?_
  refine (ze_iload 98 zm172 dX10_fifthsOf_96 rfl rfl).trans ?_
  exact ze_if_eq 119 101 zm172 dX10_fifthsOf_98 (by decide) rfl
theorem b172_101 (sc : zScr) (v1 : Int32) (v2 : Int32) (v3 : Int32) (v4 : Int32) (v5 : Int32) (v6 : Int32) (s0 : Int32) (i : Nat → Nat → Int32) (b : Bool) (l : Nat → Nat → Int64) : zev sc (172, 101, [some (.ref 173), some (.int v1), some (.int v2), some (.int v3), some (.int v4), some (.int v5), some (.int v6)], [.int s0], (197, i, (zRF b), l)) = if v5 = (7 : Int32) then zev sc (172, 115, [some (.ref 173), some (.int v1), some (.int v2), some (.int v3), some (.int v4), some (.int v5), some (.int v6)], [.int s0], (197, i, (zRF b), l)) else zev sc (172, 108, [some (.ref 173), some (.int v1), some (.int v2), some (.int v3), some (.int v4), some (.int v5), some (.int v6)], [.int s0], (197, i, (zRF b), l)) := by
  refine (ze_iload 103 zm172 dX10_fifthsOf_101 rfl rfl).trans ?_
  refine (ze_bipush 105 zm172 dX10_fifthsOf_103 cb_7 rfl).trans ?_
  exact ze_icmp_eq 115 108 zm172 dX10_fifthsOf_105 (by decide) rfl
theorem b172_108 (sc : zScr) (v1 : Int32) (v2 : Int32) (v3 : Int32) (v4 : Int32) (v5 : Int32) (v6 : Int32) (s0 : Int32) (i : Nat → Nat → Int32) (b : Bool) (l : Nat → Nat → Int64) : zev sc (172, 108, [some (.ref 173), some (.int v1), some (.int v2), some (.int v3), some (.int v4), some (.int v5), some (.int v6)], [.int s0], (197, i, (zRF b), l)) = if v5 = (-7 : Int32) then zev sc (172, 115, [some (.ref 173), some (.int v1), some (.int v2), some (.int v3), some (.int v4), some (.int v5), some (.int v6)], [.int s0], (197, i, (zRF b), l)) else zev sc (172, 119, [some (.ref 173), some (.int v1), some (.int v2), some (.int v3), some (.int v4), some (.int v5), some (.int v6)], [.int s0], (197, i, (zRF b), l)) := by
  refine (ze_iload 110 zm172 dX10_fifthsOf_108 rfl rfl).trans ?_
  refine (ze_bipush 112 zm172 dX10_fifthsOf_110 cb_m7 rfl).trans ?_
  exact ze_icmp_ne 119 115 zm172 dX10_fifthsOf_112 (by decide) rfl
theorem b172_115 (sc : zScr) (v1 : Int32) (v2 : Int32) (v3 : Int32) (v4 : Int32) (v5 : Int32) (v6 : Int32) (s0 : Int32) (i : Nat → Nat → Int32) (b : Bool) (l : Nat → Nat → Int64) : zev sc (172, 115, [some (.ref 173), some (.int v1), some (.int v2), some (.int v3), some (.int v4), some (.int v5), some (.int v6)], [.int s0], (197, i, (zRF b), l)) = zev sc (172, 120, [some (.ref 173), some (.int v1), some (.int v2), some (.int v3), some (.int v4), some (.int v5), some (.int v6)], [.int (1 : Int32), .int s0], (197, i, (zRF b), l)) := by
  refine (ze_iconst 116 zm172 dX10_fifthsOf_115 ci_1 rfl).trans ?_
  exact ze_goto 120 zm172 dX10_fifthsOf_116 (by decide)
theorem b172_119 (sc : zScr) (v1 : Int32) (v2 : Int32) (v3 : Int32) (v4 : Int32) (v5 : Int32) (v6 : Int32) (s0 : Int32) (i : Nat → Nat → Int32) (b : Bool) (l : Nat → Nat → Int64) : zev sc (172, 119, [some (.ref 173), some (.int v1), some (.int v2), some (.int v3), some (.int v4), some (.int v5), some (.int v6)], [.int s0], (197, i, (zRF b), l)) = zev sc (172, 120, [some (.ref 173), some (.int v1), some (.int v2), some (.int v3), some (.int v4), some (.int v5), some (.int v6)], [.int (0 : Int32), .int s0], (197, i, (zRF b), l)) := by
  refine (ze_iconst 120 zm172 dX10_fifthsOf_119 ci_0 rfl).trans ?_
  rfl
theorem b172_120 (sc : zScr) (v1 : Int32) (v2 : Int32) (v3 : Int32) (v4 : Int32) (v5 : Int32) (v6 : Int32) (s0 : Int32) (s1 : Int32) (i : Nat → Nat → Int32) (b : Bool) (l : Nat → Nat → Int64) : zev sc (172, 120, [some (.ref 173), some (.int v1), some (.int v2), some (.int v3), some (.int v4), some (.int v5), some (.int v6)], [.int s0, .int s1], (197, i, (zRF b), l)) = zev sc (172, 19, [some (.ref 173), some (.int v1), some (.int (s1 + s0)), some (.int v3), some (.int (v4 + 1)), some (.int v5), some (.int v6)], [], (197, i, (zRF b), l)) := by
  refine (ze_iadd 121 zm172 dX10_fifthsOf_120 rfl).trans ?_
  refine (ze_istore_n (A := 99) (ls' := [some (.ref 173), some (.int v1), some (.int (s1 + s0)), some (.int v3), some (.int v4), some (.int v5), some (.int v6)]) 122 zm172 dX10_fifthsOf_121 za172 rfl rfl rfl rfl rfl).trans ?_
  refine (ze_iinc (v := (1 : Int32)) (A := 99) (ls' := [some (.ref 173), some (.int v1), some (.int (s1 + s0)), some (.int v3), some (.int (v4 + 1)), some (.int v5), some (.int v6)]) 125 zm172 dX10_fifthsOf_122 rfl ci_1 za172 rfl rfl rfl rfl rfl).trans ?_
  exact ze_goto 19 zm172 dX10_fifthsOf_125 (by decide)
theorem b172_128 (sc : zScr) (v1 : Int32) (v2 : Int32) (v3 : Int32) (v4 : Int32) (w5 : Option Value) (w6 : Option Value) (i : Nat → Nat → Int32) (b : Bool) (l : Nat → Nat → Int64) : zev sc (172, 128, [some (.ref 173), some (.int v1), some (.int v2), some (.int v3), some (.int v4), w5, w6], [], (197, i, (zRF b), l)) = zev sc (172, 4, [some (.ref 173), some (.int v1), some (.int v2), some (.int (v3 + 1)), some (.int v4), w5, w6], [], (197, i, (zRF b), l)) := by
  refine (ze_iinc (v := (1 : Int32)) (A := 99) (ls' := [some (.ref 173), some (.int v1), some (.int v2), some (.int (v3 + 1)), some (.int v4), w5, w6]) 131 zm172 dX10_fifthsOf_128 rfl ci_1 za172 rfl rfl rfl rfl rfl).trans ?_
  exact ze_goto 4 zm172 dX10_fifthsOf_131 (by decide)
theorem b172_134 (sc : zScr) (v1 : Int32) (v2 : Int32) (v3 : Int32) (w4 : Option Value) (w5 : Option Value) (w6 : Option Value) (i : Nat → Nat → Int32) (b : Bool) (l : Nat → Nat → Int64) : zev sc (172, 134, [some (.ref 173), some (.int v1), some (.int v2), some (.int v3), w4, w5, w6], [], (197, i, (zRF b), l)) = some (.int v2, (197, i, (zRF b), l)) := by
  refine (ze_iload_n 135 zm172 dX10_fifthsOf_134 rfl rfl).trans ?_
  exact ze_ireturn zm172 dX10_fifthsOf_135 rfl
/-! HarpFencesModel.fifths (I)I: method 173 -/
theorem b173_0 (sc : zScr) (v1 : Int32) (i : Nat → Nat → Int32) (b : Bool) (l : Nat → Nat → Int64) : zev sc (173, 0, [some (.ref 173), some (.int v1)], [], (197, i, (zRF b), l)) = (zev sc (131, 0, [some (.ref 173), some (.int v1)], [], (197, i, (zRF b), l))).bind (fun x => zev sc (173, 5, [some (.ref 173), some (.int v1)], [x.1], x.2)) := by
  refine (ze_aload_n 1 zm173 dX10_fifths_0 rfl rfl).trans ?_
  refine (ze_iload_n 2 zm173 dX10_fifths_1 rfl rfl).trans ?_
  exact ze_virtI (as := [.int v1]) (rest := []) 5 zm173 dX10_fifths_2 r10_192 zm131 rfl rfl k173_10 rfl rfl rfl rfl
theorem b173_5 (sc : zScr) (v1 : Int32) (s0 : Int32) (i : Nat → Nat → Int32) (b : Bool) (l : Nat → Nat → Int64) : zev sc (173, 5, [some (.ref 173), some (.int v1)], [.int s0], (197, i, (zRF b), l)) = if s0 = 0 then zev sc (173, 16, [some (.ref 173), some (.int v1)], [], (197, i, (zRF b), l)) else zev sc (173, 8, [some (.ref 173), some (.int v1)], [], (197, i, (zRF b), l)) := by
  exact ze_if_eq 16 8 zm173 dX10_fifths_5 (by decide) rfl
theorem b173_8 (sc : zScr) (v1 : Int32) (i : Nat → Nat → Int32) (b : Bool) (l : Nat → Nat → Int64) : zev sc (173, 8, [some (.ref 173), some (.int v1)], [], (197, i, (zRF b), l)) = (zev sc (172, 0, [some (.ref 173), some (.int v1), none, none, none, none, none], [], (197, i, (zRF b), l))).bind (fun x => zev sc (173, 13, [some (.ref 173), some (.int v1)], [x.1], x.2)) := by
  refine (ze_aload_n 9 zm173 dX10_fifths_8 rfl rfl).trans ?_
  refine (ze_iload_n 10 zm173 dX10_fifths_9 rfl rfl).trans ?_
  exact ze_virtI (as := [.int v1]) (rest := []) 13 zm173 dX10_fifths_10 r10_210 zm172 rfl rfl k173_10 rfl rfl rfl rfl
theorem b173_13 (sc : zScr) (v1 : Int32) (s0 : Int32) (i : Nat → Nat → Int32) (b : Bool) (l : Nat → Nat → Int64) : zev sc (173, 13, [some (.ref 173), some (.int v1)], [.int s0], (197, i, (zRF b), l)) = zev sc (173, 17, [some (.ref 173), some (.int v1)], [.int s0], (197, i, (zRF b), l)) := by
  exact ze_goto 17 zm173 dX10_fifths_13 (by decide)
theorem b173_16 (sc : zScr) (v1 : Int32) (i : Nat → Nat → Int32) (b : Bool) (l : Nat → Nat → Int64) : zev sc (173, 16, [some (.ref 173), some (.int v1)], [], (197, i, (zRF b), l)) = zev sc (173, 17, [some (.ref 173), some (.int v1)], [.int (-1 : Int32)], (197, i, (zRF b), l)) := by
  refine (ze_iconst 17 zm173 dX10_fifths_16 ci_m1 rfl).trans ?_
  rfl
theorem b173_17 (sc : zScr) (v1 : Int32) (s0 : Int32) (i : Nat → Nat → Int32) (b : Bool) (l : Nat → Nat → Int64) : zev sc (173, 17, [some (.ref 173), some (.int v1)], [.int s0], (197, i, (zRF b), l)) = some (.int s0, (197, i, (zRF b), l)) := by
  exact ze_ireturn zm173 dX10_fifths_17 rfl
/-! HarpFencesModel.milkBy (III)I: method 174 -/
theorem b174_0 (sc : zScr) (v1 : Int32) (v2 : Int32) (v3 : Int32) (i : Nat → Nat → Int32) (b : Bool) (l : Nat → Nat → Int64) : zev sc (174, 0, [some (.ref 173), some (.int v1), some (.int v2), some (.int v3), none], [], (197, i, (zRF b), l)) = (zev sc (120, 0, [some (.int v3), some (.int v2)], [], (197, i, (zRF b), l))).bind (fun x => zev sc (174, 5, [some (.ref 173), some (.int v1), some (.int v2), some (.int v3), none], [x.1], x.2)) := by
  refine (ze_iload_n 1 zm174 dX10_milkBy_0 rfl rfl).trans ?_
  refine (ze_iload_n 2 zm174 dX10_milkBy_1 rfl rfl).trans ?_
  exact ze_statI (as := [.int v3, .int v2]) (rest := []) 5 zm174 dX10_milkBy_2 r10_137 zm120 rfl rfl rfl rfl rfl rfl
theorem b174_5 (sc : zScr) (v1 : Int32) (v2 : Int32) (v3 : Int32) (s0 : Int32) (i : Nat → Nat → Int32) (b : Bool) (l : Nat → Nat → Int64) : zev sc (174, 5, [some (.ref 173), some (.int v1), some (.int v2), some (.int v3), none], [.int s0], (197, i, (zRF b), l)) = if s0 = 0 then zev sc (174, 13, [some (.ref 173), some (.int v1), some (.int v2), some (.int v3), none], [], (197, i, (zRF b), l)) else zev sc (174, 8, [some (.ref 173), some (.int v1), some (.int v2), some (.int v3), none], [], (197, i, (zRF b), l)) := by
  exact ze_if_eq 13 8 zm174 dX10_milkBy_5 (by decide) rfl
theorem b174_8 (sc : zScr) (v1 : Int32) (v2 : Int32) (v3 : Int32) (i : Nat → Nat → Int32) (b : Bool) (l : Nat → Nat → Int64) : zev sc (174, 8, [some (.ref 173), some (.int v1), some (.int v2), some (.int v3), none], [], (197, i, (zRF b), l)) = zev sc (174, 31, [some (.ref 173), some (.int v1), some (.int v2), some (.int v3), none], [.int (-9 : Int32)], (197, i, (zRF b), l)) := by
  refine (ze_bipush 10 zm174 dX10_milkBy_8 cb_m9 rfl).trans ?_
  exact ze_goto 31 zm174 dX10_milkBy_10 (by decide)
theorem b174_13 (sc : zScr) (v1 : Int32) (v2 : Int32) (v3 : Int32) (i : Nat → Nat → Int32) (b : Bool) (l : Nat → Nat → Int64) (h1 : vp_in (((256 : Int32) * (v1 + (1 : Int32))) + (v3 ||| ((1 : Int32) <<< (v2 &&& 31)))) 1792) : zev sc (174, 13, [some (.ref 173), some (.int v1), some (.int v2), some (.int v3), none], [], (197, i, (zRF b), l)) = zev sc (174, 31, [some (.ref 173), some (.int v1), some (.int v2), some (.int v3), none], [.int (i 196 ((((256 : Int32) * (v1 + (1 : Int32))) + (v3 ||| ((1 : Int32) <<< (v2 &&& 31))))).toNatClampNeg)], (197, i, (zRF b), l)) := by
  refine (ze_aload_n 14 zm174 dX10_milkBy_13 rfl rfl).trans ?_
  refine (ze_getR 17 zm174 dX10_milkBy_14 f10_78 k173_10 t10_30 (rr173_30 b) rfl).trans ?_
  refine (ze_sipush 20 zm174 dX10_milkBy_17 cs_256 rfl).trans ?_
  refine (ze_iload_n 21 zm174 dX10_milkBy_20 rfl rfl).trans ?_
  refine (ze_iconst 22 zm174 dX10_milkBy_21 ci_1 rfl).trans ?_
  refine (ze_iadd 23 zm174 dX10_milkBy_22 rfl).trans ?_
  refine (ze_imul 24 zm174 dX10_milkBy_23 rfl).trans ?_
  refine (ze_iload_n 25 zm174 dX10_milkBy_24 rfl rfl).trans ?_
  refine (ze_iconst 26 zm174 dX10_milkBy_25 ci_1 rfl).trans ?_
  refine (ze_iload_n 27 zm174 dX10_milkBy_26 rfl rfl).trans ?_
  refine (ze_ishl 28 zm174 dX10_milkBy_27 rfl).trans ?_
  refine (ze_ior 29 zm174 dX10_milkBy_28 rfl).trans ?_
  refine (ze_iadd 30 zm174 dX10_milkBy_29 rfl).trans ?_
  refine (ze_iaload (t := ((((256 : Int32) * (v1 + (1 : Int32))) + (v3 ||| ((1 : Int32) <<< (v2 &&& 31))))).toNatClampNeg) 31 zm174 dX10_milkBy_30 k196_100 n196 h1 rfl rfl).trans ?_
  rfl
theorem b174_31 (sc : zScr) (v1 : Int32) (v2 : Int32) (v3 : Int32) (s0 : Int32) (i : Nat → Nat → Int32) (b : Bool) (l : Nat → Nat → Int64) : zev sc (174, 31, [some (.ref 173), some (.int v1), some (.int v2), some (.int v3), none], [.int s0], (197, i, (zRF b), l)) = if s0 = (-9 : Int32) then zev sc (174, 40, [some (.ref 173), some (.int v1), some (.int v2), some (.int v3), some (.int s0)], [], (197, i, (zRF b), l)) else zev sc (174, 45, [some (.ref 173), some (.int v1), some (.int v2), some (.int v3), some (.int s0)], [], (197, i, (zRF b), l)) := by
  refine (ze_istore (A := 99) (ls' := [some (.ref 173), some (.int v1), some (.int v2), some (.int v3), some (.int s0)]) 33 zm174 dX10_milkBy_31 za174 rfl rfl rfl rfl rfl).trans ?_
  refine (ze_iload 35 zm174 dX10_milkBy_33 rfl rfl).trans ?_
  refine (ze_bipush 37 zm174 dX10_milkBy_35 cb_m9 rfl).trans ?_
  exact ze_icmp_ne 45 40 zm174 dX10_milkBy_37 (by decide) rfl
theorem b174_40 (sc : zScr) (v1 : Int32) (v2 : Int32) (v3 : Int32) (v4 : Int32) (i : Nat → Nat → Int32) (b : Bool) (l : Nat → Nat → Int64) : zev sc (174, 40, [some (.ref 173), some (.int v1), some (.int v2), some (.int v3), some (.int v4)], [], (197, i, (zRF b), l)) = zev sc (174, 65, [some (.ref 173), some (.int v1), some (.int v2), some (.int v3), some (.int v4)], [.int (-9 : Int32)], (197, i, (zRF b), l)) := by
  refine (ze_bipush 42 zm174 dX10_milkBy_40 cb_m9 rfl).trans ?_
  exact ze_goto 65 zm174 dX10_milkBy_42 (by decide)
theorem b174_45 (sc : zScr) (v1 : Int32) (v2 : Int32) (v3 : Int32) (v4 : Int32) (i : Nat → Nat → Int32) (b : Bool) (l : Nat → Nat → Int64) (h1 : vp_in v1 12) (h2 : vp_in (i 184 v1.toNatClampNeg) 8) : zev sc (174, 45, [some (.ref 173), some (.int v1), some (.int v2), some (.int v3), some (.int v4)], [], (197, i, (zRF b), l)) = (zev sc (172, 0, [some (.ref 173), some (.int v2), none, none, none, none, none], [], (197, i, (zRF b), l))).bind (fun x => zev sc (174, 63, [some (.ref 173), some (.int v1), some (.int v2), some (.int v3), some (.int v4)], [x.1, .int (i 182 ((i 184 v1.toNatClampNeg)).toNatClampNeg), .int v4], x.2)) := by
  refine (ze_iload 47 zm174 dX10_milkBy_45 rfl rfl).trans ?_
  refine (ze_aload_n 48 zm174 dX10_milkBy_47 rfl rfl).trans ?_
  refine (ze_getR 51 zm174 dX10_milkBy_48 f10_35 k173_10 t10_9 (rr173_9 b) rfl).trans ?_
  refine (ze_aload_n 52 zm174 dX10_milkBy_51 rfl rfl).trans ?_
  refine (ze_getR 55 zm174 dX10_milkBy_52 f10_41 k173_10 t10_11 (rr173_11 b) rfl).trans ?_
  refine (ze_iload_n 56 zm174 dX10_milkBy_55 rfl rfl).trans ?_
  refine (ze_iaload (t := v1.toNatClampNeg) 57 zm174 dX10_milkBy_56 k184_100 n184 h1 rfl rfl).trans ?_
  refine (ze_iaload (t := ((i 184 v1.toNatClampNeg)).toNatClampNeg) 58 zm174 dX10_milkBy_57 k182_100 n182 h2 rfl rfl).trans ?_
  refine (ze_aload_n 59 zm174 dX10_milkBy_58 rfl rfl).trans ?_
  refine (ze_iload_n 60 zm174 dX10_milkBy_59 rfl rfl).trans ?_
  exact ze_virtI (as := [.int v2]) (rest := [.int (i 182 ((i 184 v1.toNatClampNeg)).toNatClampNeg), .int v4]) 63 zm174 dX10_milkBy_60 r10_210 zm172 rfl rfl k173_10 rfl rfl rfl rfl
theorem b174_63 (sc : zScr) (v1 : Int32) (v2 : Int32) (v3 : Int32) (v4 : Int32) (s0 : Int32) (s1 : Int32) (s2 : Int32) (i : Nat → Nat → Int32) (b : Bool) (l : Nat → Nat → Int64) : zev sc (174, 63, [some (.ref 173), some (.int v1), some (.int v2), some (.int v3), some (.int v4)], [.int s0, .int s1, .int s2], (197, i, (zRF b), l)) = zev sc (174, 65, [some (.ref 173), some (.int v1), some (.int v2), some (.int v3), some (.int v4)], [.int (s2 + (s1 * s0))], (197, i, (zRF b), l)) := by
  refine (ze_imul 64 zm174 dX10_milkBy_63 rfl).trans ?_
  refine (ze_iadd 65 zm174 dX10_milkBy_64 rfl).trans ?_
  rfl
theorem b174_65 (sc : zScr) (v1 : Int32) (v2 : Int32) (v3 : Int32) (v4 : Int32) (s0 : Int32) (i : Nat → Nat → Int32) (b : Bool) (l : Nat → Nat → Int64) : zev sc (174, 65, [some (.ref 173), some (.int v1), some (.int v2), some (.int v3), some (.int v4)], [.int s0], (197, i, (zRF b), l)) = some (.int s0, (197, i, (zRF b), l)) := by
  exact ze_ireturn zm174 dX10_milkBy_65 rfl
/-! HarpFencesModel.herd (I)I: method 175 -/
theorem b175_0 (sc : zScr) (v1 : Int32) (i : Nat → Nat → Int32) (b : Bool) (l : Nat → Nat → Int64) : zev sc (175, 0, [some (.ref 173), some (.int v1), none, none, none, none, none], [], (197, i, (zRF b), l)) = if v1 = (-1 : Int32) then zev sc (175, 15, [some (.ref 173), some (.int v1), none, none, none, none, none], [], (197, i, (zRF b), l)) else zev sc (175, 5, [some (.ref 173), some (.int v1), none, none, none, none, none], [], (197, i, (zRF b), l)) := by
  refine (ze_iload_n 1 zm175 dX10_herd_0 rfl rfl).trans ?_
  refine (ze_iconst 2 zm175 dX10_herd_1 ci_m1 rfl).trans ?_
  exact ze_icmp_eq 15 5 zm175 dX10_herd_2 (by decide) rfl
theorem b175_5 (sc : zScr) (v1 : Int32) (i : Nat → Nat → Int32) (b : Bool) (l : Nat → Nat → Int64) : zev sc (175, 5, [some (.ref 173), some (.int v1), none, none, none, none, none], [], (197, i, (zRF b), l)) = (zev sc (134, 0, [some (.ref 173), some (.int v1)], [], (197, i, (zRF b), l))).bind (fun x => zev sc (175, 10, [some (.ref 173), some (.int v1), none, none, none, none, none], [x.1], x.2)) := by
  refine (ze_aload_n 6 zm175 dX10_herd_5 rfl rfl).trans ?_
  refine (ze_iload_n 7 zm175 dX10_herd_6 rfl rfl).trans ?_
  exact ze_virtI (as := [.int v1]) (rest := []) 10 zm175 dX10_herd_7 r10_149 zm134 rfl rfl k173_10 rfl rfl rfl rfl
theorem b175_10 (sc : zScr) (v1 : Int32) (s0 : Int32) (i : Nat → Nat → Int32) (b : Bool) (l : Nat → Nat → Int64) : zev sc (175, 10, [some (.ref 173), some (.int v1), none, none, none, none, none], [.int s0], (197, i, (zRF b), l)) = if s0 = 0 then zev sc (175, 13, [some (.ref 173), some (.int v1), none, none, none, none, none], [], (197, i, (zRF b), l)) else zev sc (175, 15, [some (.ref 173), some (.int v1), none, none, none, none, none], [], (197, i, (zRF b), l)) := by
  exact ze_if_ne 15 13 zm175 dX10_herd_10 (by decide) rfl
theorem b175_13 (sc : zScr) (v1 : Int32) (i : Nat → Nat → Int32) (b : Bool) (l : Nat → Nat → Int64) : zev sc (175, 13, [some (.ref 173), some (.int v1), none, none, none, none, none], [], (197, i, (zRF b), l)) = some (.int (-1 : Int32), (197, i, (zRF b), l)) := by
  refine (ze_iconst 14 zm175 dX10_herd_13 ci_m1 rfl).trans ?_
  exact ze_ireturn zm175 dX10_herd_14 rfl
theorem b175_15 (sc : zScr) (v1 : Int32) (i : Nat → Nat → Int32) (b : Bool) (l : Nat → Nat → Int64) : zev sc (175, 15, [some (.ref 173), some (.int v1), none, none, none, none, none], [], (197, i, (zRF b), l)) = zev sc (175, 17, [some (.ref 173), some (.int v1), some (.int (0 : Int32)), none, none, none, none], [], (197, i, (zRF b), l)) := by
  refine (ze_iconst 16 zm175 dX10_herd_15 ci_0 rfl).trans ?_
  refine (ze_istore_n (A := 99) (ls' := [some (.ref 173), some (.int v1), some (.int (0 : Int32)), none, none, none, none]) 17 zm175 dX10_herd_16 za175 rfl rfl rfl rfl rfl).trans ?_
  rfl
theorem b175_17 (sc : zScr) (v1 : Int32) (v2 : Int32) (i : Nat → Nat → Int32) (b : Bool) (l : Nat → Nat → Int64) : zev sc (175, 17, [some (.ref 173), some (.int v1), some (.int v2), none, none, none, none], [], (197, i, (zRF b), l)) = (zev sc (140, 0, [some (.int (i 175 0))], [], (197, i, (zRF b), l))).bind (fun x => zev sc (175, 27, [some (.ref 173), some (.int v1), some (.int v2), none, none, none, none], [x.1, .int v2], x.2)) := by
  refine (ze_iload_n 18 zm175 dX10_herd_17 rfl rfl).trans ?_
  refine (ze_aload_n 19 zm175 dX10_herd_18 rfl rfl).trans ?_
  refine (ze_getR 22 zm175 dX10_herd_19 f10_13 k173_10 t10_2 (rr173_2 b) rfl).trans ?_
  refine (ze_iconst 23 zm175 dX10_herd_22 ci_0 rfl).trans ?_
  refine (ze_iaload (t := 0) 24 zm175 dX10_herd_23 k175_100 n175 vi_0_2 tn_0 rfl).trans ?_
  exact ze_statI (as := [.int (i 175 0)]) (rest := [.int v2]) 27 zm175 dX10_herd_24 r10_171 zm140 rfl rfl rfl rfl rfl rfl
theorem b175_27 (sc : zScr) (v1 : Int32) (v2 : Int32) (s0 : Int32) (s1 : Int32) (i : Nat → Nat → Int32) (b : Bool) (l : Nat → Nat → Int64) : zev sc (175, 27, [some (.ref 173), some (.int v1), some (.int v2), none, none, none, none], [.int s0, .int s1], (197, i, (zRF b), l)) = if s0 < s1 then zev sc (175, 54, [some (.ref 173), some (.int v1), some (.int v2), none, none, none, none], [], (197, i, (zRF b), l)) else zev sc (175, 30, [some (.ref 173), some (.int v1), some (.int v2), none, none, none, none], [], (197, i, (zRF b), l)) := by
  exact ze_icmp_gt 54 30 zm175 dX10_herd_27 (by decide) rfl
theorem b175_30 (sc : zScr) (v1 : Int32) (v2 : Int32) (i : Nat → Nat → Int32) (b : Bool) (l : Nat → Nat → Int64) (h1 : vp_in (((256 : Int32) * (i 183 0)) + v2) 1792) : zev sc (175, 30, [some (.ref 173), some (.int v1), some (.int v2), none, none, none, none], [], (197, i, (zRF b), l)) = zev sc (175, 17, [some (.ref 173), some (.int v1), some (.int (v2 + 1)), none, none, none, none], [], (197, (zU i 196 ((((256 : Int32) * (i 183 0)) + v2)).toNatClampNeg (0 : Int32)), (zRF b), l)) := by
  refine (ze_aload_n 31 zm175 dX10_herd_30 rfl rfl).trans ?_
  refine (ze_getR 34 zm175 dX10_herd_31 f10_78 k173_10 t10_30 (rr173_30 b) rfl).trans ?_
  refine (ze_sipush 37 zm175 dX10_herd_34 cs_256 rfl).trans ?_
  refine (ze_aload_n 38 zm175 dX10_herd_37 rfl rfl).trans ?_
  refine (ze_getR 41 zm175 dX10_herd_38 f10_38 k173_10 t10_10 (rr173_10 b) rfl).trans ?_
  refine (ze_iconst 42 zm175 dX10_herd_41 ci_0 rfl).trans ?_
  refine (ze_iaload (t := 0) 43 zm175 dX10_herd_42 k183_100 n183 vi_0_2 tn_0 rfl).trans ?_
  refine (ze_imul 44 zm175 dX10_herd_43 rfl).trans ?_
  refine (ze_iload_n 45 zm175 dX10_herd_44 rfl rfl).trans ?_
  refine (ze_iadd 46 zm175 dX10_herd_45 rfl).trans ?_
  refine (ze_iconst 47 zm175 dX10_herd_46 ci_0 rfl).trans ?_
  refine (ze_iastore (t := ((((256 : Int32) * (i 183 0)) + v2)).toNatClampNeg) 48 zm175 dX10_herd_47 k196_100 n196 h1 rfl rfl).trans ?_
  refine (ze_iinc (v := (1 : Int32)) (A := 99) (ls' := [some (.ref 173), some (.int v1), some (.int (v2 + 1)), none, none, none, none]) 51 zm175 dX10_herd_48 rfl ci_1 za175 rfl rfl rfl rfl rfl).trans ?_
  exact ze_goto 17 zm175 dX10_herd_51 (by decide)
theorem b175_54 (sc : zScr) (v1 : Int32) (v2 : Int32) (i : Nat → Nat → Int32) (b : Bool) (l : Nat → Nat → Int64) : zev sc (175, 54, [some (.ref 173), some (.int v1), some (.int v2), none, none, none, none], [], (197, i, (zRF b), l)) = zev sc (175, 63, [some (.ref 173), some (.int v1), some (.int ((i 183 0) - (1 : Int32))), none, none, none, none], [], (197, i, (zRF b), l)) := by
  refine (ze_aload_n 55 zm175 dX10_herd_54 rfl rfl).trans ?_
  refine (ze_getR 58 zm175 dX10_herd_55 f10_38 k173_10 t10_10 (rr173_10 b) rfl).trans ?_
  refine (ze_iconst 59 zm175 dX10_herd_58 ci_0 rfl).trans ?_
  refine (ze_iaload (t := 0) 60 zm175 dX10_herd_59 k183_100 n183 vi_0_2 tn_0 rfl).trans ?_
  refine (ze_iconst 61 zm175 dX10_herd_60 ci_1 rfl).trans ?_
  refine (ze_isub 62 zm175 dX10_herd_61 rfl).trans ?_
  refine (ze_istore_n (A := 99) (ls' := [some (.ref 173), some (.int v1), some (.int ((i 183 0) - (1 : Int32))), none, none, none, none]) 63 zm175 dX10_herd_62 za175 rfl rfl rfl rfl rfl).trans ?_
  rfl
theorem b175_63 (sc : zScr) (v1 : Int32) (v2 : Int32) (w3 : Option Value) (w4 : Option Value) (w5 : Option Value) (w6 : Option Value) (i : Nat → Nat → Int32) (b : Bool) (l : Nat → Nat → Int64) : zev sc (175, 63, [some (.ref 173), some (.int v1), some (.int v2), w3, w4, w5, w6], [], (197, i, (zRF b), l)) = if v2 < 0 then zev sc (175, 158, [some (.ref 173), some (.int v1), some (.int v2), w3, w4, w5, w6], [], (197, i, (zRF b), l)) else zev sc (175, 67, [some (.ref 173), some (.int v1), some (.int v2), w3, w4, w5, w6], [], (197, i, (zRF b), l)) := by
  refine (ze_iload_n 64 zm175 dX10_herd_63 rfl rfl).trans ?_
  exact ze_if_lt 158 67 zm175 dX10_herd_64 (by decide) rfl
theorem b175_67 (sc : zScr) (v1 : Int32) (v2 : Int32) (w3 : Option Value) (w4 : Option Value) (w5 : Option Value) (w6 : Option Value) (i : Nat → Nat → Int32) (b : Bool) (l : Nat → Nat → Int64) : zev sc (175, 67, [some (.ref 173), some (.int v1), some (.int v2), w3, w4, w5, w6], [], (197, i, (zRF b), l)) = zev sc (175, 69, [some (.ref 173), some (.int v1), some (.int v2), some (.int (0 : Int32)), w4, w5, w6], [], (197, i, (zRF b), l)) := by
  refine (ze_iconst 68 zm175 dX10_herd_67 ci_0 rfl).trans ?_
  refine (ze_istore_n (A := 99) (ls' := [some (.ref 173), some (.int v1), some (.int v2), some (.int (0 : Int32)), w4, w5, w6]) 69 zm175 dX10_herd_68 za175 rfl rfl rfl rfl rfl).trans ?_
  rfl
theorem b175_69 (sc : zScr) (v1 : Int32) (v2 : Int32) (v3 : Int32) (w4 : Option Value) (w5 : Option Value) (w6 : Option Value) (i : Nat → Nat → Int32) (b : Bool) (l : Nat → Nat → Int64) : zev sc (175, 69, [some (.ref 173), some (.int v1), some (.int v2), some (.int v3), w4, w5, w6], [], (197, i, (zRF b), l)) = (zev sc (140, 0, [some (.int (i 175 0))], [], (197, i, (zRF b), l))).bind (fun x => zev sc (175, 79, [some (.ref 173), some (.int v1), some (.int v2), some (.int v3), w4, w5, w6], [x.1, .int v3], x.2)) := by
  refine (ze_iload_n 70 zm175 dX10_herd_69 rfl rfl).trans ?_
  refine (ze_aload_n 71 zm175 dX10_herd_70 rfl rfl).trans ?_
  refine (ze_getR 74 zm175 dX10_herd_71 f10_13 k173_10 t10_2 (rr173_2 b) rfl).trans ?_
  refine (ze_iconst 75 zm175 dX10_herd_74 ci_0 rfl).trans ?_
  refine (ze_iaload (t := 0) 76 zm175 dX10_herd_75 k175_100 n175 vi_0_2 tn_0 rfl).trans ?_
  exact ze_statI (as := [.int (i 175 0)]) (rest := [.int v3]) 79 zm175 dX10_herd_76 r10_171 zm140 rfl rfl rfl rfl rfl rfl
theorem b175_79 (sc : zScr) (v1 : Int32) (v2 : Int32) (v3 : Int32) (w4 : Option Value) (w5 : Option Value) (w6 : Option Value) (s0 : Int32) (s1 : Int32) (i : Nat → Nat → Int32) (b : Bool) (l : Nat → Nat → Int64) : zev sc (175, 79, [some (.ref 173), some (.int v1), some (.int v2), some (.int v3), w4, w5, w6], [.int s0, .int s1], (197, i, (zRF b), l)) = if s0 < s1 then zev sc (175, 152, [some (.ref 173), some (.int v1), some (.int v2), some (.int v3), w4, w5, w6], [], (197, i, (zRF b), l)) else zev sc (175, 82, [some (.ref 173), some (.int v1), some (.int v2), some (.int v3), w4, w5, w6], [], (197, i, (zRF b), l)) := by
  exact ze_icmp_gt 152 82 zm175 dX10_herd_79 (by decide) rfl
theorem b175_82 (sc : zScr) (v1 : Int32) (v2 : Int32) (v3 : Int32) (w4 : Option Value) (w5 : Option Value) (w6 : Option Value) (i : Nat → Nat → Int32) (b : Bool) (l : Nat → Nat → Int64) : zev sc (175, 82, [some (.ref 173), some (.int v1), some (.int v2), some (.int v3), w4, w5, w6], [], (197, i, (zRF b), l)) = zev sc (175, 89, [some (.ref 173), some (.int v1), some (.int v2), some (.int v3), some (.int (-9 : Int32)), some (.int (0 : Int32)), w6], [], (197, i, (zRF b), l)) := by
  refine (ze_bipush 84 zm175 dX10_herd_82 cb_m9 rfl).trans ?_
  refine (ze_istore (A := 99) (ls' := [some (.ref 173), some (.int v1), some (.int v2), some (.int v3), some (.int (-9 : Int32)), w5, w6]) 86 zm175 dX10_herd_84 za175 rfl rfl rfl rfl rfl).trans ?_
  refine (ze_iconst 87 zm175 dX10_herd_86 ci_0 rfl).trans ?_
  refine (ze_istore (A := 99) (ls' := [some (.ref 173), some (.int v1), some (.int v2), some (.int v3), some (.int (-9 : Int32)), some (.int (0 : Int32)), w6]) 89 zm175 dX10_herd_87 za175 rfl rfl rfl rfl rfl).trans ?_
  rfl
theorem b175_89 (sc : zScr) (v1 : Int32) (v2 : Int32) (v3 : Int32) (v4 : Int32) (v5 : Int32) (w6 : Option Value) (i : Nat → Nat → Int32) (b : Bool) (l : Nat → Nat → Int64) : zev sc (175, 89, [some (.ref 173), some (.int v1), some (.int v2), some (.int v3), some (.int v4), some (.int v5), w6], [], (197, i, (zRF b), l)) = if (i 175 0) ≤ v5 then zev sc (175, 132, [some (.ref 173), some (.int v1), some (.int v2), some (.int v3), some (.int v4), some (.int v5), w6], [], (197, i, (zRF b), l)) else zev sc (175, 100, [some (.ref 173), some (.int v1), some (.int v2), some (.int v3), some (.int v4), some (.int v5), w6], [], (197, i, (zRF b), l)) := by
  refine (ze_iload 91 zm175 dX10_herd_89 rfl rfl).trans ?_
  refine (ze_aload_n 92 zm175 dX10_herd_91 rfl rfl).trans ?_
  refine (ze_getR 95 zm175 dX10_herd_92 f10_13 k173_10 t10_2 (rr173_2 b) rfl).trans ?_
  refine (ze_iconst 96 zm175 dX10_herd_95 ci_0 rfl).trans ?_
  refine (ze_iaload (t := 0) 97 zm175 dX10_herd_96 k175_100 n175 vi_0_2 tn_0 rfl).trans ?_
  exact ze_icmp_ge 132 100 zm175 dX10_herd_97 (by decide) rfl
theorem b175_100 (sc : zScr) (v1 : Int32) (v2 : Int32) (v3 : Int32) (v4 : Int32) (v5 : Int32) (w6 : Option Value) (i : Nat → Nat → Int32) (b : Bool) (l : Nat → Nat → Int64) : zev sc (175, 100, [some (.ref 173), some (.int v1), some (.int v2), some (.int v3), some (.int v4), some (.int v5), w6], [], (197, i, (zRF b), l)) = (zev sc (174, 0, [some (.ref 173), some (.int v2), some (.int v5), some (.int v3), none], [], (197, i, (zRF b), l))).bind (fun x => zev sc (175, 108, [some (.ref 173), some (.int v1), some (.int v2), some (.int v3), some (.int v4), some (.int v5), w6], [x.1], x.2)) := by
  refine (ze_aload_n 101 zm175 dX10_herd_100 rfl rfl).trans ?_
  refine (ze_iload_n 102 zm175 dX10_herd_101 rfl rfl).trans ?_
  refine (ze_iload 104 zm175 dX10_herd_102 rfl rfl).trans ?_
  refine (ze_iload_n 105 zm175 dX10_herd_104 rfl rfl).trans ?_
  exact ze_virtI (as := [.int v2, .int v5, .int v3]) (rest := []) 108 zm175 dX10_herd_105 r10_213 zm174 rfl rfl k173_10 rfl rfl rfl rfl
theorem b175_108 (sc : zScr) (v1 : Int32) (v2 : Int32) (v3 : Int32) (v4 : Int32) (v5 : Int32) (w6 : Option Value) (s0 : Int32) (i : Nat → Nat → Int32) (b : Bool) (l : Nat → Nat → Int64) : zev sc (175, 108, [some (.ref 173), some (.int v1), some (.int v2), some (.int v3), some (.int v4), some (.int v5), w6], [.int s0], (197, i, (zRF b), l)) = if s0 ≤ v4 then zev sc (175, 122, [some (.ref 173), some (.int v1), some (.int v2), some (.int v3), some (.int v4), some (.int v5), some (.int s0)], [], (197, i, (zRF b), l)) else zev sc (175, 117, [some (.ref 173), some (.int v1), some (.int v2), some (.int v3), some (.int v4), some (.int v5), some (.int s0)], [], (197, i, (zRF b), l)) := by
  refine (ze_istore (A := 99) (ls' := [some (.ref 173), some (.int v1), some (.int v2), some (.int v3), some (.int v4), some (.int v5), some (.int s0)]) 110 zm175 dX10_herd_108 za175 rfl rfl rfl rfl rfl).trans ?_
  refine (ze_iload 112 zm175 dX10_herd_110 rfl rfl).trans ?_
  refine (ze_iload 114 zm175 dX10_herd_112 rfl rfl).trans ?_
  exact ze_icmp_le 122 117 zm175 dX10_herd_114 (by decide) rfl
theorem b175_117 (sc : zScr) (v1 : Int32) (v2 : Int32) (v3 : Int32) (v4 : Int32) (v5 : Int32) (v6 : Int32) (i : Nat → Nat → Int32) (b : Bool) (l : Nat → Nat → Int64) : zev sc (175, 117, [some (.ref 173), some (.int v1), some (.int v2), some (.int v3), some (.int v4), some (.int v5), some (.int v6)], [], (197, i, (zRF b), l)) = zev sc (175, 124, [some (.ref 173), some (.int v1), some (.int v2), some (.int v3), some (.int v4), some (.int v5), some (.int v6)], [.int v6], (197, i, (zRF b), l)) := by
  refine (ze_iload 119 zm175 dX10_herd_117 rfl rfl).trans ?_
  exact ze_goto 124 zm175 dX10_herd_119 (by decide)
theorem b175_122 (sc : zScr) (v1 : Int32) (v2 : Int32) (v3 : Int32) (v4 : Int32) (v5 : Int32) (v6 : Int32) (i : Nat → Nat → Int32) (b : Bool) (l : Nat → Nat → Int64) : zev sc (175, 122, [some (.ref 173), some (.int v1), some (.int v2), some (.int v3), some (.int v4), some (.int v5), some (.int v6)], [], (197, i, (zRF b), l)) = zev sc (175, 124, [some (.ref 173), some (.int v1), some (.int v2), some (.int v3), some (.int v4), some (.int v5), some (.int v6)], [.int v4], (197, i, (zRF b), l)) := by
  refine (ze_iload 124 zm175 dX10_herd_122 rfl rfl).trans ?_
  rfl
theorem b175_124 (sc : zScr) (v1 : Int32) (v2 : Int32) (v3 : Int32) (v4 : Int32) (v5 : Int32) (v6 : Int32) (s0 : Int32) (i : Nat → Nat → Int32) (b : Bool) (l : Nat → Nat → Int64) : zev sc (175, 124, [some (.ref 173), some (.int v1), some (.int v2), some (.int v3), some (.int v4), some (.int v5), some (.int v6)], [.int s0], (197, i, (zRF b), l)) = zev sc (175, 89, [some (.ref 173), some (.int v1), some (.int v2), some (.int v3), some (.int s0), some (.int (v5 + 1)), some (.int v6)], [], (197, i, (zRF b), l)) := by
  refine (ze_istore (A := 99) (ls' := [some (.ref 173), some (.int v1), some (.int v2), some (.int v3), some (.int s0), some (.int v5), some (.int v6)]) 126 zm175 dX10_herd_124 za175 rfl rfl rfl rfl rfl).trans ?_
  refine (ze_iinc (v := (1 : Int32)) (A := 99) (ls' := [some (.ref 173), some (.int v1), some (.int v2), some (.int v3), some (.int s0), some (.int (v5 + 1)), some (.int v6)]) 129 zm175 dX10_herd_126 rfl ci_1 za175 rfl rfl rfl rfl rfl).trans ?_
  exact ze_goto 89 zm175 dX10_herd_129 (by decide)
theorem b175_132 (sc : zScr) (v1 : Int32) (v2 : Int32) (v3 : Int32) (v4 : Int32) (v5 : Int32) (w6 : Option Value) (i : Nat → Nat → Int32) (b : Bool) (l : Nat → Nat → Int64) (h1 : vp_in (((256 : Int32) * v2) + v3) 1792) : zev sc (175, 132, [some (.ref 173), some (.int v1), some (.int v2), some (.int v3), some (.int v4), some (.int v5), w6], [], (197, i, (zRF b), l)) = zev sc (175, 69, [some (.ref 173), some (.int v1), some (.int v2), some (.int (v3 + 1)), some (.int v4), some (.int v5), w6], [], (197, (zU i 196 ((((256 : Int32) * v2) + v3)).toNatClampNeg v4), (zRF b), l)) := by
  refine (ze_aload_n 133 zm175 dX10_herd_132 rfl rfl).trans ?_
  refine (ze_getR 136 zm175 dX10_herd_133 f10_78 k173_10 t10_30 (rr173_30 b) rfl).trans ?_
  refine (ze_sipush 139 zm175 dX10_herd_136 cs_256 rfl).trans ?_
  refine (ze_iload_n 140 zm175 dX10_herd_139 rfl rfl).trans ?_
  refine (ze_imul 141 zm175 dX10_herd_140 rfl).trans ?_
  refine (ze_iload_n 142 zm175 dX10_herd_141 rfl rfl).trans ?_
  refine (ze_iadd 143 zm175 dX10_herd_142 rfl).trans ?_
  refine (ze_iload 145 zm175 dX10_herd_143 rfl rfl).trans ?_
  refine (ze_iastore (t := ((((256 : Int32) * v2) + v3)).toNatClampNeg) 146 zm175 dX10_herd_145 k196_100 n196 h1 rfl rfl).trans ?_
  refine (ze_iinc (v := (1 : Int32)) (A := 99) (ls' := [some (.ref 173), some (.int v1), some (.int v2), some (.int (v3 + 1)), some (.int v4), some (.int v5), w6]) 149 zm175 dX10_herd_146 rfl ci_1 za175 rfl rfl rfl rfl rfl).trans ?_
  exact ze_goto 69 zm175 dX10_herd_149 (by decide)
theorem b175_152 (sc : zScr) (v1 : Int32) (v2 : Int32) (v3 : Int32) (w4 : Option Value) (w5 : Option Value) (w6 : Option Value) (i : Nat → Nat → Int32) (b : Bool) (l : Nat → Nat → Int64) : zev sc (175, 152, [some (.ref 173), some (.int v1), some (.int v2), some (.int v3), w4, w5, w6], [], (197, i, (zRF b), l)) = zev sc (175, 63, [some (.ref 173), some (.int v1), some (.int (v2 + (-1))), some (.int v3), w4, w5, w6], [], (197, i, (zRF b), l)) := by
  refine (ze_iinc (v := (-1 : Int32)) (A := 99) (ls' := [some (.ref 173), some (.int v1), some (.int (v2 + (-1))), some (.int v3), w4, w5, w6]) 155 zm175 dX10_herd_152 rfl ci_m1 za175 rfl rfl rfl rfl rfl).trans ?_
  exact ze_goto 63 zm175 dX10_herd_155 (by decide)
theorem b175_158 (sc : zScr) (v1 : Int32) (v2 : Int32) (w3 : Option Value) (w4 : Option Value) (w5 : Option Value) (w6 : Option Value) (i : Nat → Nat → Int32) (b : Bool) (l : Nat → Nat → Int64) : zev sc (175, 158, [some (.ref 173), some (.int v1), some (.int v2), w3, w4, w5, w6], [], (197, i, (zRF b), l)) = if v1 = (-1 : Int32) then zev sc (175, 174, [some (.ref 173), some (.int v1), some (.int v2), w3, w4, w5, w6], [], (197, i, (zRF b), l)) else zev sc (175, 163, [some (.ref 173), some (.int v1), some (.int v2), w3, w4, w5, w6], [], (197, i, (zRF b), l)) := by
  refine (ze_iload_n 159 zm175 dX10_herd_158 rfl rfl).trans ?_
  refine (ze_iconst 160 zm175 dX10_herd_159 ci_m1 rfl).trans ?_
  exact ze_icmp_eq 174 163 zm175 dX10_herd_160 (by decide) rfl
theorem b175_163 (sc : zScr) (v1 : Int32) (v2 : Int32) (w3 : Option Value) (w4 : Option Value) (w5 : Option Value) (w6 : Option Value) (i : Nat → Nat → Int32) (b : Bool) (l : Nat → Nat → Int64) : zev sc (175, 163, [some (.ref 173), some (.int v1), some (.int v2), w3, w4, w5, w6], [], (197, i, (zRF b), l)) = if (i 196 0) = (-9 : Int32) then zev sc (175, 174, [some (.ref 173), some (.int v1), some (.int v2), w3, w4, w5, w6], [], (197, i, (zRF b), l)) else zev sc (175, 181, [some (.ref 173), some (.int v1), some (.int v2), w3, w4, w5, w6], [], (197, i, (zRF b), l)) := by
  refine (ze_aload_n 164 zm175 dX10_herd_163 rfl rfl).trans ?_
  refine (ze_getR 167 zm175 dX10_herd_164 f10_78 k173_10 t10_30 (rr173_30 b) rfl).trans ?_
  refine (ze_iconst 168 zm175 dX10_herd_167 ci_0 rfl).trans ?_
  refine (ze_iaload (t := 0) 169 zm175 dX10_herd_168 k196_100 n196 vi_0_1792 tn_0 rfl).trans ?_
  refine (ze_bipush 171 zm175 dX10_herd_169 cb_m9 rfl).trans ?_
  exact ze_icmp_ne 181 174 zm175 dX10_herd_171 (by decide) rfl
theorem b175_174 (sc : zScr) (v1 : Int32) (v2 : Int32) (w3 : Option Value) (w4 : Option Value) (w5 : Option Value) (w6 : Option Value) (i : Nat → Nat → Int32) (b : Bool) (l : Nat → Nat → Int64) : zev sc (175, 174, [some (.ref 173), some (.int v1), some (.int v2), w3, w4, w5, w6], [], (197, i, (zRF b), l)) = some (.int (i 196 0), (197, i, (zRF b), l)) := by
  refine (ze_aload_n 175 zm175 dX10_herd_174 rfl rfl).trans ?_
  refine (ze_getR 178 zm175 dX10_herd_175 f10_78 k173_10 t10_30 (rr173_30 b) rfl).trans ?_
  refine (ze_iconst 179 zm175 dX10_herd_178 ci_0 rfl).trans ?_
  refine (ze_iaload (t := 0) 180 zm175 dX10_herd_179 k196_100 n196 vi_0_1792 tn_0 rfl).trans ?_
  exact ze_ireturn zm175 dX10_herd_180 rfl
theorem b175_181 (sc : zScr) (v1 : Int32) (v2 : Int32) (w3 : Option Value) (w4 : Option Value) (w5 : Option Value) (w6 : Option Value) (i : Nat → Nat → Int32) (b : Bool) (l : Nat → Nat → Int64) : zev sc (175, 181, [some (.ref 173), some (.int v1), some (.int v2), w3, w4, w5, w6], [], (197, i, (zRF b), l)) = zev sc (175, 189, [some (.ref 173), some (.int v1), some (.int (0 : Int32)), some (.int (-9 : Int32)), some (.int (0 : Int32)), w5, w6], [], (197, i, (zRF b), l)) := by
  refine (ze_iconst 182 zm175 dX10_herd_181 ci_0 rfl).trans ?_
  refine (ze_istore_n (A := 99) (ls' := [some (.ref 173), some (.int v1), some (.int (0 : Int32)), w3, w4, w5, w6]) 183 zm175 dX10_herd_182 za175 rfl rfl rfl rfl rfl).trans ?_
  refine (ze_bipush 185 zm175 dX10_herd_183 cb_m9 rfl).trans ?_
  refine (ze_istore_n (A := 99) (ls' := [some (.ref 173), some (.int v1), some (.int (0 : Int32)), some (.int (-9 : Int32)), w4, w5, w6]) 186 zm175 dX10_herd_185 za175 rfl rfl rfl rfl rfl).trans ?_
  refine (ze_iconst 187 zm175 dX10_herd_186 ci_0 rfl).trans ?_
  refine (ze_istore (A := 99) (ls' := [some (.ref 173), some (.int v1), some (.int (0 : Int32)), some (.int (-9 : Int32)), some (.int (0 : Int32)), w5, w6]) 189 zm175 dX10_herd_187 za175 rfl rfl rfl rfl rfl).trans ?_
  rfl
theorem b175_189 (sc : zScr) (v1 : Int32) (v2 : Int32) (v3 : Int32) (v4 : Int32) (w5 : Option Value) (w6 : Option Value) (i : Nat → Nat → Int32) (b : Bool) (l : Nat → Nat → Int64) : zev sc (175, 189, [some (.ref 173), some (.int v1), some (.int v2), some (.int v3), some (.int v4), w5, w6], [], (197, i, (zRF b), l)) = if v1 < v4 then zev sc (175, 239, [some (.ref 173), some (.int v1), some (.int v2), some (.int v3), some (.int v4), w5, w6], [], (197, i, (zRF b), l)) else zev sc (175, 195, [some (.ref 173), some (.int v1), some (.int v2), some (.int v3), some (.int v4), w5, w6], [], (197, i, (zRF b), l)) := by
  refine (ze_iload 191 zm175 dX10_herd_189 rfl rfl).trans ?_
  refine (ze_iload_n 192 zm175 dX10_herd_191 rfl rfl).trans ?_
  exact ze_icmp_gt 239 195 zm175 dX10_herd_192 (by decide) rfl
theorem b175_195 (sc : zScr) (v1 : Int32) (v2 : Int32) (v3 : Int32) (v4 : Int32) (w5 : Option Value) (w6 : Option Value) (i : Nat → Nat → Int32) (b : Bool) (l : Nat → Nat → Int64) : zev sc (175, 195, [some (.ref 173), some (.int v1), some (.int v2), some (.int v3), some (.int v4), w5, w6], [], (197, i, (zRF b), l)) = zev sc (175, 197, [some (.ref 173), some (.int v1), some (.int v2), some (.int (0 : Int32)), some (.int v4), w5, w6], [], (197, i, (zRF b), l)) := by
  refine (ze_iconst 196 zm175 dX10_herd_195 ci_0 rfl).trans ?_
  refine (ze_istore_n (A := 99) (ls' := [some (.ref 173), some (.int v1), some (.int v2), some (.int (0 : Int32)), some (.int v4), w5, w6]) 197 zm175 dX10_herd_196 za175 rfl rfl rfl rfl rfl).trans ?_
  rfl
theorem b175_197 (sc : zScr) (v1 : Int32) (v2 : Int32) (v3 : Int32) (v4 : Int32) (w5 : Option Value) (w6 : Option Value) (i : Nat → Nat → Int32) (b : Bool) (l : Nat → Nat → Int64) : zev sc (175, 197, [some (.ref 173), some (.int v1), some (.int v2), some (.int v3), some (.int v4), w5, w6], [], (197, i, (zRF b), l)) = (zev sc (174, 0, [some (.ref 173), some (.int v4), some (.int v3), some (.int v2), none], [], (197, i, (zRF b), l))).bind (fun x => zev sc (175, 205, [some (.ref 173), some (.int v1), some (.int v2), some (.int v3), some (.int v4), w5, w6], [x.1], x.2)) := by
  refine (ze_aload_n 198 zm175 dX10_herd_197 rfl rfl).trans ?_
  refine (ze_iload 200 zm175 dX10_herd_198 rfl rfl).trans ?_
  refine (ze_iload_n 201 zm175 dX10_herd_200 rfl rfl).trans ?_
  refine (ze_iload_n 202 zm175 dX10_herd_201 rfl rfl).trans ?_
  exact ze_virtI (as := [.int v4, .int v3, .int v2]) (rest := []) 205 zm175 dX10_herd_202 r10_213 zm174 rfl rfl k173_10 rfl rfl rfl rfl
theorem b175_205 (sc : zScr) (v1 : Int32) (v2 : Int32) (v3 : Int32) (v4 : Int32) (w5 : Option Value) (w6 : Option Value) (s0 : Int32) (i : Nat → Nat → Int32) (b : Bool) (l : Nat → Nat → Int64) (h1 : vp_in (((256 : Int32) * v4) + v2) 1792) : zev sc (175, 205, [some (.ref 173), some (.int v1), some (.int v2), some (.int v3), some (.int v4), w5, w6], [.int s0], (197, i, (zRF b), l)) = if s0 = (i 196 ((((256 : Int32) * v4) + v2)).toNatClampNeg) then zev sc (175, 227, [some (.ref 173), some (.int v1), some (.int v2), some (.int v3), some (.int v4), w5, w6], [], (197, i, (zRF b), l)) else zev sc (175, 221, [some (.ref 173), some (.int v1), some (.int v2), some (.int v3), some (.int v4), w5, w6], [], (197, i, (zRF b), l)) := by
  refine (ze_aload_n 206 zm175 dX10_herd_205 rfl rfl).trans ?_
  refine (ze_getR 209 zm175 dX10_herd_206 f10_78 k173_10 t10_30 (rr173_30 b) rfl).trans ?_
  refine (ze_sipush 212 zm175 dX10_herd_209 cs_256 rfl).trans ?_
  refine (ze_iload 214 zm175 dX10_herd_212 rfl rfl).trans ?_
  refine (ze_imul 215 zm175 dX10_herd_214 rfl).trans ?_
  refine (ze_iload_n 216 zm175 dX10_herd_215 rfl rfl).trans ?_
  refine (ze_iadd 217 zm175 dX10_herd_216 rfl).trans ?_
  refine (ze_iaload (t := ((((256 : Int32) * v4) + v2)).toNatClampNeg) 218 zm175 dX10_herd_217 k196_100 n196 h1 rfl rfl).trans ?_
  exact ze_icmp_eq 227 221 zm175 dX10_herd_218 (by decide) rfl
theorem b175_221 (sc : zScr) (v1 : Int32) (v2 : Int32) (v3 : Int32) (v4 : Int32) (w5 : Option Value) (w6 : Option Value) (i : Nat → Nat → Int32) (b : Bool) (l : Nat → Nat → Int64) : zev sc (175, 221, [some (.ref 173), some (.int v1), some (.int v2), some (.int v3), some (.int v4), w5, w6], [], (197, i, (zRF b), l)) = zev sc (175, 197, [some (.ref 173), some (.int v1), some (.int v2), some (.int (v3 + 1)), some (.int v4), w5, w6], [], (197, i, (zRF b), l)) := by
  refine (ze_iinc (v := (1 : Int32)) (A := 99) (ls' := [some (.ref 173), some (.int v1), some (.int v2), some (.int (v3 + 1)), some (.int v4), w5, w6]) 224 zm175 dX10_herd_221 rfl ci_1 za175 rfl rfl rfl rfl rfl).trans ?_
  exact ze_goto 197 zm175 dX10_herd_224 (by decide)
theorem b175_227 (sc : zScr) (v1 : Int32) (v2 : Int32) (v3 : Int32) (v4 : Int32) (w5 : Option Value) (w6 : Option Value) (i : Nat → Nat → Int32) (b : Bool) (l : Nat → Nat → Int64) : zev sc (175, 227, [some (.ref 173), some (.int v1), some (.int v2), some (.int v3), some (.int v4), w5, w6], [], (197, i, (zRF b), l)) = zev sc (175, 189, [some (.ref 173), some (.int v1), some (.int (v2 ||| ((1 : Int32) <<< (v3 &&& 31)))), some (.int v3), some (.int (v4 + 1)), w5, w6], [], (197, i, (zRF b), l)) := by
  refine (ze_iload_n 228 zm175 dX10_herd_227 rfl rfl).trans ?_
  refine (ze_iconst 229 zm175 dX10_herd_228 ci_1 rfl).trans ?_
  refine (ze_iload_n 230 zm175 dX10_herd_229 rfl rfl).trans ?_
  refine (ze_ishl 231 zm175 dX10_herd_230 rfl).trans ?_
  refine (ze_ior 232 zm175 dX10_herd_231 rfl).trans ?_
  refine (ze_istore_n (A := 99) (ls' := [some (.ref 173), some (.int v1), some (.int (v2 ||| ((1 : Int32) <<< (v3 &&& 31)))), some (.int v3), some (.int v4), w5, w6]) 233 zm175 dX10_herd_232 za175 rfl rfl rfl rfl rfl).trans ?_
  refine (ze_iinc (v := (1 : Int32)) (A := 99) (ls' := [some (.ref 173), some (.int v1), some (.int (v2 ||| ((1 : Int32) <<< (v3 &&& 31)))), some (.int v3), some (.int (v4 + 1)), w5, w6]) 236 zm175 dX10_herd_233 rfl ci_1 za175 rfl rfl rfl rfl rfl).trans ?_
  exact ze_goto 189 zm175 dX10_herd_236 (by decide)
theorem b175_239 (sc : zScr) (v1 : Int32) (v2 : Int32) (v3 : Int32) (v4 : Int32) (w5 : Option Value) (w6 : Option Value) (i : Nat → Nat → Int32) (b : Bool) (l : Nat → Nat → Int64) : zev sc (175, 239, [some (.ref 173), some (.int v1), some (.int v2), some (.int v3), some (.int v4), w5, w6], [], (197, i, (zRF b), l)) = some (.int v3, (197, i, (zRF b), l)) := by
  refine (ze_iload_n 240 zm175 dX10_herd_239 rfl rfl).trans ?_
  exact ze_ireturn zm175 dX10_herd_240 rfl
/-! HarpFencesModel.isUnheard (IIII)Z: method 176 -/
theorem b176_0 (sc : zScr) (v1 : Int32) (v2 : Int32) (v3 : Int32) (v4 : Int32) (i : Nat → Nat → Int32) (b : Bool) (l : Nat → Nat → Int64) : zev sc (176, 0, [some (.ref 173), some (.int v1), some (.int v2), some (.int v3), some (.int v4), none, none, none, none, none], [], (197, i, (zRF b), l)) = zev sc (176, 8, [some (.ref 173), some (.int v1), some (.int v2), some (.int v3), some (.int v4), some (.int ((1 : Int32) <<< (v2 &&& 31))), some (.int (0 : Int32)), none, none, none], [], (197, i, (zRF b), l)) := by
  refine (ze_iconst 1 zm176 dX10_isUnheard_0 ci_1 rfl).trans ?_
  refine (ze_iload_n 2 zm176 dX10_isUnheard_1 rfl rfl).trans ?_
  refine (ze_ishl 3 zm176 dX10_isUnheard_2 rfl).trans ?_
  refine (ze_istore (A := 99) (ls' := [some (.ref 173), some (.int v1), some (.int v2), some (.int v3), some (.int v4), some (.int ((1 : Int32) <<< (v2 &&& 31))), none, none, none, none]) 5 zm176 dX10_isUnheard_3 za176 rfl rfl rfl rfl rfl).trans ?_
  refine (ze_iconst 6 zm176 dX10_isUnheard_5 ci_0 rfl).trans ?_
  refine (ze_istore (A := 99) (ls' := [some (.ref 173), some (.int v1), some (.int v2), some (.int v3), some (.int v4), some (.int ((1 : Int32) <<< (v2 &&& 31))), some (.int (0 : Int32)), none, none, none]) 8 zm176 dX10_isUnheard_6 za176 rfl rfl rfl rfl rfl).trans ?_
  rfl
theorem b176_8 (sc : zScr) (v1 : Int32) (v2 : Int32) (v3 : Int32) (v4 : Int32) (v5 : Int32) (v6 : Int32) (w7 : Option Value) (w8 : Option Value) (w9 : Option Value) (i : Nat → Nat → Int32) (b : Bool) (l : Nat → Nat → Int64) : zev sc (176, 8, [some (.ref 173), some (.int v1), some (.int v2), some (.int v3), some (.int v4), some (.int v5), some (.int v6), w7, w8, w9], [], (197, i, (zRF b), l)) = if (8 : Int32) ≤ v6 then zev sc (176, 143, [some (.ref 173), some (.int v1), some (.int v2), some (.int v3), some (.int v4), some (.int v5), some (.int v6), w7, w8, w9], [], (197, i, (zRF b), l)) else zev sc (176, 15, [some (.ref 173), some (.int v1), some (.int v2), some (.int v3), some (.int v4), some (.int v5), some (.int v6), w7, w8, w9], [], (197, i, (zRF b), l)) := by
  refine (ze_iload 10 zm176 dX10_isUnheard_8 rfl rfl).trans ?_
  refine (ze_bipush 12 zm176 dX10_isUnheard_10 cb_8 rfl).trans ?_
  exact ze_icmp_ge 143 15 zm176 dX10_isUnheard_12 (by decide) rfl
theorem b176_15 (sc : zScr) (v1 : Int32) (v2 : Int32) (v3 : Int32) (v4 : Int32) (v5 : Int32) (v6 : Int32) (w7 : Option Value) (w8 : Option Value) (w9 : Option Value) (i : Nat → Nat → Int32) (b : Bool) (l : Nat → Nat → Int64) : zev sc (176, 15, [some (.ref 173), some (.int v1), some (.int v2), some (.int v3), some (.int v4), some (.int v5), some (.int v6), w7, w8, w9], [], (197, i, (zRF b), l)) = zev sc (176, 18, [some (.ref 173), some (.int v1), some (.int v2), some (.int v3), some (.int v4), some (.int v5), some (.int v6), some (.int (0 : Int32)), w8, w9], [], (197, i, (zRF b), l)) := by
  refine (ze_iconst 16 zm176 dX10_isUnheard_15 ci_0 rfl).trans ?_
  refine (ze_istore (A := 99) (ls' := [some (.ref 173), some (.int v1), some (.int v2), some (.int v3), some (.int v4), some (.int v5), some (.int v6), some (.int (0 : Int32)), w8, w9]) 18 zm176 dX10_isUnheard_16 za176 rfl rfl rfl rfl rfl).trans ?_
  rfl
theorem b176_18 (sc : zScr) (v1 : Int32) (v2 : Int32) (v3 : Int32) (v4 : Int32) (v5 : Int32) (v6 : Int32) (v7 : Int32) (w8 : Option Value) (w9 : Option Value) (i : Nat → Nat → Int32) (b : Bool) (l : Nat → Nat → Int64) : zev sc (176, 18, [some (.ref 173), some (.int v1), some (.int v2), some (.int v3), some (.int v4), some (.int v5), some (.int v6), some (.int v7), w8, w9], [], (197, i, (zRF b), l)) = if (i 176 0) ≤ v7 then zev sc (176, 137, [some (.ref 173), some (.int v1), some (.int v2), some (.int v3), some (.int v4), some (.int v5), some (.int v6), some (.int v7), w8, w9], [], (197, i, (zRF b), l)) else zev sc (176, 29, [some (.ref 173), some (.int v1), some (.int v2), some (.int v3), some (.int v4), some (.int v5), some (.int v6), some (.int v7), w8, w9], [], (197, i, (zRF b), l)) := by
  refine (ze_iload 20 zm176 dX10_isUnheard_18 rfl rfl).trans ?_
  refine (ze_aload_n 21 zm176 dX10_isUnheard_20 rfl rfl).trans ?_
  refine (ze_getR 24 zm176 dX10_isUnheard_21 f10_17 k173_10 t10_3 (rr173_3 b) rfl).trans ?_
  refine (ze_iconst 25 zm176 dX10_isUnheard_24 ci_0 rfl).trans ?_
  refine (ze_iaload (t := 0) 26 zm176 dX10_isUnheard_25 k176_100 n176 vi_0_2 tn_0 rfl).trans ?_
  exact ze_icmp_ge 137 29 zm176 dX10_isUnheard_26 (by decide) rfl
theorem b176_29 (sc : zScr) (v1 : Int32) (v2 : Int32) (v3 : Int32) (v4 : Int32) (v5 : Int32) (v6 : Int32) (v7 : Int32) (w8 : Option Value) (w9 : Option Value) (i : Nat → Nat → Int32) (b : Bool) (l : Nat → Nat → Int64) : zev sc (176, 29, [some (.ref 173), some (.int v1), some (.int v2), some (.int v3), some (.int v4), some (.int v5), some (.int v6), some (.int v7), w8, w9], [], (197, i, (zRF b), l)) = (zev sc (120, 0, [some (.int v4), some (.int v7)], [], (197, i, (zRF b), l))).bind (fun x => zev sc (176, 36, [some (.ref 173), some (.int v1), some (.int v2), some (.int v3), some (.int v4), some (.int v5), some (.int v6), some (.int v7), w8, w9], [x.1], x.2)) := by
  refine (ze_iload 31 zm176 dX10_isUnheard_29 rfl rfl).trans ?_
  refine (ze_iload 33 zm176 dX10_isUnheard_31 rfl rfl).trans ?_
  exact ze_statI (as := [.int v4, .int v7]) (rest := []) 36 zm176 dX10_isUnheard_33 r10_137 zm120 rfl rfl rfl rfl rfl rfl
theorem b176_36 (sc : zScr) (v1 : Int32) (v2 : Int32) (v3 : Int32) (v4 : Int32) (v5 : Int32) (v6 : Int32) (v7 : Int32) (w8 : Option Value) (w9 : Option Value) (s0 : Int32) (i : Nat → Nat → Int32) (b : Bool) (l : Nat → Nat → Int64) : zev sc (176, 36, [some (.ref 173), some (.int v1), some (.int v2), some (.int v3), some (.int v4), some (.int v5), some (.int v6), some (.int v7), w8, w9], [.int s0], (197, i, (zRF b), l)) = if s0 = 0 then zev sc (176, 39, [some (.ref 173), some (.int v1), some (.int v2), some (.int v3), some (.int v4), some (.int v5), some (.int v6), some (.int v7), w8, w9], [], (197, i, (zRF b), l)) else zev sc (176, 49, [some (.ref 173), some (.int v1), some (.int v2), some (.int v3), some (.int v4), some (.int v5), some (.int v6), some (.int v7), w8, w9], [], (197, i, (zRF b), l)) := by
  exact ze_if_ne 49 39 zm176 dX10_isUnheard_36 (by decide) rfl
theorem b176_39 (sc : zScr) (v1 : Int32) (v2 : Int32) (v3 : Int32) (v4 : Int32) (v5 : Int32) (v6 : Int32) (v7 : Int32) (w8 : Option Value) (w9 : Option Value) (i : Nat → Nat → Int32) (b : Bool) (l : Nat → Nat → Int64) : zev sc (176, 39, [some (.ref 173), some (.int v1), some (.int v2), some (.int v3), some (.int v4), some (.int v5), some (.int v6), some (.int v7), w8, w9], [], (197, i, (zRF b), l)) = (zev sc (135, 0, [some (.ref 173), some (.int v1), some (.int v7), none], [], (197, i, (zRF b), l))).bind (fun x => zev sc (176, 46, [some (.ref 173), some (.int v1), some (.int v2), some (.int v3), some (.int v4), some (.int v5), some (.int v6), some (.int v7), w8, w9], [x.1], x.2)) := by
  refine (ze_aload_n 40 zm176 dX10_isUnheard_39 rfl rfl).trans ?_
  refine (ze_iload_n 41 zm176 dX10_isUnheard_40 rfl rfl).trans ?_
  refine (ze_iload 43 zm176 dX10_isUnheard_41 rfl rfl).trans ?_
  exact ze_virtI (as := [.int v1, .int v7]) (rest := []) 46 zm176 dX10_isUnheard_43 r10_152 zm135 rfl rfl k173_10 rfl rfl rfl rfl
theorem b176_46 (sc : zScr) (v1 : Int32) (v2 : Int32) (v3 : Int32) (v4 : Int32) (v5 : Int32) (v6 : Int32) (v7 : Int32) (w8 : Option Value) (w9 : Option Value) (s0 : Int32) (i : Nat → Nat → Int32) (b : Bool) (l : Nat → Nat → Int64) : zev sc (176, 46, [some (.ref 173), some (.int v1), some (.int v2), some (.int v3), some (.int v4), some (.int v5), some (.int v6), some (.int v7), w8, w9], [.int s0], (197, i, (zRF b), l)) = if s0 = 0 then zev sc (176, 49, [some (.ref 173), some (.int v1), some (.int v2), some (.int v3), some (.int v4), some (.int v5), some (.int v6), some (.int v7), w8, w9], [], (197, i, (zRF b), l)) else zev sc (176, 53, [some (.ref 173), some (.int v1), some (.int v2), some (.int v3), some (.int v4), some (.int v5), some (.int v6), some (.int v7), w8, w9], [], (197, i, (zRF b), l)) := by
  exact ze_if_ne 53 49 zm176 dX10_isUnheard_46 (by decide) rfl
theorem b176_49 (sc : zScr) (v1 : Int32) (v2 : Int32) (v3 : Int32) (v4 : Int32) (v5 : Int32) (v6 : Int32) (v7 : Int32) (w8 : Option Value) (w9 : Option Value) (i : Nat → Nat → Int32) (b : Bool) (l : Nat → Nat → Int64) : zev sc (176, 49, [some (.ref 173), some (.int v1), some (.int v2), some (.int v3), some (.int v4), some (.int v5), some (.int v6), some (.int v7), w8, w9], [], (197, i, (zRF b), l)) = zev sc (176, 54, [some (.ref 173), some (.int v1), some (.int v2), some (.int v3), some (.int v4), some (.int v5), some (.int v6), some (.int v7), w8, w9], [.int (1 : Int32)], (197, i, (zRF b), l)) := by
  refine (ze_iconst 50 zm176 dX10_isUnheard_49 ci_1 rfl).trans ?_
  exact ze_goto 54 zm176 dX10_isUnheard_50 (by decide)
theorem b176_53 (sc : zScr) (v1 : Int32) (v2 : Int32) (v3 : Int32) (v4 : Int32) (v5 : Int32) (v6 : Int32) (v7 : Int32) (w8 : Option Value) (w9 : Option Value) (i : Nat → Nat → Int32) (b : Bool) (l : Nat → Nat → Int64) : zev sc (176, 53, [some (.ref 173), some (.int v1), some (.int v2), some (.int v3), some (.int v4), some (.int v5), some (.int v6), some (.int v7), w8, w9], [], (197, i, (zRF b), l)) = zev sc (176, 54, [some (.ref 173), some (.int v1), some (.int v2), some (.int v3), some (.int v4), some (.int v5), some (.int v6), some (.int v7), w8, w9], [.int (0 : Int32)], (197, i, (zRF b), l)) := by
  refine (ze_iconst 54 zm176 dX10_isUnheard_53 ci_0 rfl).trans ?_
  rfl
theorem b176_54 (sc : zScr) (v1 : Int32) (v2 : Int32) (v3 : Int32) (v4 : Int32) (v5 : Int32) (v6 : Int32) (v7 : Int32) (w8 : Option Value) (w9 : Option Value) (s0 : Int32) (i : Nat → Nat → Int32) (b : Bool) (l : Nat → Nat → Int64) (h1 : vp_in v7 16) : zev sc (176, 54, [some (.ref 173), some (.int v1), some (.int v2), some (.int v3), some (.int v4), some (.int v5), some (.int v6), some (.int v7), w8, w9], [.int s0], (197, i, (zRF b), l)) = (zev sc (120, 0, [some (.int v5), some (.int (i 177 v7.toNatClampNeg))], [], (197, i, (zRF b), l))).bind (fun x => zev sc (176, 68, [some (.ref 173), some (.int v1), some (.int v2), some (.int v3), some (.int v4), some (.int v5), some (.int v6), some (.int v7), some (.int s0), w9], [x.1], x.2)) := by
  refine (ze_istore (A := 99) (ls' := [some (.ref 173), some (.int v1), some (.int v2), some (.int v3), some (.int v4), some (.int v5), some (.int v6), some (.int v7), some (.int s0), w9]) 56 zm176 dX10_isUnheard_54 za176 rfl rfl rfl rfl rfl).trans ?_
  refine (ze_iload 58 zm176 dX10_isUnheard_56 rfl rfl).trans ?_
  refine (ze_aload_n 59 zm176 dX10_isUnheard_58 rfl rfl).trans ?_
  refine (ze_getR 62 zm176 dX10_isUnheard_59 f10_20 k173_10 t10_4 (rr173_4 b) rfl).trans ?_
  refine (ze_iload 64 zm176 dX10_isUnheard_62 rfl rfl).trans ?_
  refine (ze_iaload (t := v7.toNatClampNeg) 65 zm176 dX10_isUnheard_64 k177_100 n177 h1 rfl rfl).trans ?_
  exact ze_statI (as := [.int v5, .int (i 177 v7.toNatClampNeg)]) (rest := []) 68 zm176 dX10_isUnheard_65 r10_137 zm120 rfl rfl rfl rfl rfl rfl
theorem b176_68 (sc : zScr) (v1 : Int32) (v2 : Int32) (v3 : Int32) (v4 : Int32) (v5 : Int32) (v6 : Int32) (v7 : Int32) (v8 : Int32) (w9 : Option Value) (s0 : Int32) (i : Nat → Nat → Int32) (b : Bool) (l : Nat → Nat → Int64) : zev sc (176, 68, [some (.ref 173), some (.int v1), some (.int v2), some (.int v3), some (.int v4), some (.int v5), some (.int v6), some (.int v7), some (.int v8), w9], [.int s0], (197, i, (zRF b), l)) = if s0 = 0 then zev sc (176, 71, [some (.ref 173), some (.int v1), some (.int v2), some (.int v3), some (.int v4), some (.int v5), some (.int v6), some (.int v7), some (.int v8), w9], [], (197, i, (zRF b), l)) else zev sc (176, 86, [some (.ref 173), some (.int v1), some (.int v2), some (.int v3), some (.int v4), some (.int v5), some (.int v6), some (.int v7), some (.int v8), w9], [], (197, i, (zRF b), l)) := by
  exact ze_if_ne 86 71 zm176 dX10_isUnheard_68 (by decide) rfl
theorem b176_71 (sc : zScr) (v1 : Int32) (v2 : Int32) (v3 : Int32) (v4 : Int32) (v5 : Int32) (v6 : Int32) (v7 : Int32) (v8 : Int32) (w9 : Option Value) (i : Nat → Nat → Int32) (b : Bool) (l : Nat → Nat → Int64) (h1 : vp_in v7 16) : zev sc (176, 71, [some (.ref 173), some (.int v1), some (.int v2), some (.int v3), some (.int v4), some (.int v5), some (.int v6), some (.int v7), some (.int v8), w9], [], (197, i, (zRF b), l)) = (zev sc (120, 0, [some (.int v5), some (.int (i 178 v7.toNatClampNeg))], [], (197, i, (zRF b), l))).bind (fun x => zev sc (176, 83, [some (.ref 173), some (.int v1), some (.int v2), some (.int v3), some (.int v4), some (.int v5), some (.int v6), some (.int v7), some (.int v8), w9], [x.1], x.2)) := by
  refine (ze_iload 73 zm176 dX10_isUnheard_71 rfl rfl).trans ?_
  refine (ze_aload_n 74 zm176 dX10_isUnheard_73 rfl rfl).trans ?_
  refine (ze_getR 77 zm176 dX10_isUnheard_74 f10_23 k173_10 t10_5 (rr173_5 b) rfl).trans ?_
  refine (ze_iload 79 zm176 dX10_isUnheard_77 rfl rfl).trans ?_
  refine (ze_iaload (t := v7.toNatClampNeg) 80 zm176 dX10_isUnheard_79 k178_100 n178 h1 rfl rfl).trans ?_
  exact ze_statI (as := [.int v5, .int (i 178 v7.toNatClampNeg)]) (rest := []) 83 zm176 dX10_isUnheard_80 r10_137 zm120 rfl rfl rfl rfl rfl rfl
theorem b176_83 (sc : zScr) (v1 : Int32) (v2 : Int32) (v3 : Int32) (v4 : Int32) (v5 : Int32) (v6 : Int32) (v7 : Int32) (v8 : Int32) (w9 : Option Value) (s0 : Int32) (i : Nat → Nat → Int32) (b : Bool) (l : Nat → Nat → Int64) : zev sc (176, 83, [some (.ref 173), some (.int v1), some (.int v2), some (.int v3), some (.int v4), some (.int v5), some (.int v6), some (.int v7), some (.int v8), w9], [.int s0], (197, i, (zRF b), l)) = if s0 = 0 then zev sc (176, 90, [some (.ref 173), some (.int v1), some (.int v2), some (.int v3), some (.int v4), some (.int v5), some (.int v6), some (.int v7), some (.int v8), w9], [], (197, i, (zRF b), l)) else zev sc (176, 86, [some (.ref 173), some (.int v1), some (.int v2), some (.int v3), some (.int v4), some (.int v5), some (.int v6), some (.int v7), some (.int v8), w9], [], (197, i, (zRF b), l)) := by
  exact ze_if_eq 90 86 zm176 dX10_isUnheard_83 (by decide) rfl
theorem b176_86 (sc : zScr) (v1 : Int32) (v2 : Int32) (v3 : Int32) (v4 : Int32) (v5 : Int32) (v6 : Int32) (v7 : Int32) (v8 : Int32) (w9 : Option Value) (i : Nat → Nat → Int32) (b : Bool) (l : Nat → Nat → Int64) : zev sc (176, 86, [some (.ref 173), some (.int v1), some (.int v2), some (.int v3), some (.int v4), some (.int v5), some (.int v6), some (.int v7), some (.int v8), w9], [], (197, i, (zRF b), l)) = zev sc (176, 91, [some (.ref 173), some (.int v1), some (.int v2), some (.int v3), some (.int v4), some (.int v5), some (.int v6), some (.int v7), some (.int v8), w9], [.int (1 : Int32)], (197, i, (zRF b), l)) := by
  refine (ze_iconst 87 zm176 dX10_isUnheard_86 ci_1 rfl).trans ?_
  exact ze_goto 91 zm176 dX10_isUnheard_87 (by decide)
theorem b176_90 (sc : zScr) (v1 : Int32) (v2 : Int32) (v3 : Int32) (v4 : Int32) (v5 : Int32) (v6 : Int32) (v7 : Int32) (v8 : Int32) (w9 : Option Value) (i : Nat → Nat → Int32) (b : Bool) (l : Nat → Nat → Int64) : zev sc (176, 90, [some (.ref 173), some (.int v1), some (.int v2), some (.int v3), some (.int v4), some (.int v5), some (.int v6), some (.int v7), some (.int v8), w9], [], (197, i, (zRF b), l)) = zev sc (176, 91, [some (.ref 173), some (.int v1), some (.int v2), some (.int v3), some (.int v4), some (.int v5), some (.int v6), some (.int v7), some (.int v8), w9], [.int (0 : Int32)], (197, i, (zRF b), l)) := by
  refine (ze_iconst 91 zm176 dX10_isUnheard_90 ci_0 rfl).trans ?_
  rfl
theorem b176_91 (sc : zScr) (v1 : Int32) (v2 : Int32) (v3 : Int32) (v4 : Int32) (v5 : Int32) (v6 : Int32) (v7 : Int32) (v8 : Int32) (w9 : Option Value) (s0 : Int32) (i : Nat → Nat → Int32) (b : Bool) (l : Nat → Nat → Int64) : zev sc (176, 91, [some (.ref 173), some (.int v1), some (.int v2), some (.int v3), some (.int v4), some (.int v5), some (.int v6), some (.int v7), some (.int v8), w9], [.int s0], (197, i, (zRF b), l)) = if v8 = 0 then zev sc (176, 127, [some (.ref 173), some (.int v1), some (.int v2), some (.int v3), some (.int v4), some (.int v5), some (.int v6), some (.int v7), some (.int v8), some (.int s0)], [.int v5], (197, i, (zRF b), l)) else zev sc (176, 100, [some (.ref 173), some (.int v1), some (.int v2), some (.int v3), some (.int v4), some (.int v5), some (.int v6), some (.int v7), some (.int v8), some (.int s0)], [.int v5], (197, i, (zRF b), l)) := by
  refine (ze_istore (A := 99) (ls' := [some (.ref 173), some (.int v1), some (.int v2), some (.int v3), some (.int v4), some (.int v5), some (.int v6), some (.int v7), some (.int v8), some (.int s0)]) 93 zm176 dX10_isUnheard_91 za176 rfl rfl rfl rfl rfl).trans ?_
  refine (ze_iload 95 zm176 dX10_isUnheard_93 rfl rfl).trans ?_
  refine (ze_iload 97 zm176 dX10_isUnheard_95 rfl rfl).trans ?_
  exact ze_if_eq 127 100 zm176 dX10_isUnheard_97 (by decide) rfl
theorem b176_100 (sc : zScr) (v1 : Int32) (v2 : Int32) (v3 : Int32) (v4 : Int32) (v5 : Int32) (v6 : Int32) (v7 : Int32) (v8 : Int32) (v9 : Int32) (s0 : Int32) (i : Nat → Nat → Int32) (b : Bool) (l : Nat → Nat → Int64) : zev sc (176, 100, [some (.ref 173), some (.int v1), some (.int v2), some (.int v3), some (.int v4), some (.int v5), some (.int v6), some (.int v7), some (.int v8), some (.int v9)], [.int s0], (197, i, (zRF b), l)) = if v9 = 0 then zev sc (176, 127, [some (.ref 173), some (.int v1), some (.int v2), some (.int v3), some (.int v4), some (.int v5), some (.int v6), some (.int v7), some (.int v8), some (.int v9)], [.int s0], (197, i, (zRF b), l)) else zev sc (176, 105, [some (.ref 173), some (.int v1), some (.int v2), some (.int v3), some (.int v4), some (.int v5), some (.int v6), some (.int v7), some (.int v8), some (.int v9)], [.int s0], (197, i, (zRF b), l)) := by
  refine (ze_iload 102 zm176 dX10_isUnheard_100 rfl rfl).trans ?_
  exact ze_if_eq 127 105 zm176 dX10_isUnheard_102 (by decide) rfl
theorem b176_105 (sc : zScr) (v1 : Int32) (v2 : Int32) (v3 : Int32) (v4 : Int32) (v5 : Int32) (v6 : Int32) (v7 : Int32) (v8 : Int32) (v9 : Int32) (s0 : Int32) (i : Nat → Nat → Int32) (b : Bool) (l : Nat → Nat → Int64) (h1 : vp_in v7 16) : zev sc (176, 105, [some (.ref 173), some (.int v1), some (.int v2), some (.int v3), some (.int v4), some (.int v5), some (.int v6), some (.int v7), some (.int v8), some (.int v9)], [.int s0], (197, i, (zRF b), l)) = zev sc (176, 128, [some (.ref 173), some (.int v1), some (.int v2), some (.int v3), some (.int v4), some (.int v5), some (.int v6), some (.int v7), some (.int v8), some (.int v9)], [.int (((1 : Int32) <<< ((i 177 v7.toNatClampNeg) &&& 31)) ||| ((1 : Int32) <<< ((i 178 v7.toNatClampNeg) &&& 31))), .int s0], (197, i, (zRF b), l)) := by
  refine (ze_iconst 106 zm176 dX10_isUnheard_105 ci_1 rfl).trans ?_
  refine (ze_aload_n 107 zm176 dX10_isUnheard_106 rfl rfl).trans ?_
  refine (ze_getR 110 zm176 dX10_isUnheard_107 f10_20 k173_10 t10_4 (rr173_4 b) rfl).trans ?_
  refine (ze_iload 112 zm176 dX10_isUnheard_110 rfl rfl).trans ?_
  refine (ze_iaload (t := v7.toNatClampNeg) 113 zm176 dX10_isUnheard_112 k177_100 n177 h1 rfl rfl).trans ?_
  refine (ze_ishl 114 zm176 dX10_isUnheard_113 rfl).trans ?_
  refine (ze_iconst 115 zm176 dX10_isUnheard_114 ci_1 rfl).trans ?_
  refine (ze_aload_n 116 zm176 dX10_isUnheard_115 rfl rfl).trans ?_
  refine (ze_getR 119 zm176 dX10_isUnheard_116 f10_23 k173_10 t10_5 (rr173_5 b) rfl).trans ?_
  refine (ze_iload 121 zm176 dX10_isUnheard_119 rfl rfl).trans ?_
  refine (ze_iaload (t := v7.toNatClampNeg) 122 zm176 dX10_isUnheard_121 k178_100 n178 h1 rfl rfl).trans ?_
  refine (ze_ishl 123 zm176 dX10_isUnheard_122 rfl).trans ?_
  refine (ze_ior 124 zm176 dX10_isUnheard_123 rfl).trans ?_
  exact ze_goto 128 zm176 dX10_isUnheard_124 (by decide)
theorem b176_127 (sc : zScr) (v1 : Int32) (v2 : Int32) (v3 : Int32) (v4 : Int32) (v5 : Int32) (v6 : Int32) (v7 : Int32) (v8 : Int32) (v9 : Int32) (s0 : Int32) (i : Nat → Nat → Int32) (b : Bool) (l : Nat → Nat → Int64) : zev sc (176, 127, [some (.ref 173), some (.int v1), some (.int v2), some (.int v3), some (.int v4), some (.int v5), some (.int v6), some (.int v7), some (.int v8), some (.int v9)], [.int s0], (197, i, (zRF b), l)) = zev sc (176, 128, [some (.ref 173), some (.int v1), some (.int v2), some (.int v3), some (.int v4), some (.int v5), some (.int v6), some (.int v7), some (.int v8), some (.int v9)], [.int (0 : Int32), .int s0], (197, i, (zRF b), l)) := by
  refine (ze_iconst 128 zm176 dX10_isUnheard_127 ci_0 rfl).trans ?_
  rfl
theorem b176_128 (sc : zScr) (v1 : Int32) (v2 : Int32) (v3 : Int32) (v4 : Int32) (v5 : Int32) (v6 : Int32) (v7 : Int32) (v8 : Int32) (v9 : Int32) (s0 : Int32) (s1 : Int32) (i : Nat → Nat → Int32) (b : Bool) (l : Nat → Nat → Int64) : zev sc (176, 128, [some (.ref 173), some (.int v1), some (.int v2), some (.int v3), some (.int v4), some (.int v5), some (.int v6), some (.int v7), some (.int v8), some (.int v9)], [.int s0, .int s1], (197, i, (zRF b), l)) = zev sc (176, 18, [some (.ref 173), some (.int v1), some (.int v2), some (.int v3), some (.int v4), some (.int (s1 ||| s0)), some (.int v6), some (.int (v7 + 1)), some (.int v8), some (.int v9)], [], (197, i, (zRF b), l)) := by
  refine (ze_ior 129 zm176 dX10_isUnheard_128 rfl).trans ?_
  refine (ze_istore (A := 99) (ls' := [some (.ref 173), some (.int v1), some (.int v2), some (.int v3), some (.int v4), some (.int (s1 ||| s0)), some (.int v6), some (.int v7), some (.int v8), some (.int v9)]) 131 zm176 dX10_isUnheard_129 za176 rfl rfl rfl rfl rfl).trans ?_
  refine (ze_iinc (v := (1 : Int32)) (A := 99) (ls' := [some (.ref 173), some (.int v1), some (.int v2), some (.int v3), some (.int v4), some (.int (s1 ||| s0)), some (.int v6), some (.int (v7 + 1)), some (.int v8), some (.int v9)]) 134 zm176 dX10_isUnheard_131 rfl ci_1 za176 rfl rfl rfl rfl rfl).trans ?_
  exact ze_goto 18 zm176 dX10_isUnheard_134 (by decide)
theorem b176_137 (sc : zScr) (v1 : Int32) (v2 : Int32) (v3 : Int32) (v4 : Int32) (v5 : Int32) (v6 : Int32) (v7 : Int32) (w8 : Option Value) (w9 : Option Value) (i : Nat → Nat → Int32) (b : Bool) (l : Nat → Nat → Int64) : zev sc (176, 137, [some (.ref 173), some (.int v1), some (.int v2), some (.int v3), some (.int v4), some (.int v5), some (.int v6), some (.int v7), w8, w9], [], (197, i, (zRF b), l)) = zev sc (176, 8, [some (.ref 173), some (.int v1), some (.int v2), some (.int v3), some (.int v4), some (.int v5), some (.int (v6 + 1)), some (.int v7), w8, w9], [], (197, i, (zRF b), l)) := by
  refine (ze_iinc (v := (1 : Int32)) (A := 99) (ls' := [some (.ref 173), some (.int v1), some (.int v2), some (.int v3), some (.int v4), some (.int v5), some (.int (v6 + 1)), some (.int v7), w8, w9]) 140 zm176 dX10_isUnheard_137 rfl ci_1 za176 rfl rfl rfl rfl rfl).trans ?_
  exact ze_goto 8 zm176 dX10_isUnheard_140 (by decide)
theorem b176_143 (sc : zScr) (v1 : Int32) (v2 : Int32) (v3 : Int32) (v4 : Int32) (v5 : Int32) (v6 : Int32) (w7 : Option Value) (w8 : Option Value) (w9 : Option Value) (i : Nat → Nat → Int32) (b : Bool) (l : Nat → Nat → Int64) : zev sc (176, 143, [some (.ref 173), some (.int v1), some (.int v2), some (.int v3), some (.int v4), some (.int v5), some (.int v6), w7, w8, w9], [], (197, i, (zRF b), l)) = (zev sc (120, 0, [some (.int v5), some (.int v3)], [], (197, i, (zRF b), l))).bind (fun x => zev sc (176, 149, [some (.ref 173), some (.int v1), some (.int v2), some (.int v3), some (.int v4), some (.int v5), some (.int v6), w7, w8, w9], [x.1], x.2)) := by
  refine (ze_iload 145 zm176 dX10_isUnheard_143 rfl rfl).trans ?_
  refine (ze_iload_n 146 zm176 dX10_isUnheard_145 rfl rfl).trans ?_
  exact ze_statI (as := [.int v5, .int v3]) (rest := []) 149 zm176 dX10_isUnheard_146 r10_137 zm120 rfl rfl rfl rfl rfl rfl
theorem b176_149 (sc : zScr) (v1 : Int32) (v2 : Int32) (v3 : Int32) (v4 : Int32) (v5 : Int32) (v6 : Int32) (w7 : Option Value) (w8 : Option Value) (w9 : Option Value) (s0 : Int32) (i : Nat → Nat → Int32) (b : Bool) (l : Nat → Nat → Int64) (h1 : s0 = 0 ∨ s0 = 1) : zev sc (176, 149, [some (.ref 173), some (.int v1), some (.int v2), some (.int v3), some (.int v4), some (.int v5), some (.int v6), w7, w8, w9], [.int s0], (197, i, (zRF b), l)) = some (.int s0, (197, i, (zRF b), l)) := by
  exact ze_zreturn zm176 dX10_isUnheard_149 rfl h1
/-! HarpFencesModel.frost (IIIIII)I: method 177 -/
theorem b177_0 (sc : zScr) (v1 : Int32) (v2 : Int32) (v3 : Int32) (v4 : Int32) (v5 : Int32) (v6 : Int32) (i : Nat → Nat → Int32) (b : Bool) (l : Nat → Nat → Int64) : zev sc (177, 0, [some (.ref 173), some (.int v1), some (.int v2), some (.int v3), some (.int v4), some (.int v5), some (.int v6), none, none, none, none, none, none], [], (197, i, (zRF b), l)) = (zev sc (133, 0, [some (.ref 173), some (.int v1)], [], (197, i, (zRF b), l))).bind (fun x => zev sc (177, 5, [some (.ref 173), some (.int v1), some (.int v2), some (.int v3), some (.int v4), some (.int v5), some (.int v6), none, none, none, none, none, none], [x.1], x.2)) := by
  refine (ze_aload_n 1 zm177 dX10_frost_0 rfl rfl).trans ?_
  refine (ze_iload_n 2 zm177 dX10_frost_1 rfl rfl).trans ?_
  exact ze_virtI (as := [.int v1]) (rest := []) 5 zm177 dX10_frost_2 r10_145 zm133 rfl rfl k173_10 rfl rfl rfl rfl
theorem b177_5 (sc : zScr) (v1 : Int32) (v2 : Int32) (v3 : Int32) (v4 : Int32) (v5 : Int32) (v6 : Int32) (s0 : Int32) (i : Nat → Nat → Int32) (b : Bool) (l : Nat → Nat → Int64) : zev sc (177, 5, [some (.ref 173), some (.int v1), some (.int v2), some (.int v3), some (.int v4), some (.int v5), some (.int v6), none, none, none, none, none, none], [.int s0], (197, i, (zRF b), l)) = if s0 = 0 then zev sc (177, 56, [some (.ref 173), some (.int v1), some (.int v2), some (.int v3), some (.int v4), some (.int v5), some (.int v6), none, none, none, none, none, none], [], (197, i, (zRF b), l)) else zev sc (177, 8, [some (.ref 173), some (.int v1), some (.int v2), some (.int v3), some (.int v4), some (.int v5), some (.int v6), none, none, none, none, none, none], [], (197, i, (zRF b), l)) := by
  exact ze_if_eq 56 8 zm177 dX10_frost_5 (by decide) rfl
theorem b177_8 (sc : zScr) (v1 : Int32) (v2 : Int32) (v3 : Int32) (v4 : Int32) (v5 : Int32) (v6 : Int32) (i : Nat → Nat → Int32) (b : Bool) (l : Nat → Nat → Int64) : zev sc (177, 8, [some (.ref 173), some (.int v1), some (.int v2), some (.int v3), some (.int v4), some (.int v5), some (.int v6), none, none, none, none, none, none], [], (197, i, (zRF b), l)) = (zev sc (131, 0, [some (.ref 173), some (.int v2)], [], (197, i, (zRF b), l))).bind (fun x => zev sc (177, 13, [some (.ref 173), some (.int v1), some (.int v2), some (.int v3), some (.int v4), some (.int v5), some (.int v6), none, none, none, none, none, none], [x.1], x.2)) := by
  refine (ze_aload_n 9 zm177 dX10_frost_8 rfl rfl).trans ?_
  refine (ze_iload_n 10 zm177 dX10_frost_9 rfl rfl).trans ?_
  exact ze_virtI (as := [.int v2]) (rest := []) 13 zm177 dX10_frost_10 r10_192 zm131 rfl rfl k173_10 rfl rfl rfl rfl
theorem b177_13 (sc : zScr) (v1 : Int32) (v2 : Int32) (v3 : Int32) (v4 : Int32) (v5 : Int32) (v6 : Int32) (s0 : Int32) (i : Nat → Nat → Int32) (b : Bool) (l : Nat → Nat → Int64) : zev sc (177, 13, [some (.ref 173), some (.int v1), some (.int v2), some (.int v3), some (.int v4), some (.int v5), some (.int v6), none, none, none, none, none, none], [.int s0], (197, i, (zRF b), l)) = if s0 = 0 then zev sc (177, 56, [some (.ref 173), some (.int v1), some (.int v2), some (.int v3), some (.int v4), some (.int v5), some (.int v6), none, none, none, none, none, none], [], (197, i, (zRF b), l)) else zev sc (177, 16, [some (.ref 173), some (.int v1), some (.int v2), some (.int v3), some (.int v4), some (.int v5), some (.int v6), none, none, none, none, none, none], [], (197, i, (zRF b), l)) := by
  exact ze_if_eq 56 16 zm177 dX10_frost_13 (by decide) rfl
theorem b177_16 (sc : zScr) (v1 : Int32) (v2 : Int32) (v3 : Int32) (v4 : Int32) (v5 : Int32) (v6 : Int32) (i : Nat → Nat → Int32) (b : Bool) (l : Nat → Nat → Int64) : zev sc (177, 16, [some (.ref 173), some (.int v1), some (.int v2), some (.int v3), some (.int v4), some (.int v5), some (.int v6), none, none, none, none, none, none], [], (197, i, (zRF b), l)) = (zev sc (131, 0, [some (.ref 173), some (.int v3)], [], (197, i, (zRF b), l))).bind (fun x => zev sc (177, 21, [some (.ref 173), some (.int v1), some (.int v2), some (.int v3), some (.int v4), some (.int v5), some (.int v6), none, none, none, none, none, none], [x.1], x.2)) := by
  refine (ze_aload_n 17 zm177 dX10_frost_16 rfl rfl).trans ?_
  refine (ze_iload_n 18 zm177 dX10_frost_17 rfl rfl).trans ?_
  exact ze_virtI (as := [.int v3]) (rest := []) 21 zm177 dX10_frost_18 r10_192 zm131 rfl rfl k173_10 rfl rfl rfl rfl
theorem b177_21 (sc : zScr) (v1 : Int32) (v2 : Int32) (v3 : Int32) (v4 : Int32) (v5 : Int32) (v6 : Int32) (s0 : Int32) (i : Nat → Nat → Int32) (b : Bool) (l : Nat → Nat → Int64) : zev sc (177, 21, [some (.ref 173), some (.int v1), some (.int v2), some (.int v3), some (.int v4), some (.int v5), some (.int v6), none, none, none, none, none, none], [.int s0], (197, i, (zRF b), l)) = if s0 = 0 then zev sc (177, 56, [some (.ref 173), some (.int v1), some (.int v2), some (.int v3), some (.int v4), some (.int v5), some (.int v6), none, none, none, none, none, none], [], (197, i, (zRF b), l)) else zev sc (177, 24, [some (.ref 173), some (.int v1), some (.int v2), some (.int v3), some (.int v4), some (.int v5), some (.int v6), none, none, none, none, none, none], [], (197, i, (zRF b), l)) := by
  exact ze_if_eq 56 24 zm177 dX10_frost_21 (by decide) rfl
theorem b177_24 (sc : zScr) (v1 : Int32) (v2 : Int32) (v3 : Int32) (v4 : Int32) (v5 : Int32) (v6 : Int32) (i : Nat → Nat → Int32) (b : Bool) (l : Nat → Nat → Int64) : zev sc (177, 24, [some (.ref 173), some (.int v1), some (.int v2), some (.int v3), some (.int v4), some (.int v5), some (.int v6), none, none, none, none, none, none], [], (197, i, (zRF b), l)) = (zev sc (119, 0, [some (.int v4), some (.int (0 : Int32)), some (.int (40 : Int32))], [], (197, i, (zRF b), l))).bind (fun x => zev sc (177, 32, [some (.ref 173), some (.int v1), some (.int v2), some (.int v3), some (.int v4), some (.int v5), some (.int v6), none, none, none, none, none, none], [x.1], x.2)) := by
  refine (ze_iload 26 zm177 dX10_frost_24 rfl rfl).trans ?_
  refine (ze_iconst 27 zm177 dX10_frost_26 ci_0 rfl).trans ?_
  refine (ze_bipush 29 zm177 dX10_frost_27 cb_40 rfl).trans ?_
  exact ze_statI (as := [.int v4, .int (0 : Int32), .int (40 : Int32)]) (rest := []) 32 zm177 dX10_frost_29 r10_81 zm119 rfl rfl rfl rfl rfl rfl
theorem b177_32 (sc : zScr) (v1 : Int32) (v2 : Int32) (v3 : Int32) (v4 : Int32) (v5 : Int32) (v6 : Int32) (s0 : Int32) (i : Nat → Nat → Int32) (b : Bool) (l : Nat → Nat → Int64) : zev sc (177, 32, [some (.ref 173), some (.int v1), some (.int v2), some (.int v3), some (.int v4), some (.int v5), some (.int v6), none, none, none, none, none, none], [.int s0], (197, i, (zRF b), l)) = if s0 = 0 then zev sc (177, 56, [some (.ref 173), some (.int v1), some (.int v2), some (.int v3), some (.int v4), some (.int v5), some (.int v6), none, none, none, none, none, none], [], (197, i, (zRF b), l)) else zev sc (177, 35, [some (.ref 173), some (.int v1), some (.int v2), some (.int v3), some (.int v4), some (.int v5), some (.int v6), none, none, none, none, none, none], [], (197, i, (zRF b), l)) := by
  exact ze_if_eq 56 35 zm177 dX10_frost_32 (by decide) rfl
theorem b177_35 (sc : zScr) (v1 : Int32) (v2 : Int32) (v3 : Int32) (v4 : Int32) (v5 : Int32) (v6 : Int32) (i : Nat → Nat → Int32) (b : Bool) (l : Nat → Nat → Int64) : zev sc (177, 35, [some (.ref 173), some (.int v1), some (.int v2), some (.int v3), some (.int v4), some (.int v5), some (.int v6), none, none, none, none, none, none], [], (197, i, (zRF b), l)) = (zev sc (119, 0, [some (.int v5), some (.int (0 : Int32)), some (.int (10 : Int32))], [], (197, i, (zRF b), l))).bind (fun x => zev sc (177, 43, [some (.ref 173), some (.int v1), some (.int v2), some (.int v3), some (.int v4), some (.int v5), some (.int v6), none, none, none, none, none, none], [x.1], x.2)) := by
  refine (ze_iload 37 zm177 dX10_frost_35 rfl rfl).trans ?_
  refine (ze_iconst 38 zm177 dX10_frost_37 ci_0 rfl).trans ?_
  refine (ze_bipush 40 zm177 dX10_frost_38 cb_10 rfl).trans ?_
  exact ze_statI (as := [.int v5, .int (0 : Int32), .int (10 : Int32)]) (rest := []) 43 zm177 dX10_frost_40 r10_81 zm119 rfl rfl rfl rfl rfl rfl
theorem b177_43 (sc : zScr) (v1 : Int32) (v2 : Int32) (v3 : Int32) (v4 : Int32) (v5 : Int32) (v6 : Int32) (s0 : Int32) (i : Nat → Nat → Int32) (b : Bool) (l : Nat → Nat → Int64) : zev sc (177, 43, [some (.ref 173), some (.int v1), some (.int v2), some (.int v3), some (.int v4), some (.int v5), some (.int v6), none, none, none, none, none, none], [.int s0], (197, i, (zRF b), l)) = if s0 = 0 then zev sc (177, 56, [some (.ref 173), some (.int v1), some (.int v2), some (.int v3), some (.int v4), some (.int v5), some (.int v6), none, none, none, none, none, none], [], (197, i, (zRF b), l)) else zev sc (177, 46, [some (.ref 173), some (.int v1), some (.int v2), some (.int v3), some (.int v4), some (.int v5), some (.int v6), none, none, none, none, none, none], [], (197, i, (zRF b), l)) := by
  exact ze_if_eq 56 46 zm177 dX10_frost_43 (by decide) rfl
theorem b177_46 (sc : zScr) (v1 : Int32) (v2 : Int32) (v3 : Int32) (v4 : Int32) (v5 : Int32) (v6 : Int32) (i : Nat → Nat → Int32) (b : Bool) (l : Nat → Nat → Int64) : zev sc (177, 46, [some (.ref 173), some (.int v1), some (.int v2), some (.int v3), some (.int v4), some (.int v5), some (.int v6), none, none, none, none, none, none], [], (197, i, (zRF b), l)) = (zev sc (119, 0, [some (.int v6), some (.int (0 : Int32)), some (.int (1 : Int32))], [], (197, i, (zRF b), l))).bind (fun x => zev sc (177, 53, [some (.ref 173), some (.int v1), some (.int v2), some (.int v3), some (.int v4), some (.int v5), some (.int v6), none, none, none, none, none, none], [x.1], x.2)) := by
  refine (ze_iload 48 zm177 dX10_frost_46 rfl rfl).trans ?_
  refine (ze_iconst 49 zm177 dX10_frost_48 ci_0 rfl).trans ?_
  refine (ze_iconst 50 zm177 dX10_frost_49 ci_1 rfl).trans ?_
  exact ze_statI (as := [.int v6, .int (0 : Int32), .int (1 : Int32)]) (rest := []) 53 zm177 dX10_frost_50 r10_81 zm119 rfl rfl rfl rfl rfl rfl
theorem b177_53 (sc : zScr) (v1 : Int32) (v2 : Int32) (v3 : Int32) (v4 : Int32) (v5 : Int32) (v6 : Int32) (s0 : Int32) (i : Nat → Nat → Int32) (b : Bool) (l : Nat → Nat → Int64) : zev sc (177, 53, [some (.ref 173), some (.int v1), some (.int v2), some (.int v3), some (.int v4), some (.int v5), some (.int v6), none, none, none, none, none, none], [.int s0], (197, i, (zRF b), l)) = if s0 = 0 then zev sc (177, 56, [some (.ref 173), some (.int v1), some (.int v2), some (.int v3), some (.int v4), some (.int v5), some (.int v6), none, none, none, none, none, none], [], (197, i, (zRF b), l)) else zev sc (177, 58, [some (.ref 173), some (.int v1), some (.int v2), some (.int v3), some (.int v4), some (.int v5), some (.int v6), none, none, none, none, none, none], [], (197, i, (zRF b), l)) := by
  exact ze_if_ne 58 56 zm177 dX10_frost_53 (by decide) rfl
theorem b177_56 (sc : zScr) (v1 : Int32) (v2 : Int32) (v3 : Int32) (v4 : Int32) (v5 : Int32) (v6 : Int32) (i : Nat → Nat → Int32) (b : Bool) (l : Nat → Nat → Int64) : zev sc (177, 56, [some (.ref 173), some (.int v1), some (.int v2), some (.int v3), some (.int v4), some (.int v5), some (.int v6), none, none, none, none, none, none], [], (197, i, (zRF b), l)) = some (.int (-1 : Int32), (197, i, (zRF b), l)) := by
  refine (ze_iconst 57 zm177 dX10_frost_56 ci_m1 rfl).trans ?_
  exact ze_ireturn zm177 dX10_frost_57 rfl
theorem b177_58 (sc : zScr) (v1 : Int32) (v2 : Int32) (v3 : Int32) (v4 : Int32) (v5 : Int32) (v6 : Int32) (i : Nat → Nat → Int32) (b : Bool) (l : Nat → Nat → Int64) : zev sc (177, 58, [some (.ref 173), some (.int v1), some (.int v2), some (.int v3), some (.int v4), some (.int v5), some (.int v6), none, none, none, none, none, none], [], (197, i, (zRF b), l)) = zev sc (177, 67, [some (.ref 173), some (.int v1), some (.int v2), some (.int v3), some (.int v4), some (.int v5), some (.int v6), some (.int (0 : Int32)), some (.int (1 : Int32)), some (.int (0 : Int32)), none, none, none], [], (197, i, (zRF b), l)) := by
  refine (ze_iconst 59 zm177 dX10_frost_58 ci_0 rfl).trans ?_
  refine (ze_istore (A := 99) (ls' := [some (.ref 173), some (.int v1), some (.int v2), some (.int v3), some (.int v4), some (.int v5), some (.int v6), some (.int (0 : Int32)), none, none, none, none, none]) 61 zm177 dX10_frost_59 za177 rfl rfl rfl rfl rfl).trans ?_
  refine (ze_iconst 62 zm177 dX10_frost_61 ci_1 rfl).trans ?_
  refine (ze_istore (A := 99) (ls' := [some (.ref 173), some (.int v1), some (.int v2), some (.int v3), some (.int v4), some (.int v5), some (.int v6), some (.int (0 : Int32)), some (.int (1 : Int32)), none, none, none, none]) 64 zm177 dX10_frost_62 za177 rfl rfl rfl rfl rfl).trans ?_
  refine (ze_iconst 65 zm177 dX10_frost_64 ci_0 rfl).trans ?_
  refine (ze_istore (A := 99) (ls' := [some (.ref 173), some (.int v1), some (.int v2), some (.int v3), some (.int v4), some (.int v5), some (.int v6), some (.int (0 : Int32)), some (.int (1 : Int32)), some (.int (0 : Int32)), none, none, none]) 67 zm177 dX10_frost_65 za177 rfl rfl rfl rfl rfl).trans ?_
  rfl
theorem b177_67 (sc : zScr) (v1 : Int32) (v2 : Int32) (v3 : Int32) (v4 : Int32) (v5 : Int32) (v6 : Int32) (v7 : Int32) (v8 : Int32) (v9 : Int32) (w10 : Option Value) (i : Nat → Nat → Int32) (b : Bool) (l : Nat → Nat → Int64) : zev sc (177, 67, [some (.ref 173), some (.int v1), some (.int v2), some (.int v3), some (.int v4), some (.int v5), some (.int v6), some (.int v7), some (.int v8), some (.int v9), w10, none, none], [], (197, i, (zRF b), l)) = if (i 176 0) ≤ v9 then zev sc (177, 149, [some (.ref 173), some (.int v1), some (.int v2), some (.int v3), some (.int v4), some (.int v5), some (.int v6), some (.int v7), some (.int v8), some (.int v9), w10, none, none], [], (197, i, (zRF b), l)) else zev sc (177, 78, [some (.ref 173), some (.int v1), some (.int v2), some (.int v3), some (.int v4), some (.int v5), some (.int v6), some (.int v7), some (.int v8), some (.int v9), w10, none, none], [], (197, i, (zRF b), l)) := by
  refine (ze_iload 69 zm177 dX10_frost_67 rfl rfl).trans ?_
  refine (ze_aload_n 70 zm177 dX10_frost_69 rfl rfl).trans ?_
  refine (ze_getR 73 zm177 dX10_frost_70 f10_17 k173_10 t10_3 (rr173_3 b) rfl).trans ?_
  refine (ze_iconst 74 zm177 dX10_frost_73 ci_0 rfl).trans ?_
  refine (ze_iaload (t := 0) 75 zm177 dX10_frost_74 k176_100 n176 vi_0_2 tn_0 rfl).trans ?_
  exact ze_icmp_ge 149 78 zm177 dX10_frost_75 (by decide) rfl
theorem b177_78 (sc : zScr) (v1 : Int32) (v2 : Int32) (v3 : Int32) (v4 : Int32) (v5 : Int32) (v6 : Int32) (v7 : Int32) (v8 : Int32) (v9 : Int32) (w10 : Option Value) (i : Nat → Nat → Int32) (b : Bool) (l : Nat → Nat → Int64) : zev sc (177, 78, [some (.ref 173), some (.int v1), some (.int v2), some (.int v3), some (.int v4), some (.int v5), some (.int v6), some (.int v7), some (.int v8), some (.int v9), w10, none, none], [], (197, i, (zRF b), l)) = (zev sc (138, 0, [some (.ref 173), some (.int v9)], [], (197, i, (zRF b), l))).bind (fun x => zev sc (177, 84, [some (.ref 173), some (.int v1), some (.int v2), some (.int v3), some (.int v4), some (.int v5), some (.int v6), some (.int v7), some (.int v8), some (.int v9), w10, none, none], [x.1], x.2)) := by
  refine (ze_aload_n 79 zm177 dX10_frost_78 rfl rfl).trans ?_
  refine (ze_iload 81 zm177 dX10_frost_79 rfl rfl).trans ?_
  exact ze_virtI (as := [.int v9]) (rest := []) 84 zm177 dX10_frost_81 r10_174 zm138 rfl rfl k173_10 rfl rfl rfl rfl
theorem b177_84 (sc : zScr) (v1 : Int32) (v2 : Int32) (v3 : Int32) (v4 : Int32) (v5 : Int32) (v6 : Int32) (v7 : Int32) (v8 : Int32) (v9 : Int32) (w10 : Option Value) (s0 : Int32) (i : Nat → Nat → Int32) (b : Bool) (l : Nat → Nat → Int64) : zev sc (177, 84, [some (.ref 173), some (.int v1), some (.int v2), some (.int v3), some (.int v4), some (.int v5), some (.int v6), some (.int v7), some (.int v8), some (.int v9), w10, none, none], [.int s0], (197, i, (zRF b), l)) = if s0 = 0 then zev sc (177, 106, [some (.ref 173), some (.int v1), some (.int v2), some (.int v3), some (.int v4), some (.int v5), some (.int v6), some (.int v7), some (.int v8), some (.int v9), w10, none, none], [], (197, i, (zRF b), l)) else zev sc (177, 87, [some (.ref 173), some (.int v1), some (.int v2), some (.int v3), some (.int v4), some (.int v5), some (.int v6), some (.int v7), some (.int v8), some (.int v9), w10, none, none], [], (197, i, (zRF b), l)) := by
  exact ze_if_eq 106 87 zm177 dX10_frost_84 (by decide) rfl
theorem b177_87 (sc : zScr) (v1 : Int32) (v2 : Int32) (v3 : Int32) (v4 : Int32) (v5 : Int32) (v6 : Int32) (v7 : Int32) (v8 : Int32) (v9 : Int32) (w10 : Option Value) (i : Nat → Nat → Int32) (b : Bool) (l : Nat → Nat → Int64) (h1 : vp_in ((6 : Int32) + v9) 30) : zev sc (177, 87, [some (.ref 173), some (.int v1), some (.int v2), some (.int v3), some (.int v4), some (.int v5), some (.int v6), some (.int v7), some (.int v8), some (.int v9), w10, none, none], [], (197, i, (zRF b), l)) = if (i 187 (((6 : Int32) + v9)).toNatClampNeg) < v4 then zev sc (177, 106, [some (.ref 173), some (.int v1), some (.int v2), some (.int v3), some (.int v4), some (.int v5), some (.int v6), some (.int v7), some (.int v8), some (.int v9), w10, none, none], [], (197, i, (zRF b), l)) else zev sc (177, 102, [some (.ref 173), some (.int v1), some (.int v2), some (.int v3), some (.int v4), some (.int v5), some (.int v6), some (.int v7), some (.int v8), some (.int v9), w10, none, none], [], (197, i, (zRF b), l)) := by
  refine (ze_aload_n 88 zm177 dX10_frost_87 rfl rfl).trans ?_
  refine (ze_getR 91 zm177 dX10_frost_88 f10_50 k173_10 t10_20 (rr173_20 b) rfl).trans ?_
  refine (ze_bipush 93 zm177 dX10_frost_91 cb_6 rfl).trans ?_
  refine (ze_iload 95 zm177 dX10_frost_93 rfl rfl).trans ?_
  refine (ze_iadd 96 zm177 dX10_frost_95 rfl).trans ?_
  refine (ze_iaload (t := (((6 : Int32) + v9)).toNatClampNeg) 97 zm177 dX10_frost_96 k187_100 n187 h1 rfl rfl).trans ?_
  refine (ze_iload 99 zm177 dX10_frost_97 rfl rfl).trans ?_
  exact ze_icmp_lt 106 102 zm177 dX10_frost_99 (by decide) rfl
theorem b177_102 (sc : zScr) (v1 : Int32) (v2 : Int32) (v3 : Int32) (v4 : Int32) (v5 : Int32) (v6 : Int32) (v7 : Int32) (v8 : Int32) (v9 : Int32) (w10 : Option Value) (i : Nat → Nat → Int32) (b : Bool) (l : Nat → Nat → Int64) : zev sc (177, 102, [some (.ref 173), some (.int v1), some (.int v2), some (.int v3), some (.int v4), some (.int v5), some (.int v6), some (.int v7), some (.int v8), some (.int v9), w10, none, none], [], (197, i, (zRF b), l)) = zev sc (177, 107, [some (.ref 173), some (.int v1), some (.int v2), some (.int v3), some (.int v4), some (.int v5), some (.int v6), some (.int v7), some (.int v8), some (.int v9), w10, none, none], [.int (1 : Int32)], (197, i, (zRF b), l)) := by
  refine (ze_iconst 103 zm177 dX10_frost_102 ci_1 rfl).trans ?_
  exact ze_goto 107 zm177 dX10_frost_103 (by decide)
theorem b177_106 (sc : zScr) (v1 : Int32) (v2 : Int32) (v3 : Int32) (v4 : Int32) (v5 : Int32) (v6 : Int32) (v7 : Int32) (v8 : Int32) (v9 : Int32) (w10 : Option Value) (i : Nat → Nat → Int32) (b : Bool) (l : Nat → Nat → Int64) : zev sc (177, 106, [some (.ref 173), some (.int v1), some (.int v2), some (.int v3), some (.int v4), some (.int v5), some (.int v6), some (.int v7), some (.int v8), some (.int v9), w10, none, none], [], (197, i, (zRF b), l)) = zev sc (177, 107, [some (.ref 173), some (.int v1), some (.int v2), some (.int v3), some (.int v4), some (.int v5), some (.int v6), some (.int v7), some (.int v8), some (.int v9), w10, none, none], [.int (0 : Int32)], (197, i, (zRF b), l)) := by
  refine (ze_iconst 107 zm177 dX10_frost_106 ci_0 rfl).trans ?_
  rfl
theorem b177_107 (sc : zScr) (v1 : Int32) (v2 : Int32) (v3 : Int32) (v4 : Int32) (v5 : Int32) (v6 : Int32) (v7 : Int32) (v8 : Int32) (v9 : Int32) (w10 : Option Value) (s0 : Int32) (i : Nat → Nat → Int32) (b : Bool) (l : Nat → Nat → Int64) : zev sc (177, 107, [some (.ref 173), some (.int v1), some (.int v2), some (.int v3), some (.int v4), some (.int v5), some (.int v6), some (.int v7), some (.int v8), some (.int v9), w10, none, none], [.int s0], (197, i, (zRF b), l)) = if s0 = 0 then zev sc (177, 123, [some (.ref 173), some (.int v1), some (.int v2), some (.int v3), some (.int v4), some (.int v5), some (.int v6), some (.int v7), some (.int v8), some (.int v9), some (.int s0), none, none], [.int v7], (197, i, (zRF b), l)) else zev sc (177, 116, [some (.ref 173), some (.int v1), some (.int v2), some (.int v3), some (.int v4), some (.int v5), some (.int v6), some (.int v7), some (.int v8), some (.int v9), some (.int s0), none, none], [.int v7], (197, i, (zRF b), l)) := by
  refine (ze_istore (A := 99) (ls' := [some (.ref 173), some (.int v1), some (.int v2), some (.int v3), some (.int v4), some (.int v5), some (.int v6), some (.int v7), some (.int v8), some (.int v9), some (.int s0), none, none]) 109 zm177 dX10_frost_107 za177 rfl rfl rfl rfl rfl).trans ?_
  refine (ze_iload 111 zm177 dX10_frost_109 rfl rfl).trans ?_
  refine (ze_iload 113 zm177 dX10_frost_111 rfl rfl).trans ?_
  exact ze_if_eq 123 116 zm177 dX10_frost_113 (by decide) rfl
theorem b177_116 (sc : zScr) (v1 : Int32) (v2 : Int32) (v3 : Int32) (v4 : Int32) (v5 : Int32) (v6 : Int32) (v7 : Int32) (v8 : Int32) (v9 : Int32) (v10 : Int32) (s0 : Int32) (i : Nat → Nat → Int32) (b : Bool) (l : Nat → Nat → Int64) : zev sc (177, 116, [some (.ref 173), some (.int v1), some (.int v2), some (.int v3), some (.int v4), some (.int v5), some (.int v6), some (.int v7), some (.int v8), some (.int v9), some (.int v10), none, none], [.int s0], (197, i, (zRF b), l)) = zev sc (177, 124, [some (.ref 173), some (.int v1), some (.int v2), some (.int v3), some (.int v4), some (.int v5), some (.int v6), some (.int v7), some (.int v8), some (.int v9), some (.int v10), none, none], [.int ((1 : Int32) <<< (v9 &&& 31)), .int s0], (197, i, (zRF b), l)) := by
  refine (ze_iconst 117 zm177 dX10_frost_116 ci_1 rfl).trans ?_
  refine (ze_iload 119 zm177 dX10_frost_117 rfl rfl).trans ?_
  refine (ze_ishl 120 zm177 dX10_frost_119 rfl).trans ?_
  exact ze_goto 124 zm177 dX10_frost_120 (by decide)
theorem b177_123 (sc : zScr) (v1 : Int32) (v2 : Int32) (v3 : Int32) (v4 : Int32) (v5 : Int32) (v6 : Int32) (v7 : Int32) (v8 : Int32) (v9 : Int32) (v10 : Int32) (s0 : Int32) (i : Nat → Nat → Int32) (b : Bool) (l : Nat → Nat → Int64) : zev sc (177, 123, [some (.ref 173), some (.int v1), some (.int v2), some (.int v3), some (.int v4), some (.int v5), some (.int v6), some (.int v7), some (.int v8), some (.int v9), some (.int v10), none, none], [.int s0], (197, i, (zRF b), l)) = zev sc (177, 124, [some (.ref 173), some (.int v1), some (.int v2), some (.int v3), some (.int v4), some (.int v5), some (.int v6), some (.int v7), some (.int v8), some (.int v9), some (.int v10), none, none], [.int (0 : Int32), .int s0], (197, i, (zRF b), l)) := by
  refine (ze_iconst 124 zm177 dX10_frost_123 ci_0 rfl).trans ?_
  rfl
theorem b177_124 (sc : zScr) (v1 : Int32) (v2 : Int32) (v3 : Int32) (v4 : Int32) (v5 : Int32) (v6 : Int32) (v7 : Int32) (v8 : Int32) (v9 : Int32) (v10 : Int32) (s0 : Int32) (s1 : Int32) (i : Nat → Nat → Int32) (b : Bool) (l : Nat → Nat → Int64) : zev sc (177, 124, [some (.ref 173), some (.int v1), some (.int v2), some (.int v3), some (.int v4), some (.int v5), some (.int v6), some (.int v7), some (.int v8), some (.int v9), some (.int v10), none, none], [.int s0, .int s1], (197, i, (zRF b), l)) = if v10 = 0 then zev sc (177, 139, [some (.ref 173), some (.int v1), some (.int v2), some (.int v3), some (.int v4), some (.int v5), some (.int v6), some (.int (s1 ||| s0)), some (.int v8), some (.int v9), some (.int v10), none, none], [.int v8], (197, i, (zRF b), l)) else zev sc (177, 134, [some (.ref 173), some (.int v1), some (.int v2), some (.int v3), some (.int v4), some (.int v5), some (.int v6), some (.int (s1 ||| s0)), some (.int v8), some (.int v9), some (.int v10), none, none], [.int v8], (197, i, (zRF b), l)) := by
  refine (ze_ior 125 zm177 dX10_frost_124 rfl).trans ?_
  refine (ze_istore (A := 99) (ls' := [some (.ref 173), some (.int v1), some (.int v2), some (.int v3), some (.int v4), some (.int v5), some (.int v6), some (.int (s1 ||| s0)), some (.int v8), some (.int v9), some (.int v10), none, none]) 127 zm177 dX10_frost_125 za177 rfl rfl rfl rfl rfl).trans ?_
  refine (ze_iload 129 zm177 dX10_frost_127 rfl rfl).trans ?_
  refine (ze_iload 131 zm177 dX10_frost_129 rfl rfl).trans ?_
  exact ze_if_eq 139 134 zm177 dX10_frost_131 (by decide) rfl
theorem b177_134 (sc : zScr) (v1 : Int32) (v2 : Int32) (v3 : Int32) (v4 : Int32) (v5 : Int32) (v6 : Int32) (v7 : Int32) (v8 : Int32) (v9 : Int32) (v10 : Int32) (s0 : Int32) (i : Nat → Nat → Int32) (b : Bool) (l : Nat → Nat → Int64) : zev sc (177, 134, [some (.ref 173), some (.int v1), some (.int v2), some (.int v3), some (.int v4), some (.int v5), some (.int v6), some (.int v7), some (.int v8), some (.int v9), some (.int v10), none, none], [.int s0], (197, i, (zRF b), l)) = zev sc (177, 140, [some (.ref 173), some (.int v1), some (.int v2), some (.int v3), some (.int v4), some (.int v5), some (.int v6), some (.int v7), some (.int v8), some (.int v9), some (.int v10), none, none], [.int (10 : Int32), .int s0], (197, i, (zRF b), l)) := by
  refine (ze_bipush 136 zm177 dX10_frost_134 cb_10 rfl).trans ?_
  exact ze_goto 140 zm177 dX10_frost_136 (by decide)
theorem b177_139 (sc : zScr) (v1 : Int32) (v2 : Int32) (v3 : Int32) (v4 : Int32) (v5 : Int32) (v6 : Int32) (v7 : Int32) (v8 : Int32) (v9 : Int32) (v10 : Int32) (s0 : Int32) (i : Nat → Nat → Int32) (b : Bool) (l : Nat → Nat → Int64) : zev sc (177, 139, [some (.ref 173), some (.int v1), some (.int v2), some (.int v3), some (.int v4), some (.int v5), some (.int v6), some (.int v7), some (.int v8), some (.int v9), some (.int v10), none, none], [.int s0], (197, i, (zRF b), l)) = zev sc (177, 140, [some (.ref 173), some (.int v1), some (.int v2), some (.int v3), some (.int v4), some (.int v5), some (.int v6), some (.int v7), some (.int v8), some (.int v9), some (.int v10), none, none], [.int (1 : Int32), .int s0], (197, i, (zRF b), l)) := by
  refine (ze_iconst 140 zm177 dX10_frost_139 ci_1 rfl).trans ?_
  rfl
theorem b177_140 (sc : zScr) (v1 : Int32) (v2 : Int32) (v3 : Int32) (v4 : Int32) (v5 : Int32) (v6 : Int32) (v7 : Int32) (v8 : Int32) (v9 : Int32) (v10 : Int32) (s0 : Int32) (s1 : Int32) (i : Nat → Nat → Int32) (b : Bool) (l : Nat → Nat → Int64) : zev sc (177, 140, [some (.ref 173), some (.int v1), some (.int v2), some (.int v3), some (.int v4), some (.int v5), some (.int v6), some (.int v7), some (.int v8), some (.int v9), some (.int v10), none, none], [.int s0, .int s1], (197, i, (zRF b), l)) = zev sc (177, 67, [some (.ref 173), some (.int v1), some (.int v2), some (.int v3), some (.int v4), some (.int v5), some (.int v6), some (.int v7), some (.int (s1 * s0)), some (.int (v9 + 1)), some (.int v10), none, none], [], (197, i, (zRF b), l)) := by
  refine (ze_imul 141 zm177 dX10_frost_140 rfl).trans ?_
  refine (ze_istore (A := 99) (ls' := [some (.ref 173), some (.int v1), some (.int v2), some (.int v3), some (.int v4), some (.int v5), some (.int v6), some (.int v7), some (.int (s1 * s0)), some (.int v9), some (.int v10), none, none]) 143 zm177 dX10_frost_141 za177 rfl rfl rfl rfl rfl).trans ?_
  refine (ze_iinc (v := (1 : Int32)) (A := 99) (ls' := [some (.ref 173), some (.int v1), some (.int v2), some (.int v3), some (.int v4), some (.int v5), some (.int v6), some (.int v7), some (.int (s1 * s0)), some (.int (v9 + 1)), some (.int v10), none, none]) 146 zm177 dX10_frost_143 rfl ci_1 za177 rfl rfl rfl rfl rfl).trans ?_
  exact ze_goto 67 zm177 dX10_frost_146 (by decide)
theorem b177_149 (sc : zScr) (v1 : Int32) (v2 : Int32) (v3 : Int32) (v4 : Int32) (v5 : Int32) (v6 : Int32) (v7 : Int32) (v8 : Int32) (v9 : Int32) (w10 : Option Value) (i : Nat → Nat → Int32) (b : Bool) (l : Nat → Nat → Int64) : zev sc (177, 149, [some (.ref 173), some (.int v1), some (.int v2), some (.int v3), some (.int v4), some (.int v5), some (.int v6), some (.int v7), some (.int v8), some (.int v9), w10, none, none], [], (197, i, (zRF b), l)) = zev sc (177, 155, [some (.ref 173), some (.int v1), some (.int v2), some (.int v3), some (.int v4), some (.int v5), some (.int v6), some (.int v7), some (.int v8), some (.int (0 : Int32)), some (.int (0 : Int32)), none, none], [], (197, i, (zRF b), l)) := by
  refine (ze_iconst 150 zm177 dX10_frost_149 ci_0 rfl).trans ?_
  refine (ze_istore (A := 99) (ls' := [some (.ref 173), some (.int v1), some (.int v2), some (.int v3), some (.int v4), some (.int v5), some (.int v6), some (.int v7), some (.int v8), some (.int (0 : Int32)), w10, none, none]) 152 zm177 dX10_frost_150 za177 rfl rfl rfl rfl rfl).trans ?_
  refine (ze_iconst 153 zm177 dX10_frost_152 ci_0 rfl).trans ?_
  refine (ze_istore (A := 99) (ls' := [some (.ref 173), some (.int v1), some (.int v2), some (.int v3), some (.int v4), some (.int v5), some (.int v6), some (.int v7), some (.int v8), some (.int (0 : Int32)), some (.int (0 : Int32)), none, none]) 155 zm177 dX10_frost_153 za177 rfl rfl rfl rfl rfl).trans ?_
  rfl
theorem b177_155 (sc : zScr) (v1 : Int32) (v2 : Int32) (v3 : Int32) (v4 : Int32) (v5 : Int32) (v6 : Int32) (v7 : Int32) (v8 : Int32) (v9 : Int32) (v10 : Int32) (w11 : Option Value) (w12 : Option Value) (i : Nat → Nat → Int32) (b : Bool) (l : Nat → Nat → Int64) : zev sc (177, 155, [some (.ref 173), some (.int v1), some (.int v2), some (.int v3), some (.int v4), some (.int v5), some (.int v6), some (.int v7), some (.int v8), some (.int v9), some (.int v10), w11, w12], [], (197, i, (zRF b), l)) = if v7 < v10 then zev sc (177, 259, [some (.ref 173), some (.int v1), some (.int v2), some (.int v3), some (.int v4), some (.int v5), some (.int v6), some (.int v7), some (.int v8), some (.int v9), some (.int v10), w11, w12], [], (197, i, (zRF b), l)) else zev sc (177, 162, [some (.ref 173), some (.int v1), some (.int v2), some (.int v3), some (.int v4), some (.int v5), some (.int v6), some (.int v7), some (.int v8), some (.int v9), some (.int v10), w11, w12], [], (197, i, (zRF b), l)) := by
  refine (ze_iload 157 zm177 dX10_frost_155 rfl rfl).trans ?_
  refine (ze_iload 159 zm177 dX10_frost_157 rfl rfl).trans ?_
  exact ze_icmp_gt 259 162 zm177 dX10_frost_159 (by decide) rfl
theorem b177_162 (sc : zScr) (v1 : Int32) (v2 : Int32) (v3 : Int32) (v4 : Int32) (v5 : Int32) (v6 : Int32) (v7 : Int32) (v8 : Int32) (v9 : Int32) (v10 : Int32) (w11 : Option Value) (w12 : Option Value) (i : Nat → Nat → Int32) (b : Bool) (l : Nat → Nat → Int64) : zev sc (177, 162, [some (.ref 173), some (.int v1), some (.int v2), some (.int v3), some (.int v4), some (.int v5), some (.int v6), some (.int v7), some (.int v8), some (.int v9), some (.int v10), w11, w12], [], (197, i, (zRF b), l)) = if (v10 &&& (v7 ^^^ (-1 : Int32))) = 0 then zev sc (177, 172, [some (.ref 173), some (.int v1), some (.int v2), some (.int v3), some (.int v4), some (.int v5), some (.int v6), some (.int v7), some (.int v8), some (.int v9), some (.int v10), w11, w12], [], (197, i, (zRF b), l)) else zev sc (177, 253, [some (.ref 173), some (.int v1), some (.int v2), some (.int v3), some (.int v4), some (.int v5), some (.int v6), some (.int v7), some (.int v8), some (.int v9), some (.int v10), w11, w12], [], (197, i, (zRF b), l)) := by
  refine (ze_iload 164 zm177 dX10_frost_162 rfl rfl).trans ?_
  refine (ze_iload 166 zm177 dX10_frost_164 rfl rfl).trans ?_
  refine (ze_iconst 167 zm177 dX10_frost_166 ci_m1 rfl).trans ?_
  refine (ze_ixor 168 zm177 dX10_frost_167 rfl).trans ?_
  refine (ze_iand 169 zm177 dX10_frost_168 rfl).trans ?_
  exact ze_if_ne 253 172 zm177 dX10_frost_169 (by decide) rfl
theorem b177_172 (sc : zScr) (v1 : Int32) (v2 : Int32) (v3 : Int32) (v4 : Int32) (v5 : Int32) (v6 : Int32) (v7 : Int32) (v8 : Int32) (v9 : Int32) (v10 : Int32) (w11 : Option Value) (w12 : Option Value) (i : Nat → Nat → Int32) (b : Bool) (l : Nat → Nat → Int64) : zev sc (177, 172, [some (.ref 173), some (.int v1), some (.int v2), some (.int v3), some (.int v4), some (.int v5), some (.int v6), some (.int v7), some (.int v8), some (.int v9), some (.int v10), w11, w12], [], (197, i, (zRF b), l)) = (zev sc (176, 0, [some (.ref 173), some (.int v1), some (.int v2), some (.int v3), some (.int v10), none, none, none, none, none], [], (197, i, (zRF b), l))).bind (fun x => zev sc (177, 181, [some (.ref 173), some (.int v1), some (.int v2), some (.int v3), some (.int v4), some (.int v5), some (.int v6), some (.int v7), some (.int v8), some (.int v9), some (.int v10), w11, w12], [x.1], x.2)) := by
  refine (ze_aload_n 173 zm177 dX10_frost_172 rfl rfl).trans ?_
  refine (ze_iload_n 174 zm177 dX10_frost_173 rfl rfl).trans ?_
  refine (ze_iload_n 175 zm177 dX10_frost_174 rfl rfl).trans ?_
  refine (ze_iload_n 176 zm177 dX10_frost_175 rfl rfl).trans ?_
  refine (ze_iload 178 zm177 dX10_frost_176 rfl rfl).trans ?_
  exact ze_virtI (as := [.int v1, .int v2, .int v3, .int v10]) (rest := []) 181 zm177 dX10_frost_178 r10_217 zm176 rfl rfl k173_10 rfl rfl rfl rfl
theorem b177_181 (sc : zScr) (v1 : Int32) (v2 : Int32) (v3 : Int32) (v4 : Int32) (v5 : Int32) (v6 : Int32) (v7 : Int32) (v8 : Int32) (v9 : Int32) (v10 : Int32) (w11 : Option Value) (w12 : Option Value) (s0 : Int32) (i : Nat → Nat → Int32) (b : Bool) (l : Nat → Nat → Int64) : zev sc (177, 181, [some (.ref 173), some (.int v1), some (.int v2), some (.int v3), some (.int v4), some (.int v5), some (.int v6), some (.int v7), some (.int v8), some (.int v9), some (.int v10), w11, w12], [.int s0], (197, i, (zRF b), l)) = if s0 = 0 then zev sc (177, 253, [some (.ref 173), some (.int v1), some (.int v2), some (.int v3), some (.int v4), some (.int v5), some (.int v6), some (.int v7), some (.int v8), some (.int v9), some (.int v10), w11, w12], [], (197, i, (zRF b), l)) else zev sc (177, 184, [some (.ref 173), some (.int v1), some (.int v2), some (.int v3), some (.int v4), some (.int v5), some (.int v6), some (.int v7), some (.int v8), some (.int v9), some (.int v10), w11, w12], [], (197, i, (zRF b), l)) := by
  exact ze_if_eq 253 184 zm177 dX10_frost_181 (by decide) rfl
theorem b177_184 (sc : zScr) (v1 : Int32) (v2 : Int32) (v3 : Int32) (v4 : Int32) (v5 : Int32) (v6 : Int32) (v7 : Int32) (v8 : Int32) (v9 : Int32) (v10 : Int32) (w11 : Option Value) (w12 : Option Value) (i : Nat → Nat → Int32) (b : Bool) (l : Nat → Nat → Int64) : zev sc (177, 184, [some (.ref 173), some (.int v1), some (.int v2), some (.int v3), some (.int v4), some (.int v5), some (.int v6), some (.int v7), some (.int v8), some (.int v9), some (.int v10), w11, w12], [], (197, i, (zRF b), l)) = zev sc (177, 190, [some (.ref 173), some (.int v1), some (.int v2), some (.int v3), some (.int v4), some (.int v5), some (.int v6), some (.int v7), some (.int v8), some (.int v9), some (.int v10), some (.int (1 : Int32)), some (.int (0 : Int32))], [], (197, i, (zRF b), l)) := by
  refine (ze_iconst 185 zm177 dX10_frost_184 ci_1 rfl).trans ?_
  refine (ze_istore (A := 99) (ls' := [some (.ref 173), some (.int v1), some (.int v2), some (.int v3), some (.int v4), some (.int v5), some (.int v6), some (.int v7), some (.int v8), some (.int v9), some (.int v10), some (.int (1 : Int32)), w12]) 187 zm177 dX10_frost_185 za177 rfl rfl rfl rfl rfl).trans ?_
  refine (ze_iconst 188 zm177 dX10_frost_187 ci_0 rfl).trans ?_
  refine (ze_istore (A := 99) (ls' := [some (.ref 173), some (.int v1), some (.int v2), some (.int v3), some (.int v4), some (.int v5), some (.int v6), some (.int v7), some (.int v8), some (.int v9), some (.int v10), some (.int (1 : Int32)), some (.int (0 : Int32))]) 190 zm177 dX10_frost_188 za177 rfl rfl rfl rfl rfl).trans ?_
  rfl
theorem b177_190 (sc : zScr) (v1 : Int32) (v2 : Int32) (v3 : Int32) (v4 : Int32) (v5 : Int32) (v6 : Int32) (v7 : Int32) (v8 : Int32) (v9 : Int32) (v10 : Int32) (v11 : Int32) (v12 : Int32) (i : Nat → Nat → Int32) (b : Bool) (l : Nat → Nat → Int64) : zev sc (177, 190, [some (.ref 173), some (.int v1), some (.int v2), some (.int v3), some (.int v4), some (.int v5), some (.int v6), some (.int v7), some (.int v8), some (.int v9), some (.int v10), some (.int v11), some (.int v12)], [], (197, i, (zRF b), l)) = if (i 176 0) ≤ v12 then zev sc (177, 246, [some (.ref 173), some (.int v1), some (.int v2), some (.int v3), some (.int v4), some (.int v5), some (.int v6), some (.int v7), some (.int v8), some (.int v9), some (.int v10), some (.int v11), some (.int v12)], [], (197, i, (zRF b), l)) else zev sc (177, 201, [some (.ref 173), some (.int v1), some (.int v2), some (.int v3), some (.int v4), some (.int v5), some (.int v6), some (.int v7), some (.int v8), some (.int v9), some (.int v10), some (.int v11), some (.int v12)], [], (197, i, (zRF b), l)) := by
  refine (ze_iload 192 zm177 dX10_frost_190 rfl rfl).trans ?_
  refine (ze_aload_n 193 zm177 dX10_frost_192 rfl rfl).trans ?_
  refine (ze_getR 196 zm177 dX10_frost_193 f10_17 k173_10 t10_3 (rr173_3 b) rfl).trans ?_
  refine (ze_iconst 197 zm177 dX10_frost_196 ci_0 rfl).trans ?_
  refine (ze_iaload (t := 0) 198 zm177 dX10_frost_197 k176_100 n176 vi_0_2 tn_0 rfl).trans ?_
  exact ze_icmp_ge 246 201 zm177 dX10_frost_198 (by decide) rfl
theorem b177_201 (sc : zScr) (v1 : Int32) (v2 : Int32) (v3 : Int32) (v4 : Int32) (v5 : Int32) (v6 : Int32) (v7 : Int32) (v8 : Int32) (v9 : Int32) (v10 : Int32) (v11 : Int32) (v12 : Int32) (i : Nat → Nat → Int32) (b : Bool) (l : Nat → Nat → Int64) : zev sc (177, 201, [some (.ref 173), some (.int v1), some (.int v2), some (.int v3), some (.int v4), some (.int v5), some (.int v6), some (.int v7), some (.int v8), some (.int v9), some (.int v10), some (.int v11), some (.int v12)], [], (197, i, (zRF b), l)) = (zev sc (120, 0, [some (.int v7), some (.int v12)], [], (197, i, (zRF b), l))).bind (fun x => zev sc (177, 210, [some (.ref 173), some (.int v1), some (.int v2), some (.int v3), some (.int v4), some (.int v5), some (.int v6), some (.int v7), some (.int v8), some (.int v9), some (.int v10), some (.int v11), some (.int v12)], [x.1, .int v11], x.2)) := by
  refine (ze_iload 203 zm177 dX10_frost_201 rfl rfl).trans ?_
  refine (ze_iload 205 zm177 dX10_frost_203 rfl rfl).trans ?_
  refine (ze_iload 207 zm177 dX10_frost_205 rfl rfl).trans ?_
  exact ze_statI (as := [.int v7, .int v12]) (rest := [.int v11]) 210 zm177 dX10_frost_207 r10_137 zm120 rfl rfl rfl rfl rfl rfl
theorem b177_210 (sc : zScr) (v1 : Int32) (v2 : Int32) (v3 : Int32) (v4 : Int32) (v5 : Int32) (v6 : Int32) (v7 : Int32) (v8 : Int32) (v9 : Int32) (v10 : Int32) (v11 : Int32) (v12 : Int32) (s0 : Int32) (s1 : Int32) (i : Nat → Nat → Int32) (b : Bool) (l : Nat → Nat → Int64) : zev sc (177, 210, [some (.ref 173), some (.int v1), some (.int v2), some (.int v3), some (.int v4), some (.int v5), some (.int v6), some (.int v7), some (.int v8), some (.int v9), some (.int v10), some (.int v11), some (.int v12)], [.int s0, .int s1], (197, i, (zRF b), l)) = if s0 = 0 then zev sc (177, 213, [some (.ref 173), some (.int v1), some (.int v2), some (.int v3), some (.int v4), some (.int v5), some (.int v6), some (.int v7), some (.int v8), some (.int v9), some (.int v10), some (.int v11), some (.int v12)], [.int s1], (197, i, (zRF b), l)) else zev sc (177, 217, [some (.ref 173), some (.int v1), some (.int v2), some (.int v3), some (.int v4), some (.int v5), some (.int v6), some (.int v7), some (.int v8), some (.int v9), some (.int v10), some (.int v11), some (.int v12)], [.int s1], (197, i, (zRF b), l)) := by
  exact ze_if_ne 217 213 zm177 dX10_frost_210 (by decide) rfl
theorem b177_213 (sc : zScr) (v1 : Int32) (v2 : Int32) (v3 : Int32) (v4 : Int32) (v5 : Int32) (v6 : Int32) (v7 : Int32) (v8 : Int32) (v9 : Int32) (v10 : Int32) (v11 : Int32) (v12 : Int32) (s0 : Int32) (i : Nat → Nat → Int32) (b : Bool) (l : Nat → Nat → Int64) : zev sc (177, 213, [some (.ref 173), some (.int v1), some (.int v2), some (.int v3), some (.int v4), some (.int v5), some (.int v6), some (.int v7), some (.int v8), some (.int v9), some (.int v10), some (.int v11), some (.int v12)], [.int s0], (197, i, (zRF b), l)) = zev sc (177, 237, [some (.ref 173), some (.int v1), some (.int v2), some (.int v3), some (.int v4), some (.int v5), some (.int v6), some (.int v7), some (.int v8), some (.int v9), some (.int v10), some (.int v11), some (.int v12)], [.int (1 : Int32), .int s0], (197, i, (zRF b), l)) := by
  refine (ze_iconst 214 zm177 dX10_frost_213 ci_1 rfl).trans ?_
  exact ze_goto 237 zm177 dX10_frost_214 (by decide)
theorem b177_217 (sc : zScr) (v1 : Int32) (v2 : Int32) (v3 : Int32) (v4 : Int32) (v5 : Int32) (v6 : Int32) (v7 : Int32) (v8 : Int32) (v9 : Int32) (v10 : Int32) (v11 : Int32) (v12 : Int32) (s0 : Int32) (i : Nat → Nat → Int32) (b : Bool) (l : Nat → Nat → Int64) : zev sc (177, 217, [some (.ref 173), some (.int v1), some (.int v2), some (.int v3), some (.int v4), some (.int v5), some (.int v6), some (.int v7), some (.int v8), some (.int v9), some (.int v10), some (.int v11), some (.int v12)], [.int s0], (197, i, (zRF b), l)) = (zev sc (120, 0, [some (.int v10), some (.int v12)], [], (197, i, (zRF b), l))).bind (fun x => zev sc (177, 224, [some (.ref 173), some (.int v1), some (.int v2), some (.int v3), some (.int v4), some (.int v5), some (.int v6), some (.int v7), some (.int v8), some (.int v9), some (.int v10), some (.int v11), some (.int v12)], [x.1, .int s0], x.2)) := by
  refine (ze_iload 219 zm177 dX10_frost_217 rfl rfl).trans ?_
  refine (ze_iload 221 zm177 dX10_frost_219 rfl rfl).trans ?_
  exact ze_statI (as := [.int v10, .int v12]) (rest := [.int s0]) 224 zm177 dX10_frost_221 r10_137 zm120 rfl rfl rfl rfl rfl rfl
theorem b177_224 (sc : zScr) (v1 : Int32) (v2 : Int32) (v3 : Int32) (v4 : Int32) (v5 : Int32) (v6 : Int32) (v7 : Int32) (v8 : Int32) (v9 : Int32) (v10 : Int32) (v11 : Int32) (v12 : Int32) (s0 : Int32) (s1 : Int32) (i : Nat → Nat → Int32) (b : Bool) (l : Nat → Nat → Int64) : zev sc (177, 224, [some (.ref 173), some (.int v1), some (.int v2), some (.int v3), some (.int v4), some (.int v5), some (.int v6), some (.int v7), some (.int v8), some (.int v9), some (.int v10), some (.int v11), some (.int v12)], [.int s0, .int s1], (197, i, (zRF b), l)) = if s0 = 0 then zev sc (177, 232, [some (.ref 173), some (.int v1), some (.int v2), some (.int v3), some (.int v4), some (.int v5), some (.int v6), some (.int v7), some (.int v8), some (.int v9), some (.int v10), some (.int v11), some (.int v12)], [.int s1], (197, i, (zRF b), l)) else zev sc (177, 227, [some (.ref 173), some (.int v1), some (.int v2), some (.int v3), some (.int v4), some (.int v5), some (.int v6), some (.int v7), some (.int v8), some (.int v9), some (.int v10), some (.int v11), some (.int v12)], [.int s1], (197, i, (zRF b), l)) := by
  exact ze_if_eq 232 227 zm177 dX10_frost_224 (by decide) rfl
theorem b177_227 (sc : zScr) (v1 : Int32) (v2 : Int32) (v3 : Int32) (v4 : Int32) (v5 : Int32) (v6 : Int32) (v7 : Int32) (v8 : Int32) (v9 : Int32) (v10 : Int32) (v11 : Int32) (v12 : Int32) (s0 : Int32) (i : Nat → Nat → Int32) (b : Bool) (l : Nat → Nat → Int64) : zev sc (177, 227, [some (.ref 173), some (.int v1), some (.int v2), some (.int v3), some (.int v4), some (.int v5), some (.int v6), some (.int v7), some (.int v8), some (.int v9), some (.int v10), some (.int v11), some (.int v12)], [.int s0], (197, i, (zRF b), l)) = zev sc (177, 237, [some (.ref 173), some (.int v1), some (.int v2), some (.int v3), some (.int v4), some (.int v5), some (.int v6), some (.int v7), some (.int v8), some (.int v9), some (.int v10), some (.int v11), some (.int v12)], [.int v5, .int s0], (197, i, (zRF b), l)) := by
  refine (ze_iload 229 zm177 dX10_frost_227 rfl rfl).trans ?_
  exact ze_goto 237 zm177 dX10_frost_229 (by decide)
theorem b177_232 (sc : zScr) (v1 : Int32) (v2 : Int32) (v3 : Int32) (v4 : Int32) (v5 : Int32) (v6 : Int32) (v7 : Int32) (v8 : Int32) (v9 : Int32) (v10 : Int32) (v11 : Int32) (v12 : Int32) (s0 : Int32) (i : Nat → Nat → Int32) (b : Bool) (l : Nat → Nat → Int64) : zev sc (177, 232, [some (.ref 173), some (.int v1), some (.int v2), some (.int v3), some (.int v4), some (.int v5), some (.int v6), some (.int v7), some (.int v8), some (.int v9), some (.int v10), some (.int v11), some (.int v12)], [.int s0], (197, i, (zRF b), l)) = zev sc (177, 237, [some (.ref 173), some (.int v1), some (.int v2), some (.int v3), some (.int v4), some (.int v5), some (.int v6), some (.int v7), some (.int v8), some (.int v9), some (.int v10), some (.int v11), some (.int v12)], [.int ((10 : Int32) - v5), .int s0], (197, i, (zRF b), l)) := by
  refine (ze_bipush 234 zm177 dX10_frost_232 cb_10 rfl).trans ?_
  refine (ze_iload 236 zm177 dX10_frost_234 rfl rfl).trans ?_
  refine (ze_isub 237 zm177 dX10_frost_236 rfl).trans ?_
  rfl
theorem b177_237 (sc : zScr) (v1 : Int32) (v2 : Int32) (v3 : Int32) (v4 : Int32) (v5 : Int32) (v6 : Int32) (v7 : Int32) (v8 : Int32) (v9 : Int32) (v10 : Int32) (v11 : Int32) (v12 : Int32) (s0 : Int32) (s1 : Int32) (i : Nat → Nat → Int32) (b : Bool) (l : Nat → Nat → Int64) : zev sc (177, 237, [some (.ref 173), some (.int v1), some (.int v2), some (.int v3), some (.int v4), some (.int v5), some (.int v6), some (.int v7), some (.int v8), some (.int v9), some (.int v10), some (.int v11), some (.int v12)], [.int s0, .int s1], (197, i, (zRF b), l)) = zev sc (177, 190, [some (.ref 173), some (.int v1), some (.int v2), some (.int v3), some (.int v4), some (.int v5), some (.int v6), some (.int v7), some (.int v8), some (.int v9), some (.int v10), some (.int (s1 * s0)), some (.int (v12 + 1))], [], (197, i, (zRF b), l)) := by
  refine (ze_imul 238 zm177 dX10_frost_237 rfl).trans ?_
  refine (ze_istore (A := 99) (ls' := [some (.ref 173), some (.int v1), some (.int v2), some (.int v3), some (.int v4), some (.int v5), some (.int v6), some (.int v7), some (.int v8), some (.int v9), some (.int v10), some (.int (s1 * s0)), some (.int v12)]) 240 zm177 dX10_frost_238 za177 rfl rfl rfl rfl rfl).trans ?_
  refine (ze_iinc (v := (1 : Int32)) (A := 99) (ls' := [some (.ref 173), some (.int v1), some (.int v2), some (.int v3), some (.int v4), some (.int v5), some (.int v6), some (.int v7), some (.int v8), some (.int v9), some (.int v10), some (.int (s1 * s0)), some (.int (v12 + 1))]) 243 zm177 dX10_frost_240 rfl ci_1 za177 rfl rfl rfl rfl rfl).trans ?_
  exact ze_goto 190 zm177 dX10_frost_243 (by decide)
theorem b177_246 (sc : zScr) (v1 : Int32) (v2 : Int32) (v3 : Int32) (v4 : Int32) (v5 : Int32) (v6 : Int32) (v7 : Int32) (v8 : Int32) (v9 : Int32) (v10 : Int32) (v11 : Int32) (v12 : Int32) (i : Nat → Nat → Int32) (b : Bool) (l : Nat → Nat → Int64) : zev sc (177, 246, [some (.ref 173), some (.int v1), some (.int v2), some (.int v3), some (.int v4), some (.int v5), some (.int v6), some (.int v7), some (.int v8), some (.int v9), some (.int v10), some (.int v11), some (.int v12)], [], (197, i, (zRF b), l)) = zev sc (177, 253, [some (.ref 173), some (.int v1), some (.int v2), some (.int v3), some (.int v4), some (.int v5), some (.int v6), some (.int v7), some (.int v8), some (.int (v9 + v11)), some (.int v10), some (.int v11), some (.int v12)], [], (197, i, (zRF b), l)) := by
  refine (ze_iload 248 zm177 dX10_frost_246 rfl rfl).trans ?_
  refine (ze_iload 250 zm177 dX10_frost_248 rfl rfl).trans ?_
  refine (ze_iadd 251 zm177 dX10_frost_250 rfl).trans ?_
  refine (ze_istore (A := 99) (ls' := [some (.ref 173), some (.int v1), some (.int v2), some (.int v3), some (.int v4), some (.int v5), some (.int v6), some (.int v7), some (.int v8), some (.int (v9 + v11)), some (.int v10), some (.int v11), some (.int v12)]) 253 zm177 dX10_frost_251 za177 rfl rfl rfl rfl rfl).trans ?_
  rfl
theorem b177_253 (sc : zScr) (v1 : Int32) (v2 : Int32) (v3 : Int32) (v4 : Int32) (v5 : Int32) (v6 : Int32) (v7 : Int32) (v8 : Int32) (v9 : Int32) (v10 : Int32) (w11 : Option Value) (w12 : Option Value) (i : Nat → Nat → Int32) (b : Bool) (l : Nat → Nat → Int64) : zev sc (177, 253, [some (.ref 173), some (.int v1), some (.int v2), some (.int v3), some (.int v4), some (.int v5), some (.int v6), some (.int v7), some (.int v8), some (.int v9), some (.int v10), w11, w12], [], (197, i, (zRF b), l)) = zev sc (177, 155, [some (.ref 173), some (.int v1), some (.int v2), some (.int v3), some (.int v4), some (.int v5), some (.int v6), some (.int v7), some (.int v8), some (.int v9), some (.int (v10 + 1)), w11, w12], [], (197, i, (zRF b), l)) := by
  refine (ze_iinc (v := (1 : Int32)) (A := 99) (ls' := [some (.ref 173), some (.int v1), some (.int v2), some (.int v3), some (.int v4), some (.int v5), some (.int v6), some (.int v7), some (.int v8), some (.int v9), some (.int (v10 + 1)), w11, w12]) 256 zm177 dX10_frost_253 rfl ci_1 za177 rfl rfl rfl rfl rfl).trans ?_
  exact ze_goto 155 zm177 dX10_frost_256 (by decide)
theorem b177_259 (sc : zScr) (v1 : Int32) (v2 : Int32) (v3 : Int32) (v4 : Int32) (v5 : Int32) (v6 : Int32) (v7 : Int32) (v8 : Int32) (v9 : Int32) (v10 : Int32) (w11 : Option Value) (w12 : Option Value) (i : Nat → Nat → Int32) (b : Bool) (l : Nat → Nat → Int64) : zev sc (177, 259, [some (.ref 173), some (.int v1), some (.int v2), some (.int v3), some (.int v4), some (.int v5), some (.int v6), some (.int v7), some (.int v8), some (.int v9), some (.int v10), w11, w12], [], (197, i, (zRF b), l)) = zev sc (177, 267, [some (.ref 173), some (.int v1), some (.int v2), some (.int v3), some (.int v4), some (.int v5), some (.int v6), some (.int v7), some (.int v8), some (.int v9), some (.int v9), some (.int v8), w12], [], (197, i, (zRF b), l)) := by
  refine (ze_iload 261 zm177 dX10_frost_259 rfl rfl).trans ?_
  refine (ze_istore (A := 99) (ls' := [some (.ref 173), some (.int v1), some (.int v2), some (.int v3), some (.int v4), some (.int v5), some (.int v6), some (.int v7), some (.int v8), some (.int v9), some (.int v9), w11, w12]) 263 zm177 dX10_frost_261 za177 rfl rfl rfl rfl rfl).trans ?_
  refine (ze_iload 265 zm177 dX10_frost_263 rfl rfl).trans ?_
  refine (ze_istore (A := 99) (ls' := [some (.ref 173), some (.int v1), some (.int v2), some (.int v3), some (.int v4), some (.int v5), some (.int v6), some (.int v7), some (.int v8), some (.int v9), some (.int v9), some (.int v8), w12]) 267 zm177 dX10_frost_265 za177 rfl rfl rfl rfl rfl).trans ?_
  rfl
theorem b177_267 (sc : zScr) (v1 : Int32) (v2 : Int32) (v3 : Int32) (v4 : Int32) (v5 : Int32) (v6 : Int32) (v7 : Int32) (v8 : Int32) (v9 : Int32) (v10 : Int32) (v11 : Int32) (w12 : Option Value) (i : Nat → Nat → Int32) (b : Bool) (l : Nat → Nat → Int64) : zev sc (177, 267, [some (.ref 173), some (.int v1), some (.int v2), some (.int v3), some (.int v4), some (.int v5), some (.int v6), some (.int v7), some (.int v8), some (.int v9), some (.int v10), some (.int v11), w12], [], (197, i, (zRF b), l)) = if v11 = 0 then zev sc (177, 290, [some (.ref 173), some (.int v1), some (.int v2), some (.int v3), some (.int v4), some (.int v5), some (.int v6), some (.int v7), some (.int v8), some (.int v9), some (.int v10), some (.int v11), w12], [], (197, i, (zRF b), l)) else zev sc (177, 272, [some (.ref 173), some (.int v1), some (.int v2), some (.int v3), some (.int v4), some (.int v5), some (.int v6), some (.int v7), some (.int v8), some (.int v9), some (.int v10), some (.int v11), w12], [], (197, i, (zRF b), l)) := by
  refine (ze_iload 269 zm177 dX10_frost_267 rfl rfl).trans ?_
  exact ze_if_eq 290 272 zm177 dX10_frost_269 (by decide) rfl
theorem b177_272 (sc : zScr) (v1 : Int32) (v2 : Int32) (v3 : Int32) (v4 : Int32) (v5 : Int32) (v6 : Int32) (v7 : Int32) (v8 : Int32) (v9 : Int32) (v10 : Int32) (v11 : Int32) (w12 : Option Value) (i : Nat → Nat → Int32) (b : Bool) (l : Nat → Nat → Int64) (h1 : ¬ v11 = 0) : zev sc (177, 272, [some (.ref 173), some (.int v1), some (.int v2), some (.int v3), some (.int v4), some (.int v5), some (.int v6), some (.int v7), some (.int v8), some (.int v9), some (.int v10), some (.int v11), w12], [], (197, i, (zRF b), l)) = zev sc (177, 267, [some (.ref 173), some (.int v1), some (.int v2), some (.int v3), some (.int v4), some (.int v5), some (.int v6), some (.int v7), some (.int v8), some (.int v9), some (.int v11), some (.int (v10 - v10 / v11 * v11)), some (.int (v10 - v10 / v11 * v11))], [], (197, i, (zRF b), l)) := by
  refine (ze_iload 274 zm177 dX10_frost_272 rfl rfl).trans ?_
  refine (ze_iload 276 zm177 dX10_frost_274 rfl rfl).trans ?_
  refine (ze_irem 277 zm177 dX10_frost_276 h1 rfl).trans ?_
  refine (ze_istore (A := 99) (ls' := [some (.ref 173), some (.int v1), some (.int v2), some (.int v3), some (.int v4), some (.int v5), some (.int v6), some (.int v7), some (.int v8), some (.int v9), some (.int v10), some (.int v11), some (.int (v10 - v10 / v11 * v11))]) 279 zm177 dX10_frost_277 za177 rfl rfl rfl rfl rfl).trans ?_
  refine (ze_iload 281 zm177 dX10_frost_279 rfl rfl).trans ?_
  refine (ze_istore (A := 99) (ls' := [some (.ref 173), some (.int v1), some (.int v2), some (.int v3), some (.int v4), some (.int v5), some (.int v6), some (.int v7), some (.int v8), some (.int v9), some (.int v11), some (.int v11), some (.int (v10 - v10 / v11 * v11))]) 283 zm177 dX10_frost_281 za177 rfl rfl rfl rfl rfl).trans ?_
  refine (ze_iload 285 zm177 dX10_frost_283 rfl rfl).trans ?_
  refine (ze_istore (A := 99) (ls' := [some (.ref 173), some (.int v1), some (.int v2), some (.int v3), some (.int v4), some (.int v5), some (.int v6), some (.int v7), some (.int v8), some (.int v9), some (.int v11), some (.int (v10 - v10 / v11 * v11)), some (.int (v10 - v10 / v11 * v11))]) 287 zm177 dX10_frost_285 za177 rfl rfl rfl rfl rfl).trans ?_
  exact ze_goto 267 zm177 dX10_frost_287 (by decide)
theorem b177_290 (sc : zScr) (v1 : Int32) (v2 : Int32) (v3 : Int32) (v4 : Int32) (v5 : Int32) (v6 : Int32) (v7 : Int32) (v8 : Int32) (v9 : Int32) (v10 : Int32) (v11 : Int32) (w12 : Option Value) (i : Nat → Nat → Int32) (b : Bool) (l : Nat → Nat → Int64) : zev sc (177, 290, [some (.ref 173), some (.int v1), some (.int v2), some (.int v3), some (.int v4), some (.int v5), some (.int v6), some (.int v7), some (.int v8), some (.int v9), some (.int v10), some (.int v11), w12], [], (197, i, (zRF b), l)) = if v6 = 0 then zev sc (177, 295, [some (.ref 173), some (.int v1), some (.int v2), some (.int v3), some (.int v4), some (.int v5), some (.int v6), some (.int v7), some (.int v8), some (.int v9), some (.int v10), some (.int v11), w12], [], (197, i, (zRF b), l)) else zev sc (177, 303, [some (.ref 173), some (.int v1), some (.int v2), some (.int v3), some (.int v4), some (.int v5), some (.int v6), some (.int v7), some (.int v8), some (.int v9), some (.int v10), some (.int v11), w12], [], (197, i, (zRF b), l)) := by
  refine (ze_iload 292 zm177 dX10_frost_290 rfl rfl).trans ?_
  exact ze_if_ne 303 295 zm177 dX10_frost_292 (by decide) rfl
theorem b177_295 (sc : zScr) (v1 : Int32) (v2 : Int32) (v3 : Int32) (v4 : Int32) (v5 : Int32) (v6 : Int32) (v7 : Int32) (v8 : Int32) (v9 : Int32) (v10 : Int32) (v11 : Int32) (w12 : Option Value) (i : Nat → Nat → Int32) (b : Bool) (l : Nat → Nat → Int64) (h1 : ¬ v10 = 0) : zev sc (177, 295, [some (.ref 173), some (.int v1), some (.int v2), some (.int v3), some (.int v4), some (.int v5), some (.int v6), some (.int v7), some (.int v8), some (.int v9), some (.int v10), some (.int v11), w12], [], (197, i, (zRF b), l)) = zev sc (177, 308, [some (.ref 173), some (.int v1), some (.int v2), some (.int v3), some (.int v4), some (.int v5), some (.int v6), some (.int v7), some (.int v8), some (.int v9), some (.int v10), some (.int v11), w12], [.int (v9 / v10)], (197, i, (zRF b), l)) := by
  refine (ze_iload 297 zm177 dX10_frost_295 rfl rfl).trans ?_
  refine (ze_iload 299 zm177 dX10_frost_297 rfl rfl).trans ?_
  refine (ze_idiv 300 zm177 dX10_frost_299 h1 rfl).trans ?_
  exact ze_goto 308 zm177 dX10_frost_300 (by decide)
theorem b177_303 (sc : zScr) (v1 : Int32) (v2 : Int32) (v3 : Int32) (v4 : Int32) (v5 : Int32) (v6 : Int32) (v7 : Int32) (v8 : Int32) (v9 : Int32) (v10 : Int32) (v11 : Int32) (w12 : Option Value) (i : Nat → Nat → Int32) (b : Bool) (l : Nat → Nat → Int64) (h1 : ¬ v10 = 0) : zev sc (177, 303, [some (.ref 173), some (.int v1), some (.int v2), some (.int v3), some (.int v4), some (.int v5), some (.int v6), some (.int v7), some (.int v8), some (.int v9), some (.int v10), some (.int v11), w12], [], (197, i, (zRF b), l)) = zev sc (177, 308, [some (.ref 173), some (.int v1), some (.int v2), some (.int v3), some (.int v4), some (.int v5), some (.int v6), some (.int v7), some (.int v8), some (.int v9), some (.int v10), some (.int v11), w12], [.int (v8 / v10)], (197, i, (zRF b), l)) := by
  refine (ze_iload 305 zm177 dX10_frost_303 rfl rfl).trans ?_
  refine (ze_iload 307 zm177 dX10_frost_305 rfl rfl).trans ?_
  refine (ze_idiv 308 zm177 dX10_frost_307 h1 rfl).trans ?_
  rfl
theorem b177_308 (sc : zScr) (v1 : Int32) (v2 : Int32) (v3 : Int32) (v4 : Int32) (v5 : Int32) (v6 : Int32) (v7 : Int32) (v8 : Int32) (v9 : Int32) (v10 : Int32) (v11 : Int32) (w12 : Option Value) (s0 : Int32) (i : Nat → Nat → Int32) (b : Bool) (l : Nat → Nat → Int64) : zev sc (177, 308, [some (.ref 173), some (.int v1), some (.int v2), some (.int v3), some (.int v4), some (.int v5), some (.int v6), some (.int v7), some (.int v8), some (.int v9), some (.int v10), some (.int v11), w12], [.int s0], (197, i, (zRF b), l)) = some (.int s0, (197, i, (zRF b), l)) := by
  exact ze_ireturn zm177 dX10_frost_308 rfl
/-! HarpFencesModel.bodiesOf (I)I: method 178 -/
theorem b178_0 (sc : zScr) (v0 : Int32) (i : Nat → Nat → Int32) (b : Bool) (l : Nat → Nat → Int64) : zev sc (178, 0, [some (.int v0)], [], (197, i, (zRF b), l)) = zev sc (178, zcs v0 48 [((0 : Int32), 36), ((1 : Int32), 38), ((2 : Int32), 40), ((3 : Int32), 42), ((4 : Int32), 45)], [some (.int v0)], [], (197, i, (zRF b), l)) := by
  refine (ze_iload_n 1 zm178 dX10_bodiesOf_0 rfl rfl).trans ?_
  exact ze_table zm178 dX10_bodiesOf_1 (sw_178_1 _)
theorem b178_36 (sc : zScr) (v0 : Int32) (i : Nat → Nat → Int32) (b : Bool) (l : Nat → Nat → Int64) : zev sc (178, 36, [some (.int v0)], [], (197, i, (zRF b), l)) = some (.int (1 : Int32), (197, i, (zRF b), l)) := by
  refine (ze_iconst 37 zm178 dX10_bodiesOf_36 ci_1 rfl).trans ?_
  exact ze_ireturn zm178 dX10_bodiesOf_37 rfl
theorem b178_38 (sc : zScr) (v0 : Int32) (i : Nat → Nat → Int32) (b : Bool) (l : Nat → Nat → Int64) : zev sc (178, 38, [some (.int v0)], [], (197, i, (zRF b), l)) = some (.int (3 : Int32), (197, i, (zRF b), l)) := by
  refine (ze_iconst 39 zm178 dX10_bodiesOf_38 ci_3 rfl).trans ?_
  exact ze_ireturn zm178 dX10_bodiesOf_39 rfl
theorem b178_40 (sc : zScr) (v0 : Int32) (i : Nat → Nat → Int32) (b : Bool) (l : Nat → Nat → Int64) : zev sc (178, 40, [some (.int v0)], [], (197, i, (zRF b), l)) = some (.int (5 : Int32), (197, i, (zRF b), l)) := by
  refine (ze_iconst 41 zm178 dX10_bodiesOf_40 ci_5 rfl).trans ?_
  exact ze_ireturn zm178 dX10_bodiesOf_41 rfl
theorem b178_42 (sc : zScr) (v0 : Int32) (i : Nat → Nat → Int32) (b : Bool) (l : Nat → Nat → Int64) : zev sc (178, 42, [some (.int v0)], [], (197, i, (zRF b), l)) = some (.int (11 : Int32), (197, i, (zRF b), l)) := by
  refine (ze_bipush 44 zm178 dX10_bodiesOf_42 cb_11 rfl).trans ?_
  exact ze_ireturn zm178 dX10_bodiesOf_44 rfl
theorem b178_45 (sc : zScr) (v0 : Int32) (i : Nat → Nat → Int32) (b : Bool) (l : Nat → Nat → Int64) : zev sc (178, 45, [some (.int v0)], [], (197, i, (zRF b), l)) = some (.int (21 : Int32), (197, i, (zRF b), l)) := by
  refine (ze_bipush 47 zm178 dX10_bodiesOf_45 cb_21 rfl).trans ?_
  exact ze_ireturn zm178 dX10_bodiesOf_47 rfl
theorem b178_48 (sc : zScr) (v0 : Int32) (i : Nat → Nat → Int32) (b : Bool) (l : Nat → Nat → Int64) : zev sc (178, 48, [some (.int v0)], [], (197, i, (zRF b), l)) = some (.int (33 : Int32), (197, i, (zRF b), l)) := by
  refine (ze_bipush 50 zm178 dX10_bodiesOf_48 cb_33 rfl).trans ?_
  exact ze_ireturn zm178 dX10_bodiesOf_50 rfl
/-! HarpFencesModel.mark (II)I: method 179 -/
theorem b179_0 (sc : zScr) (v1 : Int32) (v2 : Int32) (i : Nat → Nat → Int32) (b : Bool) (l : Nat → Nat → Int64) : zev sc (179, 0, [some (.ref 173), some (.int v1), some (.int v2), none, none, none, none], [], (197, i, (zRF b), l)) = (zev sc (119, 0, [some (.int v1), some (.int (0 : Int32)), some (.int (5 : Int32))], [], (197, i, (zRF b), l))).bind (fun x => zev sc (179, 6, [some (.ref 173), some (.int v1), some (.int v2), none, none, none, none], [x.1], x.2)) := by
  refine (ze_iload_n 1 zm179 dX10_mark_0 rfl rfl).trans ?_
  refine (ze_iconst 2 zm179 dX10_mark_1 ci_0 rfl).trans ?_
  refine (ze_iconst 3 zm179 dX10_mark_2 ci_5 rfl).trans ?_
  exact ze_statI (as := [.int v1, .int (0 : Int32), .int (5 : Int32)]) (rest := []) 6 zm179 dX10_mark_3 r10_81 zm119 rfl rfl rfl rfl rfl rfl
theorem b179_6 (sc : zScr) (v1 : Int32) (v2 : Int32) (s0 : Int32) (i : Nat → Nat → Int32) (b : Bool) (l : Nat → Nat → Int64) : zev sc (179, 6, [some (.ref 173), some (.int v1), some (.int v2), none, none, none, none], [.int s0], (197, i, (zRF b), l)) = if s0 = 0 then zev sc (179, 17, [some (.ref 173), some (.int v1), some (.int v2), none, none, none, none], [], (197, i, (zRF b), l)) else zev sc (179, 9, [some (.ref 173), some (.int v1), some (.int v2), none, none, none, none], [], (197, i, (zRF b), l)) := by
  exact ze_if_eq 17 9 zm179 dX10_mark_6 (by decide) rfl
theorem b179_9 (sc : zScr) (v1 : Int32) (v2 : Int32) (i : Nat → Nat → Int32) (b : Bool) (l : Nat → Nat → Int64) : zev sc (179, 9, [some (.ref 173), some (.int v1), some (.int v2), none, none, none, none], [], (197, i, (zRF b), l)) = (zev sc (132, 0, [some (.ref 173), some (.int v2)], [], (197, i, (zRF b), l))).bind (fun x => zev sc (179, 14, [some (.ref 173), some (.int v1), some (.int v2), none, none, none, none], [x.1], x.2)) := by
  refine (ze_aload_n 10 zm179 dX10_mark_9 rfl rfl).trans ?_
  refine (ze_iload_n 11 zm179 dX10_mark_10 rfl rfl).trans ?_
  exact ze_virtI (as := [.int v2]) (rest := []) 14 zm179 dX10_mark_11 r10_141 zm132 rfl rfl k173_10 rfl rfl rfl rfl
theorem b179_14 (sc : zScr) (v1 : Int32) (v2 : Int32) (s0 : Int32) (i : Nat → Nat → Int32) (b : Bool) (l : Nat → Nat → Int64) : zev sc (179, 14, [some (.ref 173), some (.int v1), some (.int v2), none, none, none, none], [.int s0], (197, i, (zRF b), l)) = if s0 = 0 then zev sc (179, 17, [some (.ref 173), some (.int v1), some (.int v2), none, none, none, none], [], (197, i, (zRF b), l)) else zev sc (179, 20, [some (.ref 173), some (.int v1), some (.int v2), none, none, none, none], [], (197, i, (zRF b), l)) := by
  exact ze_if_ne 20 17 zm179 dX10_mark_14 (by decide) rfl
theorem b179_17 (sc : zScr) (v1 : Int32) (v2 : Int32) (i : Nat → Nat → Int32) (b : Bool) (l : Nat → Nat → Int64) : zev sc (179, 17, [some (.ref 173), some (.int v1), some (.int v2), none, none, none, none], [], (197, i, (zRF b), l)) = some (.int (-1000000 : Int32), (197, i, (zRF b), l)) := by
  refine (ze_ldc 19 zm179 dX10_mark_17 zi_10_148 rfl).trans ?_
  exact ze_ireturn zm179 dX10_mark_19 rfl
theorem b179_20 (sc : zScr) (v1 : Int32) (v2 : Int32) (i : Nat → Nat → Int32) (b : Bool) (l : Nat → Nat → Int64) : zev sc (179, 20, [some (.ref 173), some (.int v1), some (.int v2), none, none, none, none], [], (197, i, (zRF b), l)) = (zev sc (178, 0, [some (.int v1)], [], (197, i, (zRF b), l))).bind (fun x => zev sc (179, 24, [some (.ref 173), some (.int v1), some (.int v2), none, none, none, none], [x.1], x.2)) := by
  refine (ze_iload_n 21 zm179 dX10_mark_20 rfl rfl).trans ?_
  exact ze_statI (as := [.int v1]) (rest := []) 24 zm179 dX10_mark_21 r10_221 zm178 rfl rfl rfl rfl rfl rfl
theorem b179_24 (sc : zScr) (v1 : Int32) (v2 : Int32) (s0 : Int32) (i : Nat → Nat → Int32) (b : Bool) (l : Nat → Nat → Int64) : zev sc (179, 24, [some (.ref 173), some (.int v1), some (.int v2), none, none, none, none], [.int s0], (197, i, (zRF b), l)) = zev sc (179, 31, [some (.ref 173), some (.int v1), some (.int v2), some (.int s0), some (.long (1 : Int64)), none, some (.int (0 : Int32))], [], (197, i, (zRF b), l)) := by
  refine (ze_istore_n (A := 4) (ls' := [some (.ref 173), some (.int v1), some (.int v2), some (.int s0), none, none, none]) 25 zm179 dX10_mark_24 za179 rfl rfl rfl rfl rfl).trans ?_
  refine (ze_lconst 26 zm179 dX10_mark_25 cl_1 rfl).trans ?_
  refine (ze_lstore (ls' := [some (.ref 173), some (.int v1), some (.int v2), some (.int s0), some (.long (1 : Int64)), none, none]) 28 zm179 dX10_mark_26 za179 rfl rfl rfl).trans ?_
  refine (ze_iconst 29 zm179 dX10_mark_28 ci_0 rfl).trans ?_
  refine (ze_istore (A := 4) (ls' := [some (.ref 173), some (.int v1), some (.int v2), some (.int s0), some (.long (1 : Int64)), none, some (.int (0 : Int32))]) 31 zm179 dX10_mark_29 za179 rfl rfl rfl rfl rfl).trans ?_
  rfl
theorem b179_31 (sc : zScr) (v1 : Int32) (v2 : Int32) (v3 : Int32) (v4 : Int64) (v6 : Int32) (i : Nat → Nat → Int32) (b : Bool) (l : Nat → Nat → Int64) : zev sc (179, 31, [some (.ref 173), some (.int v1), some (.int v2), some (.int v3), some (.long v4), none, some (.int v6)], [], (197, i, (zRF b), l)) = if (6 : Int32) ≤ v6 then zev sc (179, 76, [some (.ref 173), some (.int v1), some (.int v2), some (.int v3), some (.long v4), none, some (.int v6)], [], (197, i, (zRF b), l)) else zev sc (179, 38, [some (.ref 173), some (.int v1), some (.int v2), some (.int v3), some (.long v4), none, some (.int v6)], [], (197, i, (zRF b), l)) := by
  refine (ze_iload 33 zm179 dX10_mark_31 rfl rfl).trans ?_
  refine (ze_bipush 35 zm179 dX10_mark_33 cb_6 rfl).trans ?_
  exact ze_icmp_ge 76 38 zm179 dX10_mark_35 (by decide) rfl
theorem b179_38 (sc : zScr) (v1 : Int32) (v2 : Int32) (v3 : Int32) (v4 : Int64) (v6 : Int32) (i : Nat → Nat → Int32) (b : Bool) (l : Nat → Nat → Int64) : zev sc (179, 38, [some (.ref 173), some (.int v1), some (.int v2), some (.int v3), some (.long v4), none, some (.int v6)], [], (197, i, (zRF b), l)) = (zev sc (120, 0, [some (.int v3), some (.int v6)], [], (197, i, (zRF b), l))).bind (fun x => zev sc (179, 49, [some (.ref 173), some (.int v1), some (.int v2), some (.int v3), some (.long v4), none, some (.int v6)], [x.1, .long (l 173 31), .ref 173], x.2)) := by
  refine (ze_aload_n 39 zm179 dX10_mark_38 rfl rfl).trans ?_
  refine (ze_dup 40 zm179 dX10_mark_39 rfl rfl).trans ?_
  refine (ze_getL 43 zm179 dX10_mark_40 f10_224 k173_10 t10_31 rfl).trans ?_
  refine (ze_iload_n 44 zm179 dX10_mark_43 rfl rfl).trans ?_
  refine (ze_iload 46 zm179 dX10_mark_44 rfl rfl).trans ?_
  exact ze_statI (as := [.int v3, .int v6]) (rest := [.long (l 173 31), .ref 173]) 49 zm179 dX10_mark_46 r10_137 zm120 rfl rfl rfl rfl rfl rfl
theorem b179_49 (sc : zScr) (v1 : Int32) (v2 : Int32) (v3 : Int32) (v4 : Int64) (v6 : Int32) (s0 : Int32) (s1 : Int64) (i : Nat → Nat → Int32) (b : Bool) (l : Nat → Nat → Int64) : zev sc (179, 49, [some (.ref 173), some (.int v1), some (.int v2), some (.int v3), some (.long v4), none, some (.int v6)], [.int s0, .long s1, .ref 173], (197, i, (zRF b), l)) = if s0 = 0 then zev sc (179, 57, [some (.ref 173), some (.int v1), some (.int v2), some (.int v3), some (.long v4), none, some (.int v6)], [.long s1, .ref 173], (197, i, (zRF b), l)) else zev sc (179, 52, [some (.ref 173), some (.int v1), some (.int v2), some (.int v3), some (.long v4), none, some (.int v6)], [.long s1, .ref 173], (197, i, (zRF b), l)) := by
  exact ze_if_eq 57 52 zm179 dX10_mark_49 (by decide) rfl
theorem b179_52 (sc : zScr) (v1 : Int32) (v2 : Int32) (v3 : Int32) (v4 : Int64) (v6 : Int32) (s0 : Int64) (i : Nat → Nat → Int32) (b : Bool) (l : Nat → Nat → Int64) : zev sc (179, 52, [some (.ref 173), some (.int v1), some (.int v2), some (.int v3), some (.long v4), none, some (.int v6)], [.long s0, .ref 173], (197, i, (zRF b), l)) = zev sc (179, 58, [some (.ref 173), some (.int v1), some (.int v2), some (.int v3), some (.long v4), none, some (.int v6)], [.long v4, .long s0, .ref 173], (197, i, (zRF b), l)) := by
  refine (ze_lload 54 zm179 dX10_mark_52 rfl rfl).trans ?_
  exact ze_goto 58 zm179 dX10_mark_54 (by decide)
theorem b179_57 (sc : zScr) (v1 : Int32) (v2 : Int32) (v3 : Int32) (v4 : Int64) (v6 : Int32) (s0 : Int64) (i : Nat → Nat → Int32) (b : Bool) (l : Nat → Nat → Int64) : zev sc (179, 57, [some (.ref 173), some (.int v1), some (.int v2), some (.int v3), some (.long v4), none, some (.int v6)], [.long s0, .ref 173], (197, i, (zRF b), l)) = zev sc (179, 58, [some (.ref 173), some (.int v1), some (.int v2), some (.int v3), some (.long v4), none, some (.int v6)], [.long (0 : Int64), .long s0, .ref 173], (197, i, (zRF b), l)) := by
  refine (ze_lconst 58 zm179 dX10_mark_57 cl_0 rfl).trans ?_
  rfl
theorem b179_58 (sc : zScr) (v1 : Int32) (v2 : Int32) (v3 : Int32) (v4 : Int64) (v6 : Int32) (s0 : Int64) (s1 : Int64) (i : Nat → Nat → Int32) (b : Bool) (l : Nat → Nat → Int64) : zev sc (179, 58, [some (.ref 173), some (.int v1), some (.int v2), some (.int v3), some (.long v4), none, some (.int v6)], [.long s0, .long s1, .ref 173], (197, i, (zRF b), l)) = zev sc (179, 31, [some (.ref 173), some (.int v1), some (.int v2), some (.int v3), some (.long (v4 * (10 : Int64))), none, some (.int (v6 + 1))], [], (197, i, (zRF b), (zU l 173 31 (s1 + s0)))) := by
  refine (ze_ladd 59 zm179 dX10_mark_58 rfl).trans ?_
  refine (ze_putL 62 zm179 dX10_mark_59 f10_224 k173_10 (Or.inl fn10_31) t10_31 rfl).trans ?_
  refine (ze_lload 64 zm179 dX10_mark_62 rfl rfl).trans ?_
  refine (ze_ldc2_w 67 zm179 dX10_mark_64 zl_10_228 rfl).trans ?_
  refine (ze_lmul 68 zm179 dX10_mark_67 rfl).trans ?_
  refine (ze_lstore (ls' := [some (.ref 173), some (.int v1), some (.int v2), some (.int v3), some (.long (v4 * (10 : Int64))), none, some (.int v6)]) 70 zm179 dX10_mark_68 za179 rfl rfl rfl).trans ?_
  refine (ze_iinc (v := (1 : Int32)) (A := 4) (ls' := [some (.ref 173), some (.int v1), some (.int v2), some (.int v3), some (.long (v4 * (10 : Int64))), none, some (.int (v6 + 1))]) 73 zm179 dX10_mark_70 rfl ci_1 za179 rfl rfl rfl rfl rfl).trans ?_
  exact ze_goto 31 zm179 dX10_mark_73 (by decide)
theorem b179_76 (sc : zScr) (v1 : Int32) (v2 : Int32) (v3 : Int32) (v4 : Int64) (v6 : Int32) (i : Nat → Nat → Int32) (b : Bool) (l : Nat → Nat → Int64) (h1 : vp_in ((6 : Int32) + v2) 30) : zev sc (179, 76, [some (.ref 173), some (.int v1), some (.int v2), some (.int v3), some (.long v4), none, some (.int v6)], [], (197, i, (zRF b), l)) = (zev sc (120, 0, [some (.int v3), some (.int (1 : Int32))], [], (197, i, (zRF b), l))).bind (fun x => zev sc (179, 94, [some (.ref 173), some (.int v1), some (.int v2), some (.int v3), some (.long v4), none, some (.int (i 187 (((6 : Int32) + v2)).toNatClampNeg))], [x.1, .int (i 187 (((6 : Int32) + v2)).toNatClampNeg)], x.2)) := by
  refine (ze_aload_n 77 zm179 dX10_mark_76 rfl rfl).trans ?_
  refine (ze_getR 80 zm179 dX10_mark_77 f10_50 k173_10 t10_20 (rr173_20 b) rfl).trans ?_
  refine (ze_bipush 82 zm179 dX10_mark_80 cb_6 rfl).trans ?_
  refine (ze_iload_n 83 zm179 dX10_mark_82 rfl rfl).trans ?_
  refine (ze_iadd 84 zm179 dX10_mark_83 rfl).trans ?_
  refine (ze_iaload (t := (((6 : Int32) + v2)).toNatClampNeg) 85 zm179 dX10_mark_84 k187_100 n187 h1 rfl rfl).trans ?_
  refine (ze_istore (A := 4) (ls' := [some (.ref 173), some (.int v1), some (.int v2), some (.int v3), some (.long v4), none, some (.int (i 187 (((6 : Int32) + v2)).toNatClampNeg))]) 87 zm179 dX10_mark_85 za179 rfl rfl rfl rfl rfl).trans ?_
  refine (ze_iload 89 zm179 dX10_mark_87 rfl rfl).trans ?_
  refine (ze_iload_n 90 zm179 dX10_mark_89 rfl rfl).trans ?_
  refine (ze_iconst 91 zm179 dX10_mark_90 ci_1 rfl).trans ?_
  exact ze_statI (as := [.int v3, .int (1 : Int32)]) (rest := [.int (i 187 (((6 : Int32) + v2)).toNatClampNeg)]) 94 zm179 dX10_mark_91 r10_137 zm120 rfl rfl rfl rfl rfl rfl
theorem b179_94 (sc : zScr) (v1 : Int32) (v2 : Int32) (v3 : Int32) (v4 : Int64) (v6 : Int32) (s0 : Int32) (s1 : Int32) (i : Nat → Nat → Int32) (b : Bool) (l : Nat → Nat → Int64) : zev sc (179, 94, [some (.ref 173), some (.int v1), some (.int v2), some (.int v3), some (.long v4), none, some (.int v6)], [.int s0, .int s1], (197, i, (zRF b), l)) = if s0 = 0 then zev sc (179, 107, [some (.ref 173), some (.int v1), some (.int v2), some (.int v3), some (.long v4), none, some (.int v6)], [.int s1], (197, i, (zRF b), l)) else zev sc (179, 97, [some (.ref 173), some (.int v1), some (.int v2), some (.int v3), some (.long v4), none, some (.int v6)], [.int s1], (197, i, (zRF b), l)) := by
  exact ze_if_eq 107 97 zm179 dX10_mark_94 (by decide) rfl
theorem b179_97 (sc : zScr) (v1 : Int32) (v2 : Int32) (v3 : Int32) (v4 : Int64) (v6 : Int32) (s0 : Int32) (i : Nat → Nat → Int32) (b : Bool) (l : Nat → Nat → Int64) : zev sc (179, 97, [some (.ref 173), some (.int v1), some (.int v2), some (.int v3), some (.long v4), none, some (.int v6)], [.int s0], (197, i, (zRF b), l)) = zev sc (179, 108, [some (.ref 173), some (.int v1), some (.int v2), some (.int v3), some (.long v4), none, some (.int v6)], [.int (i 187 16), .int s0], (197, i, (zRF b), l)) := by
  refine (ze_aload_n 98 zm179 dX10_mark_97 rfl rfl).trans ?_
  refine (ze_getR 101 zm179 dX10_mark_98 f10_50 k173_10 t10_20 (rr173_20 b) rfl).trans ?_
  refine (ze_bipush 103 zm179 dX10_mark_101 cb_16 rfl).trans ?_
  refine (ze_iaload (t := 16) 104 zm179 dX10_mark_103 k187_100 n187 vi_16_30 tn_16 rfl).trans ?_
  exact ze_goto 108 zm179 dX10_mark_104 (by decide)
theorem b179_107 (sc : zScr) (v1 : Int32) (v2 : Int32) (v3 : Int32) (v4 : Int64) (v6 : Int32) (s0 : Int32) (i : Nat → Nat → Int32) (b : Bool) (l : Nat → Nat → Int64) : zev sc (179, 107, [some (.ref 173), some (.int v1), some (.int v2), some (.int v3), some (.long v4), none, some (.int v6)], [.int s0], (197, i, (zRF b), l)) = zev sc (179, 108, [some (.ref 173), some (.int v1), some (.int v2), some (.int v3), some (.long v4), none, some (.int v6)], [.int (0 : Int32), .int s0], (197, i, (zRF b), l)) := by
  refine (ze_iconst 108 zm179 dX10_mark_107 ci_0 rfl).trans ?_
  rfl
theorem b179_108 (sc : zScr) (v1 : Int32) (v2 : Int32) (v3 : Int32) (v4 : Int64) (v6 : Int32) (s0 : Int32) (s1 : Int32) (i : Nat → Nat → Int32) (b : Bool) (l : Nat → Nat → Int64) : zev sc (179, 108, [some (.ref 173), some (.int v1), some (.int v2), some (.int v3), some (.long v4), none, some (.int v6)], [.int s0, .int s1], (197, i, (zRF b), l)) = (zev sc (120, 0, [some (.int v3), some (.int (2 : Int32))], [], (197, i, (zRF b), l))).bind (fun x => zev sc (179, 118, [some (.ref 173), some (.int v1), some (.int v2), some (.int v3), some (.long v4), none, some (.int (s1 + s0))], [x.1, .int (s1 + s0)], x.2)) := by
  refine (ze_iadd 109 zm179 dX10_mark_108 rfl).trans ?_
  refine (ze_istore (A := 4) (ls' := [some (.ref 173), some (.int v1), some (.int v2), some (.int v3), some (.long v4), none, some (.int (s1 + s0))]) 111 zm179 dX10_mark_109 za179 rfl rfl rfl rfl rfl).trans ?_
  refine (ze_iload 113 zm179 dX10_mark_111 rfl rfl).trans ?_
  refine (ze_iload_n 114 zm179 dX10_mark_113 rfl rfl).trans ?_
  refine (ze_iconst 115 zm179 dX10_mark_114 ci_2 rfl).trans ?_
  exact ze_statI (as := [.int v3, .int (2 : Int32)]) (rest := [.int (s1 + s0)]) 118 zm179 dX10_mark_115 r10_137 zm120 rfl rfl rfl rfl rfl rfl
theorem b179_118 (sc : zScr) (v1 : Int32) (v2 : Int32) (v3 : Int32) (v4 : Int64) (v6 : Int32) (s0 : Int32) (s1 : Int32) (i : Nat → Nat → Int32) (b : Bool) (l : Nat → Nat → Int64) : zev sc (179, 118, [some (.ref 173), some (.int v1), some (.int v2), some (.int v3), some (.long v4), none, some (.int v6)], [.int s0, .int s1], (197, i, (zRF b), l)) = if s0 = 0 then zev sc (179, 134, [some (.ref 173), some (.int v1), some (.int v2), some (.int v3), some (.long v4), none, some (.int v6)], [.int s1], (197, i, (zRF b), l)) else zev sc (179, 121, [some (.ref 173), some (.int v1), some (.int v2), some (.int v3), some (.long v4), none, some (.int v6)], [.int s1], (197, i, (zRF b), l)) := by
  exact ze_if_eq 134 121 zm179 dX10_mark_118 (by decide) rfl
theorem b179_121 (sc : zScr) (v1 : Int32) (v2 : Int32) (v3 : Int32) (v4 : Int64) (v6 : Int32) (s0 : Int32) (i : Nat → Nat → Int32) (b : Bool) (l : Nat → Nat → Int64) (h1 : vp_in v2 16) : zev sc (179, 121, [some (.ref 173), some (.int v1), some (.int v2), some (.int v3), some (.long v4), none, some (.int v6)], [.int s0], (197, i, (zRF b), l)) = (zev sc (172, 0, [some (.ref 173), some (.int (i 177 v2.toNatClampNeg)), none, none, none, none, none], [], (197, i, (zRF b), l))).bind (fun x => zev sc (179, 131, [some (.ref 173), some (.int v1), some (.int v2), some (.int v3), some (.long v4), none, some (.int v6)], [x.1, .int s0], x.2)) := by
  refine (ze_aload_n 122 zm179 dX10_mark_121 rfl rfl).trans ?_
  refine (ze_aload_n 123 zm179 dX10_mark_122 rfl rfl).trans ?_
  refine (ze_getR 126 zm179 dX10_mark_123 f10_20 k173_10 t10_4 (rr173_4 b) rfl).trans ?_
  refine (ze_iload_n 127 zm179 dX10_mark_126 rfl rfl).trans ?_
  refine (ze_iaload (t := v2.toNatClampNeg) 128 zm179 dX10_mark_127 k177_100 n177 h1 rfl rfl).trans ?_
  exact ze_virtI (as := [.int (i 177 v2.toNatClampNeg)]) (rest := [.int s0]) 131 zm179 dX10_mark_128 r10_210 zm172 rfl rfl k173_10 rfl rfl rfl rfl
theorem b179_131 (sc : zScr) (v1 : Int32) (v2 : Int32) (v3 : Int32) (v4 : Int64) (v6 : Int32) (s0 : Int32) (s1 : Int32) (i : Nat → Nat → Int32) (b : Bool) (l : Nat → Nat → Int64) : zev sc (179, 131, [some (.ref 173), some (.int v1), some (.int v2), some (.int v3), some (.long v4), none, some (.int v6)], [.int s0, .int s1], (197, i, (zRF b), l)) = zev sc (179, 135, [some (.ref 173), some (.int v1), some (.int v2), some (.int v3), some (.long v4), none, some (.int v6)], [.int s0, .int s1], (197, i, (zRF b), l)) := by
  exact ze_goto 135 zm179 dX10_mark_131 (by decide)
theorem b179_134 (sc : zScr) (v1 : Int32) (v2 : Int32) (v3 : Int32) (v4 : Int64) (v6 : Int32) (s0 : Int32) (i : Nat → Nat → Int32) (b : Bool) (l : Nat → Nat → Int64) : zev sc (179, 134, [some (.ref 173), some (.int v1), some (.int v2), some (.int v3), some (.long v4), none, some (.int v6)], [.int s0], (197, i, (zRF b), l)) = zev sc (179, 135, [some (.ref 173), some (.int v1), some (.int v2), some (.int v3), some (.long v4), none, some (.int v6)], [.int (0 : Int32), .int s0], (197, i, (zRF b), l)) := by
  refine (ze_iconst 135 zm179 dX10_mark_134 ci_0 rfl).trans ?_
  rfl
theorem b179_135 (sc : zScr) (v1 : Int32) (v2 : Int32) (v3 : Int32) (v4 : Int64) (v6 : Int32) (s0 : Int32) (s1 : Int32) (i : Nat → Nat → Int32) (b : Bool) (l : Nat → Nat → Int64) : zev sc (179, 135, [some (.ref 173), some (.int v1), some (.int v2), some (.int v3), some (.long v4), none, some (.int v6)], [.int s0, .int s1], (197, i, (zRF b), l)) = (zev sc (120, 0, [some (.int v3), some (.int (3 : Int32))], [], (197, i, (zRF b), l))).bind (fun x => zev sc (179, 143, [some (.ref 173), some (.int v1), some (.int v2), some (.int v3), some (.long v4), none, some (.int (s1 - s0))], [x.1], x.2)) := by
  refine (ze_isub 136 zm179 dX10_mark_135 rfl).trans ?_
  refine (ze_istore (A := 4) (ls' := [some (.ref 173), some (.int v1), some (.int v2), some (.int v3), some (.long v4), none, some (.int (s1 - s0))]) 138 zm179 dX10_mark_136 za179 rfl rfl rfl rfl rfl).trans ?_
  refine (ze_iload_n 139 zm179 dX10_mark_138 rfl rfl).trans ?_
  refine (ze_iconst 140 zm179 dX10_mark_139 ci_3 rfl).trans ?_
  exact ze_statI (as := [.int v3, .int (3 : Int32)]) (rest := []) 143 zm179 dX10_mark_140 r10_137 zm120 rfl rfl rfl rfl rfl rfl
theorem b179_143 (sc : zScr) (v1 : Int32) (v2 : Int32) (v3 : Int32) (v4 : Int64) (v6 : Int32) (s0 : Int32) (i : Nat → Nat → Int32) (b : Bool) (l : Nat → Nat → Int64) : zev sc (179, 143, [some (.ref 173), some (.int v1), some (.int v2), some (.int v3), some (.long v4), none, some (.int v6)], [.int s0], (197, i, (zRF b), l)) = if s0 = 0 then zev sc (179, 153, [some (.ref 173), some (.int v1), some (.int v2), some (.int v3), some (.long v4), none, some (.int v6)], [], (197, i, (zRF b), l)) else zev sc (179, 146, [some (.ref 173), some (.int v1), some (.int v2), some (.int v3), some (.long v4), none, some (.int v6)], [], (197, i, (zRF b), l)) := by
  exact ze_if_eq 153 146 zm179 dX10_mark_143 (by decide) rfl
theorem b179_146 (sc : zScr) (v1 : Int32) (v2 : Int32) (v3 : Int32) (v4 : Int64) (v6 : Int32) (i : Nat → Nat → Int32) (b : Bool) (l : Nat → Nat → Int64) : zev sc (179, 146, [some (.ref 173), some (.int v1), some (.int v2), some (.int v3), some (.long v4), none, some (.int v6)], [], (197, i, (zRF b), l)) = zev sc (179, 155, [some (.ref 173), some (.int v1), some (.int v2), some (.int v3), some (.long v4), none, some (.int v6)], [.int ((2 : Int32) * v6)], (197, i, (zRF b), l)) := by
  refine (ze_iconst 147 zm179 dX10_mark_146 ci_2 rfl).trans ?_
  refine (ze_iload 149 zm179 dX10_mark_147 rfl rfl).trans ?_
  refine (ze_imul 150 zm179 dX10_mark_149 rfl).trans ?_
  exact ze_goto 155 zm179 dX10_mark_150 (by decide)
theorem b179_153 (sc : zScr) (v1 : Int32) (v2 : Int32) (v3 : Int32) (v4 : Int64) (v6 : Int32) (i : Nat → Nat → Int32) (b : Bool) (l : Nat → Nat → Int64) : zev sc (179, 153, [some (.ref 173), some (.int v1), some (.int v2), some (.int v3), some (.long v4), none, some (.int v6)], [], (197, i, (zRF b), l)) = zev sc (179, 155, [some (.ref 173), some (.int v1), some (.int v2), some (.int v3), some (.long v4), none, some (.int v6)], [.int v6], (197, i, (zRF b), l)) := by
  refine (ze_iload 155 zm179 dX10_mark_153 rfl rfl).trans ?_
  rfl
theorem b179_155 (sc : zScr) (v1 : Int32) (v2 : Int32) (v3 : Int32) (v4 : Int64) (v6 : Int32) (s0 : Int32) (i : Nat → Nat → Int32) (b : Bool) (l : Nat → Nat → Int64) : zev sc (179, 155, [some (.ref 173), some (.int v1), some (.int v2), some (.int v3), some (.long v4), none, some (.int v6)], [.int s0], (197, i, (zRF b), l)) = (zev sc (120, 0, [some (.int v3), some (.int (4 : Int32))], [], (197, i, (zRF b), l))).bind (fun x => zev sc (179, 164, [some (.ref 173), some (.int v1), some (.int v2), some (.int v3), some (.long v4), none, some (.int s0)], [x.1, .int s0], x.2)) := by
  refine (ze_istore (A := 4) (ls' := [some (.ref 173), some (.int v1), some (.int v2), some (.int v3), some (.long v4), none, some (.int s0)]) 157 zm179 dX10_mark_155 za179 rfl rfl rfl rfl rfl).trans ?_
  refine (ze_iload 159 zm179 dX10_mark_157 rfl rfl).trans ?_
  refine (ze_iload_n 160 zm179 dX10_mark_159 rfl rfl).trans ?_
  refine (ze_iconst 161 zm179 dX10_mark_160 ci_4 rfl).trans ?_
  exact ze_statI (as := [.int v3, .int (4 : Int32)]) (rest := [.int s0]) 164 zm179 dX10_mark_161 r10_137 zm120 rfl rfl rfl rfl rfl rfl
theorem b179_164 (sc : zScr) (v1 : Int32) (v2 : Int32) (v3 : Int32) (v4 : Int64) (v6 : Int32) (s0 : Int32) (s1 : Int32) (i : Nat → Nat → Int32) (b : Bool) (l : Nat → Nat → Int64) : zev sc (179, 164, [some (.ref 173), some (.int v1), some (.int v2), some (.int v3), some (.long v4), none, some (.int v6)], [.int s0, .int s1], (197, i, (zRF b), l)) = if s0 = 0 then zev sc (179, 171, [some (.ref 173), some (.int v1), some (.int v2), some (.int v3), some (.long v4), none, some (.int v6)], [.int s1], (197, i, (zRF b), l)) else zev sc (179, 167, [some (.ref 173), some (.int v1), some (.int v2), some (.int v3), some (.long v4), none, some (.int v6)], [.int s1], (197, i, (zRF b), l)) := by
  exact ze_if_eq 171 167 zm179 dX10_mark_164 (by decide) rfl
theorem b179_167 (sc : zScr) (v1 : Int32) (v2 : Int32) (v3 : Int32) (v4 : Int64) (v6 : Int32) (s0 : Int32) (i : Nat → Nat → Int32) (b : Bool) (l : Nat → Nat → Int64) : zev sc (179, 167, [some (.ref 173), some (.int v1), some (.int v2), some (.int v3), some (.long v4), none, some (.int v6)], [.int s0], (197, i, (zRF b), l)) = zev sc (179, 172, [some (.ref 173), some (.int v1), some (.int v2), some (.int v3), some (.long v4), none, some (.int v6)], [.int v2, .int s0], (197, i, (zRF b), l)) := by
  refine (ze_iload_n 168 zm179 dX10_mark_167 rfl rfl).trans ?_
  exact ze_goto 172 zm179 dX10_mark_168 (by decide)
theorem b179_171 (sc : zScr) (v1 : Int32) (v2 : Int32) (v3 : Int32) (v4 : Int64) (v6 : Int32) (s0 : Int32) (i : Nat → Nat → Int32) (b : Bool) (l : Nat → Nat → Int64) : zev sc (179, 171, [some (.ref 173), some (.int v1), some (.int v2), some (.int v3), some (.long v4), none, some (.int v6)], [.int s0], (197, i, (zRF b), l)) = zev sc (179, 172, [some (.ref 173), some (.int v1), some (.int v2), some (.int v3), some (.long v4), none, some (.int v6)], [.int (0 : Int32), .int s0], (197, i, (zRF b), l)) := by
  refine (ze_iconst 172 zm179 dX10_mark_171 ci_0 rfl).trans ?_
  rfl
theorem b179_172 (sc : zScr) (v1 : Int32) (v2 : Int32) (v3 : Int32) (v4 : Int64) (v6 : Int32) (s0 : Int32) (s1 : Int32) (i : Nat → Nat → Int32) (b : Bool) (l : Nat → Nat → Int64) : zev sc (179, 172, [some (.ref 173), some (.int v1), some (.int v2), some (.int v3), some (.long v4), none, some (.int v6)], [.int s0, .int s1], (197, i, (zRF b), l)) = (zev sc (120, 0, [some (.int v3), some (.int (5 : Int32))], [], (197, i, (zRF b), l))).bind (fun x => zev sc (179, 182, [some (.ref 173), some (.int v1), some (.int v2), some (.int v3), some (.long v4), none, some (.int (s1 + s0))], [x.1, .int (s1 + s0)], x.2)) := by
  refine (ze_iadd 173 zm179 dX10_mark_172 rfl).trans ?_
  refine (ze_istore (A := 4) (ls' := [some (.ref 173), some (.int v1), some (.int v2), some (.int v3), some (.long v4), none, some (.int (s1 + s0))]) 175 zm179 dX10_mark_173 za179 rfl rfl rfl rfl rfl).trans ?_
  refine (ze_iload 177 zm179 dX10_mark_175 rfl rfl).trans ?_
  refine (ze_iload_n 178 zm179 dX10_mark_177 rfl rfl).trans ?_
  refine (ze_iconst 179 zm179 dX10_mark_178 ci_5 rfl).trans ?_
  exact ze_statI (as := [.int v3, .int (5 : Int32)]) (rest := [.int (s1 + s0)]) 182 zm179 dX10_mark_179 r10_137 zm120 rfl rfl rfl rfl rfl rfl
theorem b179_182 (sc : zScr) (v1 : Int32) (v2 : Int32) (v3 : Int32) (v4 : Int64) (v6 : Int32) (s0 : Int32) (s1 : Int32) (i : Nat → Nat → Int32) (b : Bool) (l : Nat → Nat → Int64) : zev sc (179, 182, [some (.ref 173), some (.int v1), some (.int v2), some (.int v3), some (.long v4), none, some (.int v6)], [.int s0, .int s1], (197, i, (zRF b), l)) = if s0 = 0 then zev sc (179, 195, [some (.ref 173), some (.int v1), some (.int v2), some (.int v3), some (.long v4), none, some (.int v6)], [.int s1], (197, i, (zRF b), l)) else zev sc (179, 185, [some (.ref 173), some (.int v1), some (.int v2), some (.int v3), some (.long v4), none, some (.int v6)], [.int s1], (197, i, (zRF b), l)) := by
  exact ze_if_eq 195 185 zm179 dX10_mark_182 (by decide) rfl
theorem b179_185 (sc : zScr) (v1 : Int32) (v2 : Int32) (v3 : Int32) (v4 : Int64) (v6 : Int32) (s0 : Int32) (i : Nat → Nat → Int32) (b : Bool) (l : Nat → Nat → Int64) : zev sc (179, 185, [some (.ref 173), some (.int v1), some (.int v2), some (.int v3), some (.long v4), none, some (.int v6)], [.int s0], (197, i, (zRF b), l)) = zev sc (179, 196, [some (.ref 173), some (.int v1), some (.int v2), some (.int v3), some (.long v4), none, some (.int v6)], [.int (i 187 17), .int s0], (197, i, (zRF b), l)) := by
  refine (ze_aload_n 186 zm179 dX10_mark_185 rfl rfl).trans ?_
  refine (ze_getR 189 zm179 dX10_mark_186 f10_50 k173_10 t10_20 (rr173_20 b) rfl).trans ?_
  refine (ze_bipush 191 zm179 dX10_mark_189 cb_17 rfl).trans ?_
  refine (ze_iaload (t := 17) 192 zm179 dX10_mark_191 k187_100 n187 vi_17_30 tn_17 rfl).trans ?_
  exact ze_goto 196 zm179 dX10_mark_192 (by decide)
theorem b179_195 (sc : zScr) (v1 : Int32) (v2 : Int32) (v3 : Int32) (v4 : Int64) (v6 : Int32) (s0 : Int32) (i : Nat → Nat → Int32) (b : Bool) (l : Nat → Nat → Int64) : zev sc (179, 195, [some (.ref 173), some (.int v1), some (.int v2), some (.int v3), some (.long v4), none, some (.int v6)], [.int s0], (197, i, (zRF b), l)) = zev sc (179, 196, [some (.ref 173), some (.int v1), some (.int v2), some (.int v3), some (.long v4), none, some (.int v6)], [.int (0 : Int32), .int s0], (197, i, (zRF b), l)) := by
  refine (ze_iconst 196 zm179 dX10_mark_195 ci_0 rfl).trans ?_
  rfl
theorem b179_196 (sc : zScr) (v1 : Int32) (v2 : Int32) (v3 : Int32) (v4 : Int64) (v6 : Int32) (s0 : Int32) (s1 : Int32) (i : Nat → Nat → Int32) (b : Bool) (l : Nat → Nat → Int64) : zev sc (179, 196, [some (.ref 173), some (.int v1), some (.int v2), some (.int v3), some (.long v4), none, some (.int v6)], [.int s0, .int s1], (197, i, (zRF b), l)) = some (.int (s1 + s0), (197, i, (zRF b), l)) := by
  refine (ze_iadd 197 zm179 dX10_mark_196 rfl).trans ?_
  refine (ze_istore (A := 4) (ls' := [some (.ref 173), some (.int v1), some (.int v2), some (.int v3), some (.long v4), none, some (.int (s1 + s0))]) 199 zm179 dX10_mark_197 za179 rfl rfl rfl rfl rfl).trans ?_
  refine (ze_iload 201 zm179 dX10_mark_199 rfl rfl).trans ?_
  exact ze_ireturn zm179 dX10_mark_201 rfl
/-! HarpFencesModel.trace ()J: method 180 -/
theorem b180_0 (sc : zScr) (i : Nat → Nat → Int32) (b : Bool) (l : Nat → Nat → Int64) : zev sc (180, 0, [some (.ref 173)], [], (197, i, (zRF b), l)) = some (.long (l 173 31), (197, i, (zRF b), l)) := by
  refine (ze_aload_n 1 zm180 dX10_trace_0 rfl rfl).trans ?_
  refine (ze_getL 4 zm180 dX10_trace_1 f10_224 k173_10 t10_31 rfl).trans ?_
  exact ze_lreturn zm180 dX10_trace_4 rfl
/-! HarpFencesModel.keep (I)I: method 181 -/
theorem b181_0 (sc : zScr) (v1 : Int32) (i : Nat → Nat → Int32) (b : Bool) (l : Nat → Nat → Int64) : zev sc (181, 0, [some (.ref 173), some (.int v1), none], [], (197, i, (zRF b), l)) = (zev sc (119, 0, [some (.int v1), some (.int (0 : Int32)), some (.int (1 : Int32))], [], (197, i, (zRF b), l))).bind (fun x => zev sc (181, 6, [some (.ref 173), some (.int v1), none], [x.1], x.2)) := by
  refine (ze_iload_n 1 zm181 dX10_keep_0 rfl rfl).trans ?_
  refine (ze_iconst 2 zm181 dX10_keep_1 ci_0 rfl).trans ?_
  refine (ze_iconst 3 zm181 dX10_keep_2 ci_1 rfl).trans ?_
  exact ze_statI (as := [.int v1, .int (0 : Int32), .int (1 : Int32)]) (rest := []) 6 zm181 dX10_keep_3 r10_81 zm119 rfl rfl rfl rfl rfl rfl
theorem b181_6 (sc : zScr) (v1 : Int32) (s0 : Int32) (i : Nat → Nat → Int32) (b : Bool) (l : Nat → Nat → Int64) : zev sc (181, 6, [some (.ref 173), some (.int v1), none], [.int s0], (197, i, (zRF b), l)) = if s0 = 0 then zev sc (181, 9, [some (.ref 173), some (.int v1), none], [], (197, i, (zRF b), l)) else zev sc (181, 11, [some (.ref 173), some (.int v1), none], [], (197, i, (zRF b), l)) := by
  exact ze_if_ne 11 9 zm181 dX10_keep_6 (by decide) rfl
theorem b181_9 (sc : zScr) (v1 : Int32) (i : Nat → Nat → Int32) (b : Bool) (l : Nat → Nat → Int64) : zev sc (181, 9, [some (.ref 173), some (.int v1), none], [], (197, i, (zRF b), l)) = some (.int (-1 : Int32), (197, i, (zRF b), l)) := by
  refine (ze_iconst 10 zm181 dX10_keep_9 ci_m1 rfl).trans ?_
  exact ze_ireturn zm181 dX10_keep_10 rfl
theorem b181_11 (sc : zScr) (v1 : Int32) (i : Nat → Nat → Int32) (b : Bool) (l : Nat → Nat → Int64) : zev sc (181, 11, [some (.ref 173), some (.int v1), none], [], (197, i, (zRF b), l)) = zev sc (181, 13, [some (.ref 173), some (.int v1), some (.int (0 : Int32))], [], (197, i, (zRF b), l)) := by
  refine (ze_iconst 12 zm181 dX10_keep_11 ci_0 rfl).trans ?_
  refine (ze_istore_n (A := 99) (ls' := [some (.ref 173), some (.int v1), some (.int (0 : Int32))]) 13 zm181 dX10_keep_12 za181 rfl rfl rfl rfl rfl).trans ?_
  rfl
theorem b181_13 (sc : zScr) (v1 : Int32) (v2 : Int32) (i : Nat → Nat → Int32) (b : Bool) (l : Nat → Nat → Int64) : zev sc (181, 13, [some (.ref 173), some (.int v1), some (.int v2)], [], (197, i, (zRF b), l)) = if (30 : Int32) ≤ v2 then zev sc (181, 42, [some (.ref 173), some (.int v1), some (.int v2)], [], (197, i, (zRF b), l)) else zev sc (181, 19, [some (.ref 173), some (.int v1), some (.int v2)], [], (197, i, (zRF b), l)) := by
  refine (ze_iload_n 14 zm181 dX10_keep_13 rfl rfl).trans ?_
  refine (ze_bipush 16 zm181 dX10_keep_14 cb_30 rfl).trans ?_
  exact ze_icmp_ge 42 19 zm181 dX10_keep_16 (by decide) rfl
theorem b181_19 (sc : zScr) (v1 : Int32) (v2 : Int32) (i : Nat → Nat → Int32) (b : Bool) (l : Nat → Nat → Int64) (h1 : vp_in v2 30) (h2 : vp_in (((30 : Int32) * v1) + v2) 60) : zev sc (181, 19, [some (.ref 173), some (.int v1), some (.int v2)], [], (197, i, (zRF b), l)) = zev sc (181, 13, [some (.ref 173), some (.int v1), some (.int (v2 + 1))], [], (197, (zU i 190 ((((30 : Int32) * v1) + v2)).toNatClampNeg (i 187 v2.toNatClampNeg)), (zRF b), l)) := by
  refine (ze_aload_n 20 zm181 dX10_keep_19 rfl rfl).trans ?_
  refine (ze_getR 23 zm181 dX10_keep_20 f10_59 k173_10 t10_23 (rr173_23 b) rfl).trans ?_
  refine (ze_bipush 25 zm181 dX10_keep_23 cb_30 rfl).trans ?_
  refine (ze_iload_n 26 zm181 dX10_keep_25 rfl rfl).trans ?_
  refine (ze_imul 27 zm181 dX10_keep_26 rfl).trans ?_
  refine (ze_iload_n 28 zm181 dX10_keep_27 rfl rfl).trans ?_
  refine (ze_iadd 29 zm181 dX10_keep_28 rfl).trans ?_
  refine (ze_aload_n 30 zm181 dX10_keep_29 rfl rfl).trans ?_
  refine (ze_getR 33 zm181 dX10_keep_30 f10_50 k173_10 t10_20 (rr173_20 b) rfl).trans ?_
  refine (ze_iload_n 34 zm181 dX10_keep_33 rfl rfl).trans ?_
  refine (ze_iaload (t := v2.toNatClampNeg) 35 zm181 dX10_keep_34 k187_100 n187 h1 rfl rfl).trans ?_
  refine (ze_iastore (t := ((((30 : Int32) * v1) + v2)).toNatClampNeg) 36 zm181 dX10_keep_35 k190_100 n190 h2 rfl rfl).trans ?_
  refine (ze_iinc (v := (1 : Int32)) (A := 99) (ls' := [some (.ref 173), some (.int v1), some (.int (v2 + 1))]) 39 zm181 dX10_keep_36 rfl ci_1 za181 rfl rfl rfl rfl rfl).trans ?_
  exact ze_goto 13 zm181 dX10_keep_39 (by decide)
theorem b181_42 (sc : zScr) (v1 : Int32) (v2 : Int32) (i : Nat → Nat → Int32) (b : Bool) (l : Nat → Nat → Int64) : zev sc (181, 42, [some (.ref 173), some (.int v1), some (.int v2)], [], (197, i, (zRF b), l)) = zev sc (181, 44, [some (.ref 173), some (.int v1), some (.int (0 : Int32))], [], (197, i, (zRF b), l)) := by
  refine (ze_iconst 43 zm181 dX10_keep_42 ci_0 rfl).trans ?_
  refine (ze_istore_n (A := 99) (ls' := [some (.ref 173), some (.int v1), some (.int (0 : Int32))]) 44 zm181 dX10_keep_43 za181 rfl rfl rfl rfl rfl).trans ?_
  rfl
theorem b181_44 (sc : zScr) (v1 : Int32) (v2 : Int32) (i : Nat → Nat → Int32) (b : Bool) (l : Nat → Nat → Int64) : zev sc (181, 44, [some (.ref 173), some (.int v1), some (.int v2)], [], (197, i, (zRF b), l)) = if (300 : Int32) ≤ v2 then zev sc (181, 77, [some (.ref 173), some (.int v1), some (.int v2)], [], (197, i, (zRF b), l)) else zev sc (181, 51, [some (.ref 173), some (.int v1), some (.int v2)], [], (197, i, (zRF b), l)) := by
  refine (ze_iload_n 45 zm181 dX10_keep_44 rfl rfl).trans ?_
  refine (ze_sipush 48 zm181 dX10_keep_45 cs_300 rfl).trans ?_
  exact ze_icmp_ge 77 51 zm181 dX10_keep_48 (by decide) rfl
theorem b181_51 (sc : zScr) (v1 : Int32) (v2 : Int32) (i : Nat → Nat → Int32) (b : Bool) (l : Nat → Nat → Int64) (h1 : vp_in v2 900) (h2 : vp_in (((300 : Int32) * ((1 : Int32) + v1)) + v2) 900) : zev sc (181, 51, [some (.ref 173), some (.int v1), some (.int v2)], [], (197, i, (zRF b), l)) = zev sc (181, 44, [some (.ref 173), some (.int v1), some (.int (v2 + 1))], [], (197, (zU i 189 ((((300 : Int32) * ((1 : Int32) + v1)) + v2)).toNatClampNeg (i 189 v2.toNatClampNeg)), (zRF b), l)) := by
  refine (ze_aload_n 52 zm181 dX10_keep_51 rfl rfl).trans ?_
  refine (ze_getR 55 zm181 dX10_keep_52 f10_56 k173_10 t10_22 (rr173_22 b) rfl).trans ?_
  refine (ze_sipush 58 zm181 dX10_keep_55 cs_300 rfl).trans ?_
  refine (ze_iconst 59 zm181 dX10_keep_58 ci_1 rfl).trans ?_
  refine (ze_iload_n 60 zm181 dX10_keep_59 rfl rfl).trans ?_
  refine (ze_iadd 61 zm181 dX10_keep_60 rfl).trans ?_
  refine (ze_imul 62 zm181 dX10_keep_61 rfl).trans ?_
  refine (ze_iload_n 63 zm181 dX10_keep_62 rfl rfl).trans ?_
  refine (ze_iadd 64 zm181 dX10_keep_63 rfl).trans ?_
  refine (ze_aload_n 65 zm181 dX10_keep_64 rfl rfl).trans ?_
  refine (ze_getR 68 zm181 dX10_keep_65 f10_56 k173_10 t10_22 (rr173_22 b) rfl).trans ?_
  refine (ze_iload_n 69 zm181 dX10_keep_68 rfl rfl).trans ?_
  refine (ze_iaload (t := v2.toNatClampNeg) 70 zm181 dX10_keep_69 k189_100 n189 h1 rfl rfl).trans ?_
  refine (ze_iastore (t := ((((300 : Int32) * ((1 : Int32) + v1)) + v2)).toNatClampNeg) 71 zm181 dX10_keep_70 k189_100 n189 h2 rfl rfl).trans ?_
  refine (ze_iinc (v := (1 : Int32)) (A := 99) (ls' := [some (.ref 173), some (.int v1), some (.int (v2 + 1))]) 74 zm181 dX10_keep_71 rfl ci_1 za181 rfl rfl rfl rfl rfl).trans ?_
  exact ze_goto 44 zm181 dX10_keep_74 (by decide)
theorem b181_77 (sc : zScr) (v1 : Int32) (v2 : Int32) (i : Nat → Nat → Int32) (b : Bool) (l : Nat → Nat → Int64) (h1 : vp_in ((1 : Int32) + v1) 3) (h2 : vp_in v1 2) : zev sc (181, 77, [some (.ref 173), some (.int v1), some (.int v2)], [], (197, i, (zRF b), l)) = some (.int ((zU (zU i 188 (((1 : Int32) + v1)).toNatClampNeg (i 188 0)) 191 v1.toNatClampNeg (vp_nar .boolean (1 : Int32))) 187 16), (197, (zU (zU i 188 (((1 : Int32) + v1)).toNatClampNeg (i 188 0)) 191 v1.toNatClampNeg (vp_nar .boolean (1 : Int32))), (zRF b), l)) := by
  refine (ze_aload_n 78 zm181 dX10_keep_77 rfl rfl).trans ?_
  refine (ze_getR 81 zm181 dX10_keep_78 f10_53 k173_10 t10_21 (rr173_21 b) rfl).trans ?_
  refine (ze_iconst 82 zm181 dX10_keep_81 ci_1 rfl).trans ?_
  refine (ze_iload_n 83 zm181 dX10_keep_82 rfl rfl).trans ?_
  refine (ze_iadd 84 zm181 dX10_keep_83 rfl).trans ?_
  refine (ze_aload_n 85 zm181 dX10_keep_84 rfl rfl).trans ?_
  refine (ze_getR 88 zm181 dX10_keep_85 f10_53 k173_10 t10_21 (rr173_21 b) rfl).trans ?_
  refine (ze_iconst 89 zm181 dX10_keep_88 ci_0 rfl).trans ?_
  refine (ze_iaload (t := 0) 90 zm181 dX10_keep_89 k188_100 n188 vi_0_3 tn_0 rfl).trans ?_
  refine (ze_iastore (t := (((1 : Int32) + v1)).toNatClampNeg) 91 zm181 dX10_keep_90 k188_100 n188 h1 rfl rfl).trans ?_
  refine (ze_aload_n 92 zm181 dX10_keep_91 rfl rfl).trans ?_
  refine (ze_getR 95 zm181 dX10_keep_92 f10_62 k173_10 t10_24 (rr173_24 b) rfl).trans ?_
  refine (ze_iload_n 96 zm181 dX10_keep_95 rfl rfl).trans ?_
  refine (ze_iconst 97 zm181 dX10_keep_96 ci_1 rfl).trans ?_
  refine (ze_bastoreZ (t := v1.toNatClampNeg) 98 zm181 dX10_keep_97 kn191 k191_102 n191 h2 rfl rfl).trans ?_
  refine (ze_aload_n 99 zm181 dX10_keep_98 rfl rfl).trans ?_
  refine (ze_getR 102 zm181 dX10_keep_99 f10_50 k173_10 t10_20 (rr173_20 b) rfl).trans ?_
  refine (ze_bipush 104 zm181 dX10_keep_102 cb_16 rfl).trans ?_
  refine (ze_iaload (t := 16) 105 zm181 dX10_keep_104 k187_100 n187 vi_16_30 tn_16 rfl).trans ?_
  exact ze_ireturn zm181 dX10_keep_105 rfl
/-! HarpFencesModel.back (I)I: method 182 -/
theorem b182_0 (sc : zScr) (v1 : Int32) (i : Nat → Nat → Int32) (b : Bool) (l : Nat → Nat → Int64) : zev sc (182, 0, [some (.ref 173), some (.int v1), none], [], (197, i, (zRF b), l)) = (zev sc (119, 0, [some (.int v1), some (.int (0 : Int32)), some (.int (1 : Int32))], [], (197, i, (zRF b), l))).bind (fun x => zev sc (182, 6, [some (.ref 173), some (.int v1), none], [x.1], x.2)) := by
  refine (ze_iload_n 1 zm182 dX10_back_0 rfl rfl).trans ?_
  refine (ze_iconst 2 zm182 dX10_back_1 ci_0 rfl).trans ?_
  refine (ze_iconst 3 zm182 dX10_back_2 ci_1 rfl).trans ?_
  exact ze_statI (as := [.int v1, .int (0 : Int32), .int (1 : Int32)]) (rest := []) 6 zm182 dX10_back_3 r10_81 zm119 rfl rfl rfl rfl rfl rfl
theorem b182_6 (sc : zScr) (v1 : Int32) (s0 : Int32) (i : Nat → Nat → Int32) (b : Bool) (l : Nat → Nat → Int64) : zev sc (182, 6, [some (.ref 173), some (.int v1), none], [.int s0], (197, i, (zRF b), l)) = if s0 = 0 then zev sc (182, 9, [some (.ref 173), some (.int v1), none], [], (197, i, (zRF b), l)) else zev sc (182, 11, [some (.ref 173), some (.int v1), none], [], (197, i, (zRF b), l)) := by
  exact ze_if_ne 11 9 zm182 dX10_back_6 (by decide) rfl
theorem b182_9 (sc : zScr) (v1 : Int32) (i : Nat → Nat → Int32) (b : Bool) (l : Nat → Nat → Int64) : zev sc (182, 9, [some (.ref 173), some (.int v1), none], [], (197, i, (zRF b), l)) = some (.int (-1 : Int32), (197, i, (zRF b), l)) := by
  refine (ze_iconst 10 zm182 dX10_back_9 ci_m1 rfl).trans ?_
  exact ze_ireturn zm182 dX10_back_10 rfl
theorem b182_11 (sc : zScr) (v1 : Int32) (i : Nat → Nat → Int32) (b : Bool) (l : Nat → Nat → Int64) (h1 : vp_in v1 2) : zev sc (182, 11, [some (.ref 173), some (.int v1), none], [], (197, i, (zRF b), l)) = if (i 191 v1.toNatClampNeg) = 0 then zev sc (182, 20, [some (.ref 173), some (.int v1), none], [], (197, i, (zRF b), l)) else zev sc (182, 23, [some (.ref 173), some (.int v1), none], [], (197, i, (zRF b), l)) := by
  refine (ze_aload_n 12 zm182 dX10_back_11 rfl rfl).trans ?_
  refine (ze_getR 15 zm182 dX10_back_12 f10_62 k173_10 t10_24 (rr173_24 b) rfl).trans ?_
  refine (ze_iload_n 16 zm182 dX10_back_15 rfl rfl).trans ?_
  refine (ze_baload (t := v1.toNatClampNeg) 17 zm182 dX10_back_16 (Or.inr k191_102) n191 h1 rfl rfl).trans ?_
  exact ze_if_ne 23 20 zm182 dX10_back_17 (by decide) rfl
theorem b182_20 (sc : zScr) (v1 : Int32) (i : Nat → Nat → Int32) (b : Bool) (l : Nat → Nat → Int64) : zev sc (182, 20, [some (.ref 173), some (.int v1), none], [], (197, i, (zRF b), l)) = some (.int (-2 : Int32), (197, i, (zRF b), l)) := by
  refine (ze_bipush 22 zm182 dX10_back_20 cb_m2 rfl).trans ?_
  exact ze_ireturn zm182 dX10_back_22 rfl
theorem b182_23 (sc : zScr) (v1 : Int32) (i : Nat → Nat → Int32) (b : Bool) (l : Nat → Nat → Int64) : zev sc (182, 23, [some (.ref 173), some (.int v1), none], [], (197, i, (zRF b), l)) = zev sc (182, 25, [some (.ref 173), some (.int v1), some (.int (0 : Int32))], [], (197, i, (zRF b), l)) := by
  refine (ze_iconst 24 zm182 dX10_back_23 ci_0 rfl).trans ?_
  refine (ze_istore_n (A := 99) (ls' := [some (.ref 173), some (.int v1), some (.int (0 : Int32))]) 25 zm182 dX10_back_24 za182 rfl rfl rfl rfl rfl).trans ?_
  rfl
theorem b182_25 (sc : zScr) (v1 : Int32) (v2 : Int32) (i : Nat → Nat → Int32) (b : Bool) (l : Nat → Nat → Int64) : zev sc (182, 25, [some (.ref 173), some (.int v1), some (.int v2)], [], (197, i, (zRF b), l)) = if (30 : Int32) ≤ v2 then zev sc (182, 54, [some (.ref 173), some (.int v1), some (.int v2)], [], (197, i, (zRF b), l)) else zev sc (182, 31, [some (.ref 173), some (.int v1), some (.int v2)], [], (197, i, (zRF b), l)) := by
  refine (ze_iload_n 26 zm182 dX10_back_25 rfl rfl).trans ?_
  refine (ze_bipush 28 zm182 dX10_back_26 cb_30 rfl).trans ?_
  exact ze_icmp_ge 54 31 zm182 dX10_back_28 (by decide) rfl
theorem b182_31 (sc : zScr) (v1 : Int32) (v2 : Int32) (i : Nat → Nat → Int32) (b : Bool) (l : Nat → Nat → Int64) (h1 : vp_in (((30 : Int32) * v1) + v2) 60) (h2 : vp_in v2 30) : zev sc (182, 31, [some (.ref 173), some (.int v1), some (.int v2)], [], (197, i, (zRF b), l)) = zev sc (182, 25, [some (.ref 173), some (.int v1), some (.int (v2 + 1))], [], (197, (zU i 187 v2.toNatClampNeg (i 190 ((((30 : Int32) * v1) + v2)).toNatClampNeg)), (zRF b), l)) := by
  refine (ze_aload_n 32 zm182 dX10_back_31 rfl rfl).trans ?_
  refine (ze_getR 35 zm182 dX10_back_32 f10_50 k173_10 t10_20 (rr173_20 b) rfl).trans ?_
  refine (ze_iload_n 36 zm182 dX10_back_35 rfl rfl).trans ?_
  refine (ze_aload_n 37 zm182 dX10_back_36 rfl rfl).trans ?_
  refine (ze_getR 40 zm182 dX10_back_37 f10_59 k173_10 t10_23 (rr173_23 b) rfl).trans ?_
  refine (ze_bipush 42 zm182 dX10_back_40 cb_30 rfl).trans ?_
  refine (ze_iload_n 43 zm182 dX10_back_42 rfl rfl).trans ?_
  refine (ze_imul 44 zm182 dX10_back_43 rfl).trans ?_
  refine (ze_iload_n 45 zm182 dX10_back_44 rfl rfl).trans ?_
  refine (ze_iadd 46 zm182 dX10_back_45 rfl).trans ?_
  refine (ze_iaload (t := ((((30 : Int32) * v1) + v2)).toNatClampNeg) 47 zm182 dX10_back_46 k190_100 n190 h1 rfl rfl).trans ?_
  refine (ze_iastore (t := v2.toNatClampNeg) 48 zm182 dX10_back_47 k187_100 n187 h2 rfl rfl).trans ?_
  refine (ze_iinc (v := (1 : Int32)) (A := 99) (ls' := [some (.ref 173), some (.int v1), some (.int (v2 + 1))]) 51 zm182 dX10_back_48 rfl ci_1 za182 rfl rfl rfl rfl rfl).trans ?_
  exact ze_goto 25 zm182 dX10_back_51 (by decide)
theorem b182_54 (sc : zScr) (v1 : Int32) (v2 : Int32) (i : Nat → Nat → Int32) (b : Bool) (l : Nat → Nat → Int64) : zev sc (182, 54, [some (.ref 173), some (.int v1), some (.int v2)], [], (197, i, (zRF b), l)) = zev sc (182, 56, [some (.ref 173), some (.int v1), some (.int (0 : Int32))], [], (197, i, (zRF b), l)) := by
  refine (ze_iconst 55 zm182 dX10_back_54 ci_0 rfl).trans ?_
  refine (ze_istore_n (A := 99) (ls' := [some (.ref 173), some (.int v1), some (.int (0 : Int32))]) 56 zm182 dX10_back_55 za182 rfl rfl rfl rfl rfl).trans ?_
  rfl
theorem b182_56 (sc : zScr) (v1 : Int32) (v2 : Int32) (i : Nat → Nat → Int32) (b : Bool) (l : Nat → Nat → Int64) : zev sc (182, 56, [some (.ref 173), some (.int v1), some (.int v2)], [], (197, i, (zRF b), l)) = if (300 : Int32) ≤ v2 then zev sc (182, 89, [some (.ref 173), some (.int v1), some (.int v2)], [], (197, i, (zRF b), l)) else zev sc (182, 63, [some (.ref 173), some (.int v1), some (.int v2)], [], (197, i, (zRF b), l)) := by
  refine (ze_iload_n 57 zm182 dX10_back_56 rfl rfl).trans ?_
  refine (ze_sipush 60 zm182 dX10_back_57 cs_300 rfl).trans ?_
  exact ze_icmp_ge 89 63 zm182 dX10_back_60 (by decide) rfl
theorem b182_63 (sc : zScr) (v1 : Int32) (v2 : Int32) (i : Nat → Nat → Int32) (b : Bool) (l : Nat → Nat → Int64) (h1 : vp_in (((300 : Int32) * ((1 : Int32) + v1)) + v2) 900) (h2 : vp_in v2 900) : zev sc (182, 63, [some (.ref 173), some (.int v1), some (.int v2)], [], (197, i, (zRF b), l)) = zev sc (182, 56, [some (.ref 173), some (.int v1), some (.int (v2 + 1))], [], (197, (zU i 189 v2.toNatClampNeg (i 189 ((((300 : Int32) * ((1 : Int32) + v1)) + v2)).toNatClampNeg)), (zRF b), l)) := by
  refine (ze_aload_n 64 zm182 dX10_back_63 rfl rfl).trans ?_
  refine (ze_getR 67 zm182 dX10_back_64 f10_56 k173_10 t10_22 (rr173_22 b) rfl).trans ?_
  refine (ze_iload_n 68 zm182 dX10_back_67 rfl rfl).trans ?_
  refine (ze_aload_n 69 zm182 dX10_back_68 rfl rfl).trans ?_
  refine (ze_getR 72 zm182 dX10_back_69 f10_56 k173_10 t10_22 (rr173_22 b) rfl).trans ?_
  refine (ze_sipush 75 zm182 dX10_back_72 cs_300 rfl).trans ?_
  refine (ze_iconst 76 zm182 dX10_back_75 ci_1 rfl).trans ?_
  refine (ze_iload_n 77 zm182 dX10_back_76 rfl rfl).trans ?_
  refine (ze_iadd 78 zm182 dX10_back_77 rfl).trans ?_
  refine (ze_imul 79 zm182 dX10_back_78 rfl).trans ?_
  refine (ze_iload_n 80 zm182 dX10_back_79 rfl rfl).trans ?_
  refine (ze_iadd 81 zm182 dX10_back_80 rfl).trans ?_
  refine (ze_iaload (t := ((((300 : Int32) * ((1 : Int32) + v1)) + v2)).toNatClampNeg) 82 zm182 dX10_back_81 k189_100 n189 h1 rfl rfl).trans ?_
  refine (ze_iastore (t := v2.toNatClampNeg) 83 zm182 dX10_back_82 k189_100 n189 h2 rfl rfl).trans ?_
  refine (ze_iinc (v := (1 : Int32)) (A := 99) (ls' := [some (.ref 173), some (.int v1), some (.int (v2 + 1))]) 86 zm182 dX10_back_83 rfl ci_1 za182 rfl rfl rfl rfl rfl).trans ?_
  exact ze_goto 56 zm182 dX10_back_86 (by decide)
theorem b182_89 (sc : zScr) (v1 : Int32) (v2 : Int32) (i : Nat → Nat → Int32) (b : Bool) (l : Nat → Nat → Int64) (h1 : vp_in ((1 : Int32) + v1) 3) : zev sc (182, 89, [some (.ref 173), some (.int v1), some (.int v2)], [], (197, i, (zRF b), l)) = some (.int ((zU i 188 0 (i 188 (((1 : Int32) + v1)).toNatClampNeg)) 187 16), (197, (zU i 188 0 (i 188 (((1 : Int32) + v1)).toNatClampNeg)), (zRF b), l)) := by
  refine (ze_aload_n 90 zm182 dX10_back_89 rfl rfl).trans ?_
  refine (ze_getR 93 zm182 dX10_back_90 f10_53 k173_10 t10_21 (rr173_21 b) rfl).trans ?_
  refine (ze_iconst 94 zm182 dX10_back_93 ci_0 rfl).trans ?_
  refine (ze_aload_n 95 zm182 dX10_back_94 rfl rfl).trans ?_
  refine (ze_getR 98 zm182 dX10_back_95 f10_53 k173_10 t10_21 (rr173_21 b) rfl).trans ?_
  refine (ze_iconst 99 zm182 dX10_back_98 ci_1 rfl).trans ?_
  refine (ze_iload_n 100 zm182 dX10_back_99 rfl rfl).trans ?_
  refine (ze_iadd 101 zm182 dX10_back_100 rfl).trans ?_
  refine (ze_iaload (t := (((1 : Int32) + v1)).toNatClampNeg) 102 zm182 dX10_back_101 k188_100 n188 h1 rfl rfl).trans ?_
  refine (ze_iastore (t := 0) 103 zm182 dX10_back_102 k188_100 n188 vi_0_3 tn_0 rfl).trans ?_
  refine (ze_aload_n 104 zm182 dX10_back_103 rfl rfl).trans ?_
  refine (ze_getR 107 zm182 dX10_back_104 f10_50 k173_10 t10_20 (rr173_20 b) rfl).trans ?_
  refine (ze_bipush 109 zm182 dX10_back_107 cb_16 rfl).trans ?_
  refine (ze_iaload (t := 16) 110 zm182 dX10_back_109 k187_100 n187 vi_16_30 tn_16 rfl).trans ?_
  exact ze_ireturn zm182 dX10_back_110 rfl
/-! HarpFencesModel.count (I)I: method 183 -/
theorem b183_0 (sc : zScr) (v1 : Int32) (i : Nat → Nat → Int32) (b : Bool) (l : Nat → Nat → Int64) : zev sc (183, 0, [some (.ref 173), some (.int v1)], [], (197, i, (zRF b), l)) = zev sc (183, zcs v1 89 [((0 : Int32), 44), ((1 : Int32), 51), ((2 : Int32), 58), ((3 : Int32), 65), ((4 : Int32), 72), ((5 : Int32), 77), ((6 : Int32), 84)], [some (.ref 173), some (.int v1)], [], (197, i, (zRF b), l)) := by
  refine (ze_iload_n 1 zm183 dX10_count_0 rfl rfl).trans ?_
  exact ze_table zm183 dX10_count_1 (sw_183_1 _)
theorem b183_44 (sc : zScr) (v1 : Int32) (i : Nat → Nat → Int32) (b : Bool) (l : Nat → Nat → Int64) : zev sc (183, 44, [some (.ref 173), some (.int v1)], [], (197, i, (zRF b), l)) = some (.int (i 175 0), (197, i, (zRF b), l)) := by
  refine (ze_aload_n 45 zm183 dX10_count_44 rfl rfl).trans ?_
  refine (ze_getR 48 zm183 dX10_count_45 f10_13 k173_10 t10_2 (rr173_2 b) rfl).trans ?_
  refine (ze_iconst 49 zm183 dX10_count_48 ci_0 rfl).trans ?_
  refine (ze_iaload (t := 0) 50 zm183 dX10_count_49 k175_100 n175 vi_0_2 tn_0 rfl).trans ?_
  exact ze_ireturn zm183 dX10_count_50 rfl
theorem b183_51 (sc : zScr) (v1 : Int32) (i : Nat → Nat → Int32) (b : Bool) (l : Nat → Nat → Int64) : zev sc (183, 51, [some (.ref 173), some (.int v1)], [], (197, i, (zRF b), l)) = some (.int (i 176 0), (197, i, (zRF b), l)) := by
  refine (ze_aload_n 52 zm183 dX10_count_51 rfl rfl).trans ?_
  refine (ze_getR 55 zm183 dX10_count_52 f10_17 k173_10 t10_3 (rr173_3 b) rfl).trans ?_
  refine (ze_iconst 56 zm183 dX10_count_55 ci_0 rfl).trans ?_
  refine (ze_iaload (t := 0) 57 zm183 dX10_count_56 k176_100 n176 vi_0_2 tn_0 rfl).trans ?_
  exact ze_ireturn zm183 dX10_count_57 rfl
theorem b183_58 (sc : zScr) (v1 : Int32) (i : Nat → Nat → Int32) (b : Bool) (l : Nat → Nat → Int64) : zev sc (183, 58, [some (.ref 173), some (.int v1)], [], (197, i, (zRF b), l)) = some (.int (i 180 0), (197, i, (zRF b), l)) := by
  refine (ze_aload_n 59 zm183 dX10_count_58 rfl rfl).trans ?_
  refine (ze_getR 62 zm183 dX10_count_59 f10_29 k173_10 t10_7 (rr173_7 b) rfl).trans ?_
  refine (ze_iconst 63 zm183 dX10_count_62 ci_0 rfl).trans ?_
  refine (ze_iaload (t := 0) 64 zm183 dX10_count_63 k180_100 n180 vi_0_2 tn_0 rfl).trans ?_
  exact ze_ireturn zm183 dX10_count_64 rfl
theorem b183_65 (sc : zScr) (v1 : Int32) (i : Nat → Nat → Int32) (b : Bool) (l : Nat → Nat → Int64) : zev sc (183, 65, [some (.ref 173), some (.int v1)], [], (197, i, (zRF b), l)) = some (.int (i 183 0), (197, i, (zRF b), l)) := by
  refine (ze_aload_n 66 zm183 dX10_count_65 rfl rfl).trans ?_
  refine (ze_getR 69 zm183 dX10_count_66 f10_38 k173_10 t10_10 (rr173_10 b) rfl).trans ?_
  refine (ze_iconst 70 zm183 dX10_count_69 ci_0 rfl).trans ?_
  refine (ze_iaload (t := 0) 71 zm183 dX10_count_70 k183_100 n183 vi_0_2 tn_0 rfl).trans ?_
  exact ze_ireturn zm183 dX10_count_71 rfl
theorem b183_72 (sc : zScr) (v1 : Int32) (i : Nat → Nat → Int32) (b : Bool) (l : Nat → Nat → Int64) : zev sc (183, 72, [some (.ref 173), some (.int v1)], [], (197, i, (zRF b), l)) = some (.int (i 173 26), (197, i, (zRF b), l)) := by
  refine (ze_aload_n 73 zm183 dX10_count_72 rfl rfl).trans ?_
  refine (ze_getI 76 zm183 dX10_count_73 f10_134 k173_10 (Or.inl t10_26) rfl).trans ?_
  exact ze_ireturn zm183 dX10_count_76 rfl
theorem b183_77 (sc : zScr) (v1 : Int32) (i : Nat → Nat → Int32) (b : Bool) (l : Nat → Nat → Int64) : zev sc (183, 77, [some (.ref 173), some (.int v1)], [], (197, i, (zRF b), l)) = some (.int (i 188 0), (197, i, (zRF b), l)) := by
  refine (ze_aload_n 78 zm183 dX10_count_77 rfl rfl).trans ?_
  refine (ze_getR 81 zm183 dX10_count_78 f10_53 k173_10 t10_21 (rr173_21 b) rfl).trans ?_
  refine (ze_iconst 82 zm183 dX10_count_81 ci_0 rfl).trans ?_
  refine (ze_iaload (t := 0) 83 zm183 dX10_count_82 k188_100 n188 vi_0_3 tn_0 rfl).trans ?_
  exact ze_ireturn zm183 dX10_count_83 rfl
theorem b183_84 (sc : zScr) (v1 : Int32) (i : Nat → Nat → Int32) (b : Bool) (l : Nat → Nat → Int64) : zev sc (183, 84, [some (.ref 173), some (.int v1)], [], (197, i, (zRF b), l)) = some (.int (i 173 1), (197, i, (zRF b), l)) := by
  refine (ze_aload_n 85 zm183 dX10_count_84 rfl rfl).trans ?_
  refine (ze_getI 88 zm183 dX10_count_85 f10_85 k173_10 (Or.inl t10_1) rfl).trans ?_
  exact ze_ireturn zm183 dX10_count_88 rfl
theorem b183_89 (sc : zScr) (v1 : Int32) (i : Nat → Nat → Int32) (b : Bool) (l : Nat → Nat → Int64) : zev sc (183, 89, [some (.ref 173), some (.int v1)], [], (197, i, (zRF b), l)) = some (.int (-1 : Int32), (197, i, (zRF b), l)) := by
  refine (ze_iconst 90 zm183 dX10_count_89 ci_m1 rfl).trans ?_
  exact ze_ireturn zm183 dX10_count_90 rfl
