/-! HarpFences$Image.take (LHarpFences$Stand;LHarpFences$Past;)V: method 30 -/
theorem b30_0 (sc : zScr) (a0 : Nat) (a1 : Nat) (a2 : Nat) (q1 : Nat) (i : Nat → Nat → Int32) (b : Bool) (l : Nat → Nat → Int64) (h1 : zok 197 a0 3 = true) (h2 : zRF b a0 0 = some q1) (h3 : zok 197 q1 7 = true) : zev sc (30, 0, [some (.ref a0), some (.ref a1), some (.ref a2)], [], (197, i, (zRF b), l)) = (zev sc (56, 0, [some (.ref q1), some (.ref a1)], [], (197, i, (zRF b), l))).bind (fun x => zev sc (30, 8, [some (.ref a0), some (.ref a1), some (.ref a2)], [], x.2)) := by
  refine (ze_aload_n 1 zm30 dX3_take_0 rfl rfl).trans ?_
  refine (ze_getR (q := q1) 4 zm30 dX3_take_1 f3_10 h1 t3_0 h2 rfl).trans ?_
  refine (ze_aload_n 5 zm30 dX3_take_4 rfl rfl).trans ?_
  exact ze_virtV (as := [.ref a1]) (rest := []) 8 zm30 dX3_take_5 r3_23 zm56 rfl rfl h3 rfl rfl rfl rfl
theorem b30_8 (sc : zScr) (a0 : Nat) (a1 : Nat) (a2 : Nat) (q1 : Nat) (i : Nat → Nat → Int32) (b : Bool) (l : Nat → Nat → Int64) (h1 : zok 197 a0 3 = true) (h2 : zRF b a0 1 = some q1) (h3 : zok 197 q1 5 = true) : zev sc (30, 8, [some (.ref a0), some (.ref a1), some (.ref a2)], [], (197, i, (zRF b), l)) = (zev sc (41, 0, [some (.ref q1), some (.ref a2), none], [], (197, i, (zRF b), l))).bind (fun x => zev sc (30, 16, [some (.ref a0), some (.ref a1), some (.ref a2)], [], x.2)) := by
  refine (ze_aload_n 9 zm30 dX3_take_8 rfl rfl).trans ?_
  refine (ze_getR (q := q1) 12 zm30 dX3_take_9 f3_19 h1 t3_1 h2 rfl).trans ?_
  refine (ze_aload_n 13 zm30 dX3_take_12 rfl rfl).trans ?_
  exact ze_virtV (as := [.ref a2]) (rest := []) 16 zm30 dX3_take_13 r3_27 zm41 rfl rfl h3 rfl rfl rfl rfl
theorem b30_16 (sc : zScr) (a0 : Nat) (a1 : Nat) (a2 : Nat) (i : Nat → Nat → Int32) (b : Bool) (l : Nat → Nat → Int64) (h1 : zok 197 a0 3 = true) : zev sc (30, 16, [some (.ref a0), some (.ref a1), some (.ref a2)], [], (197, i, (zRF b), l)) = some (.null, (197, (zU i a0 2 (1 : Int32)), (zRF b), l)) := by
  refine (ze_aload_n 17 zm30 dX3_take_16 rfl rfl).trans ?_
  refine (ze_iconst 18 zm30 dX3_take_17 ci_1 rfl).trans ?_
  refine (ze_putZ 21 zm30 dX3_take_18 f3_30 h1 (Or.inl fn3_2) t3_2 (Or.inr rfl) rfl).trans ?_
  exact ze_return zm30 dX3_take_21 rfl
/-! HarpFences$Image.give (LHarpFences$Stand;LHarpFences$Past;)V: method 31 -/
theorem b31_0 (sc : zScr) (a0 : Nat) (a1 : Nat) (a2 : Nat) (q1 : Nat) (i : Nat → Nat → Int32) (b : Bool) (l : Nat → Nat → Int64) (h1 : zok 197 a0 3 = true) (h2 : zRF b a0 0 = some q1) (h3 : zok 197 a1 7 = true) : zev sc (31, 0, [some (.ref a0), some (.ref a1), some (.ref a2)], [], (197, i, (zRF b), l)) = (zev sc (56, 0, [some (.ref a1), some (.ref q1)], [], (197, i, (zRF b), l))).bind (fun x => zev sc (31, 8, [some (.ref a0), some (.ref a1), some (.ref a2)], [], x.2)) := by
  refine (ze_aload_n 1 zm31 dX3_give_0 rfl rfl).trans ?_
  refine (ze_aload_n 2 zm31 dX3_give_1 rfl rfl).trans ?_
  refine (ze_getR (q := q1) 5 zm31 dX3_give_2 f3_10 h1 t3_0 h2 rfl).trans ?_
  exact ze_virtV (as := [.ref q1]) (rest := []) 8 zm31 dX3_give_5 r3_23 zm56 rfl rfl h3 rfl rfl rfl rfl
theorem b31_8 (sc : zScr) (a0 : Nat) (a1 : Nat) (a2 : Nat) (q1 : Nat) (i : Nat → Nat → Int32) (b : Bool) (l : Nat → Nat → Int64) (h1 : zok 197 a0 3 = true) (h2 : zRF b a0 1 = some q1) (h3 : zok 197 a2 5 = true) : zev sc (31, 8, [some (.ref a0), some (.ref a1), some (.ref a2)], [], (197, i, (zRF b), l)) = (zev sc (41, 0, [some (.ref a2), some (.ref q1), none], [], (197, i, (zRF b), l))).bind (fun x => zev sc (31, 16, [some (.ref a0), some (.ref a1), some (.ref a2)], [], x.2)) := by
  refine (ze_aload_n 9 zm31 dX3_give_8 rfl rfl).trans ?_
  refine (ze_aload_n 10 zm31 dX3_give_9 rfl rfl).trans ?_
  refine (ze_getR (q := q1) 13 zm31 dX3_give_10 f3_19 h1 t3_1 h2 rfl).trans ?_
  exact ze_virtV (as := [.ref q1]) (rest := []) 16 zm31 dX3_give_13 r3_27 zm41 rfl rfl h3 rfl rfl rfl rfl
theorem b31_16 (sc : zScr) (a0 : Nat) (a1 : Nat) (a2 : Nat) (i : Nat → Nat → Int32) (b : Bool) (l : Nat → Nat → Int64) : zev sc (31, 16, [some (.ref a0), some (.ref a1), some (.ref a2)], [], (197, i, (zRF b), l)) = some (.null, (197, i, (zRF b), l)) := by
  exact ze_return zm31 dX3_give_16 rfl
/-! HarpFences$Land.begin ()V: method 33 -/
theorem b33_0 (sc : zScr) (i : Nat → Nat → Int32) (b : Bool) (l : Nat → Nat → Int64) : zev sc (33, 0, [some (.ref 11)], [], (197, i, (zRF b), l)) = some (.null, (197, (zU (zU (zU (zU (zU i 11 0 (2 : Int32)) 11 1 (0 : Int32)) 11 5 (0 : Int32)) 11 8 (0 : Int32)) 11 11 (0 : Int32)), (zRF b), l)) := by
  refine (ze_aload_n 1 zm33 dX4_begin_0 rfl rfl).trans ?_
  refine (ze_iconst 2 zm33 dX4_begin_1 ci_2 rfl).trans ?_
  refine (ze_putI 5 zm33 dX4_begin_2 f4_33 k11_4 (Or.inl fn4_0) t4_0 rfl).trans ?_
  refine (ze_aload_n 6 zm33 dX4_begin_5 rfl rfl).trans ?_
  refine (ze_iconst 7 zm33 dX4_begin_6 ci_0 rfl).trans ?_
  refine (ze_putI 10 zm33 dX4_begin_7 f4_37 k11_4 (Or.inl fn4_1) t4_1 rfl).trans ?_
  refine (ze_aload_n 11 zm33 dX4_begin_10 rfl rfl).trans ?_
  refine (ze_iconst 12 zm33 dX4_begin_11 ci_0 rfl).trans ?_
  refine (ze_putI 15 zm33 dX4_begin_12 f4_40 k11_4 (Or.inl fn4_5) t4_5 rfl).trans ?_
  refine (ze_aload_n 16 zm33 dX4_begin_15 rfl rfl).trans ?_
  refine (ze_iconst 17 zm33 dX4_begin_16 ci_0 rfl).trans ?_
  refine (ze_putI 20 zm33 dX4_begin_17 f4_43 k11_4 (Or.inl fn4_8) t4_8 rfl).trans ?_
  refine (ze_aload_n 21 zm33 dX4_begin_20 rfl rfl).trans ?_
  refine (ze_iconst 22 zm33 dX4_begin_21 ci_0 rfl).trans ?_
  refine (ze_putI 25 zm33 dX4_begin_22 f4_46 k11_4 (Or.inl fn4_11) t4_11 rfl).trans ?_
  exact ze_return zm33 dX4_begin_25 rfl
/-! HarpFences$Land.copyFrom (LHarpFences$Land;)V: method 34 -/
theorem b34_0 (sc : zScr) (i : Nat → Nat → Int32) (b : Bool) (l : Nat → Nat → Int64) : zev sc (34, 0, [some (.ref 3), some (.ref 11)], [], (197, i, (zRF b), l)) = some (.null, (197, (zCp (zCp (zCp (zCp (zCp (zCp (zCp (zU (zU (zU (zU (zU i 3 0 (i 11 0)) 3 1 ((zU i 3 0 (i 11 0)) 11 1)) 3 5 ((zU (zU i 3 0 (i 11 0)) 3 1 ((zU i 3 0 (i 11 0)) 11 1)) 11 5)) 3 8 ((zU (zU (zU i 3 0 (i 11 0)) 3 1 ((zU i 3 0 (i 11 0)) 11 1)) 3 5 ((zU (zU i 3 0 (i 11 0)) 3 1 ((zU i 3 0 (i 11 0)) 11 1)) 11 5)) 11 8)) 3 11 ((zU (zU (zU (zU i 3 0 (i 11 0)) 3 1 ((zU i 3 0 (i 11 0)) 11 1)) 3 5 ((zU (zU i 3 0 (i 11 0)) 3 1 ((zU i 3 0 (i 11 0)) 11 1)) 11 5)) 3 8 ((zU (zU (zU i 3 0 (i 11 0)) 3 1 ((zU i 3 0 (i 11 0)) 11 1)) 3 5 ((zU (zU i 3 0 (i 11 0)) 3 1 ((zU i 3 0 (i 11 0)) 11 1)) 11 5)) 11 8)) 11 11)) 12 4 0 0 8) 13 5 0 0 8) 14 6 0 0 8) 15 7 0 0 4) 16 8 0 0 4) 17 9 0 0 6) 18 10 0 0 6), (zRF b), l)) := by
  refine (ze_aload_n 1 zm34 dX4_copyFrom_0 rfl rfl).trans ?_
  refine (ze_aload_n 2 zm34 dX4_copyFrom_1 rfl rfl).trans ?_
  refine (ze_getI 5 zm34 dX4_copyFrom_2 f4_33 k11_4 (Or.inl t4_0) rfl).trans ?_
  refine (ze_putI 8 zm34 dX4_copyFrom_5 f4_33 k3_4 (Or.inl fn4_0) t4_0 rfl).trans ?_
  refine (ze_aload_n 9 zm34 dX4_copyFrom_8 rfl rfl).trans ?_
  refine (ze_aload_n 10 zm34 dX4_copyFrom_9 rfl rfl).trans ?_
  refine (ze_getI 13 zm34 dX4_copyFrom_10 f4_37 k11_4 (Or.inl t4_1) rfl).trans ?_
  refine (ze_putI 16 zm34 dX4_copyFrom_13 f4_37 k3_4 (Or.inl fn4_1) t4_1 rfl).trans ?_
  refine (ze_aload_n 17 zm34 dX4_copyFrom_16 rfl rfl).trans ?_
  refine (ze_aload_n 18 zm34 dX4_copyFrom_17 rfl rfl).trans ?_
  refine (ze_getI 21 zm34 dX4_copyFrom_18 f4_40 k11_4 (Or.inl t4_5) rfl).trans ?_
  refine (ze_putI 24 zm34 dX4_copyFrom_21 f4_40 k3_4 (Or.inl fn4_5) t4_5 rfl).trans ?_
  refine (ze_aload_n 25 zm34 dX4_copyFrom_24 rfl rfl).trans ?_
  refine (ze_aload_n 26 zm34 dX4_copyFrom_25 rfl rfl).trans ?_
  refine (ze_getI 29 zm34 dX4_copyFrom_26 f4_43 k11_4 (Or.inl t4_8) rfl).trans ?_
  refine (ze_putI 32 zm34 dX4_copyFrom_29 f4_43 k3_4 (Or.inl fn4_8) t4_8 rfl).trans ?_
  refine (ze_aload_n 33 zm34 dX4_copyFrom_32 rfl rfl).trans ?_
  refine (ze_aload_n 34 zm34 dX4_copyFrom_33 rfl rfl).trans ?_
  refine (ze_getI 37 zm34 dX4_copyFrom_34 f4_46 k11_4 (Or.inl t4_11) rfl).trans ?_
  refine (ze_putI 40 zm34 dX4_copyFrom_37 f4_46 k3_4 (Or.inl fn4_11) t4_11 rfl).trans ?_
  refine (ze_aload_n 41 zm34 dX4_copyFrom_40 rfl rfl).trans ?_
  refine (ze_getR 44 zm34 dX4_copyFrom_41 f4_9 k11_4 t4_2 (rr11_2 b) rfl).trans ?_
  refine (ze_iconst 45 zm34 dX4_copyFrom_44 ci_0 rfl).trans ?_
  refine (ze_aload_n 46 zm34 dX4_copyFrom_45 rfl rfl).trans ?_
  refine (ze_getR 49 zm34 dX4_copyFrom_46 f4_9 k3_4 t4_2 (rr3_2 b) rfl).trans ?_
  refine (ze_iconst 50 zm34 dX4_copyFrom_49 ci_0 rfl).trans ?_
  refine (ze_bipush 52 zm34 dX4_copyFrom_50 cb_8 rfl).trans ?_
  refine (ze_copy (ns := 0) (nd := 0) (nc := 8) 55 zm34 dX4_copyFrom_52 r4_49 rfl k4_100 k12_100 (by decide) (by decide) (by decide) tn_0 tn_0 tn_8 (by decide +kernel) (by decide +kernel) rfl).trans ?_
  refine (ze_aload_n 56 zm34 dX4_copyFrom_55 rfl rfl).trans ?_
  refine (ze_getR 59 zm34 dX4_copyFrom_56 f4_15 k11_4 t4_3 (rr11_3 b) rfl).trans ?_
  refine (ze_iconst 60 zm34 dX4_copyFrom_59 ci_0 rfl).trans ?_
  refine (ze_aload_n 61 zm34 dX4_copyFrom_60 rfl rfl).trans ?_
  refine (ze_getR 64 zm34 dX4_copyFrom_61 f4_15 k3_4 t4_3 (rr3_3 b) rfl).trans ?_
  refine (ze_iconst 65 zm34 dX4_copyFrom_64 ci_0 rfl).trans ?_
  refine (ze_bipush 67 zm34 dX4_copyFrom_65 cb_8 rfl).trans ?_
  refine (ze_copy (ns := 0) (nd := 0) (nc := 8) 70 zm34 dX4_copyFrom_67 r4_49 rfl k5_100 k13_100 (by decide) (by decide) (by decide) tn_0 tn_0 tn_8 (by decide +kernel) (by decide +kernel) rfl).trans ?_
  refine (ze_aload_n 71 zm34 dX4_copyFrom_70 rfl rfl).trans ?_
  refine (ze_getR 74 zm34 dX4_copyFrom_71 f4_18 k11_4 t4_4 (rr11_4 b) rfl).trans ?_
  refine (ze_iconst 75 zm34 dX4_copyFrom_74 ci_0 rfl).trans ?_
  refine (ze_aload_n 76 zm34 dX4_copyFrom_75 rfl rfl).trans ?_
  refine (ze_getR 79 zm34 dX4_copyFrom_76 f4_18 k3_4 t4_4 (rr3_4 b) rfl).trans ?_
  refine (ze_iconst 80 zm34 dX4_copyFrom_79 ci_0 rfl).trans ?_
  refine (ze_bipush 82 zm34 dX4_copyFrom_80 cb_8 rfl).trans ?_
  refine (ze_copy (ns := 0) (nd := 0) (nc := 8) 85 zm34 dX4_copyFrom_82 r4_49 rfl k6_100 k14_100 (by decide) (by decide) (by decide) tn_0 tn_0 tn_8 (by decide +kernel) (by decide +kernel) rfl).trans ?_
  refine (ze_aload_n 86 zm34 dX4_copyFrom_85 rfl rfl).trans ?_
  refine (ze_getR 89 zm34 dX4_copyFrom_86 f4_21 k11_4 t4_6 (rr11_6 b) rfl).trans ?_
  refine (ze_iconst 90 zm34 dX4_copyFrom_89 ci_0 rfl).trans ?_
  refine (ze_aload_n 91 zm34 dX4_copyFrom_90 rfl rfl).trans ?_
  refine (ze_getR 94 zm34 dX4_copyFrom_91 f4_21 k3_4 t4_6 (rr3_6 b) rfl).trans ?_
  refine (ze_iconst 95 zm34 dX4_copyFrom_94 ci_0 rfl).trans ?_
  refine (ze_iconst 96 zm34 dX4_copyFrom_95 ci_4 rfl).trans ?_
  refine (ze_copy (ns := 0) (nd := 0) (nc := 4) 99 zm34 dX4_copyFrom_96 r4_49 rfl k7_100 k15_100 (by decide) (by decide) (by decide) tn_0 tn_0 tn_4 (by decide +kernel) (by decide +kernel) rfl).trans ?_
  refine (ze_aload_n 100 zm34 dX4_copyFrom_99 rfl rfl).trans ?_
  refine (ze_getR 103 zm34 dX4_copyFrom_100 f4_24 k11_4 t4_7 (rr11_7 b) rfl).trans ?_
  refine (ze_iconst 104 zm34 dX4_copyFrom_103 ci_0 rfl).trans ?_
  refine (ze_aload_n 105 zm34 dX4_copyFrom_104 rfl rfl).trans ?_
  refine (ze_getR 108 zm34 dX4_copyFrom_105 f4_24 k3_4 t4_7 (rr3_7 b) rfl).trans ?_
  refine (ze_iconst 109 zm34 dX4_copyFrom_108 ci_0 rfl).trans ?_
  refine (ze_iconst 110 zm34 dX4_copyFrom_109 ci_4 rfl).trans ?_
  refine (ze_copy (ns := 0) (nd := 0) (nc := 4) 113 zm34 dX4_copyFrom_110 r4_49 rfl k8_100 k16_100 (by decide) (by decide) (by decide) tn_0 tn_0 tn_4 (by decide +kernel) (by decide +kernel) rfl).trans ?_
  refine (ze_aload_n 114 zm34 dX4_copyFrom_113 rfl rfl).trans ?_
  refine (ze_getR 117 zm34 dX4_copyFrom_114 f4_27 k11_4 t4_9 (rr11_9 b) rfl).trans ?_
  refine (ze_iconst 118 zm34 dX4_copyFrom_117 ci_0 rfl).trans ?_
  refine (ze_aload_n 119 zm34 dX4_copyFrom_118 rfl rfl).trans ?_
  refine (ze_getR 122 zm34 dX4_copyFrom_119 f4_27 k3_4 t4_9 (rr3_9 b) rfl).trans ?_
  refine (ze_iconst 123 zm34 dX4_copyFrom_122 ci_0 rfl).trans ?_
  refine (ze_bipush 125 zm34 dX4_copyFrom_123 cb_6 rfl).trans ?_
  refine (ze_copy (ns := 0) (nd := 0) (nc := 6) 128 zm34 dX4_copyFrom_125 r4_49 rfl k9_100 k17_100 (by decide) (by decide) (by decide) tn_0 tn_0 tn_6 (by decide +kernel) (by decide +kernel) rfl).trans ?_
  refine (ze_aload_n 129 zm34 dX4_copyFrom_128 rfl rfl).trans ?_
  refine (ze_getR 132 zm34 dX4_copyFrom_129 f4_30 k11_4 t4_10 (rr11_10 b) rfl).trans ?_
  refine (ze_iconst 133 zm34 dX4_copyFrom_132 ci_0 rfl).trans ?_
  refine (ze_aload_n 134 zm34 dX4_copyFrom_133 rfl rfl).trans ?_
  refine (ze_getR 137 zm34 dX4_copyFrom_134 f4_30 k3_4 t4_10 (rr3_10 b) rfl).trans ?_
  refine (ze_iconst 138 zm34 dX4_copyFrom_137 ci_0 rfl).trans ?_
  refine (ze_bipush 140 zm34 dX4_copyFrom_138 cb_6 rfl).trans ?_
  refine (ze_copy (ns := 0) (nd := 0) (nc := 6) 143 zm34 dX4_copyFrom_140 r4_49 rfl k10_100 k18_100 (by decide) (by decide) (by decide) tn_0 tn_0 tn_6 (by decide +kernel) (by decide +kernel) rfl).trans ?_
  exact ze_return zm34 dX4_copyFrom_143 rfl
/-! HarpFences$Land.isAt (II)Z: method 35 -/
theorem b35_0 (sc : zScr) (v1 : Int32) (v2 : Int32) (i : Nat → Nat → Int32) (b : Bool) (l : Nat → Nat → Int64) (h1 : vp_in v1 8) : zev sc (35, 0, [some (.ref 3), some (.int v1), some (.int v2)], [], (197, i, (zRF b), l)) = if (i 4 v1.toNatClampNeg) = v2 then zev sc (35, 20, [some (.ref 3), some (.int v1), some (.int v2)], [], (197, i, (zRF b), l)) else zev sc (35, 10, [some (.ref 3), some (.int v1), some (.int v2)], [], (197, i, (zRF b), l)) := by
  refine (ze_aload_n 1 zm35 dX4_isAt_0 rfl rfl).trans ?_
  refine (ze_getR 4 zm35 dX4_isAt_1 f4_9 k3_4 t4_2 (rr3_2 b) rfl).trans ?_
  refine (ze_iload_n 5 zm35 dX4_isAt_4 rfl rfl).trans ?_
  refine (ze_iaload (t := v1.toNatClampNeg) 6 zm35 dX4_isAt_5 k4_100 n4 h1 rfl rfl).trans ?_
  refine (ze_iload_n 7 zm35 dX4_isAt_6 rfl rfl).trans ?_
  exact ze_icmp_eq 20 10 zm35 dX4_isAt_7 (by decide) rfl
theorem b35_10 (sc : zScr) (v1 : Int32) (v2 : Int32) (i : Nat → Nat → Int32) (b : Bool) (l : Nat → Nat → Int64) (h1 : vp_in v1 8) : zev sc (35, 10, [some (.ref 3), some (.int v1), some (.int v2)], [], (197, i, (zRF b), l)) = if (i 5 v1.toNatClampNeg) = v2 then zev sc (35, 20, [some (.ref 3), some (.int v1), some (.int v2)], [], (197, i, (zRF b), l)) else zev sc (35, 24, [some (.ref 3), some (.int v1), some (.int v2)], [], (197, i, (zRF b), l)) := by
  refine (ze_aload_n 11 zm35 dX4_isAt_10 rfl rfl).trans ?_
  refine (ze_getR 14 zm35 dX4_isAt_11 f4_15 k3_4 t4_3 (rr3_3 b) rfl).trans ?_
  refine (ze_iload_n 15 zm35 dX4_isAt_14 rfl rfl).trans ?_
  refine (ze_iaload (t := v1.toNatClampNeg) 16 zm35 dX4_isAt_15 k5_100 n5 h1 rfl rfl).trans ?_
  refine (ze_iload_n 17 zm35 dX4_isAt_16 rfl rfl).trans ?_
  exact ze_icmp_ne 24 20 zm35 dX4_isAt_17 (by decide) rfl
theorem b35_20 (sc : zScr) (v1 : Int32) (v2 : Int32) (i : Nat → Nat → Int32) (b : Bool) (l : Nat → Nat → Int64) : zev sc (35, 20, [some (.ref 3), some (.int v1), some (.int v2)], [], (197, i, (zRF b), l)) = zev sc (35, 25, [some (.ref 3), some (.int v1), some (.int v2)], [.int (1 : Int32)], (197, i, (zRF b), l)) := by
  refine (ze_iconst 21 zm35 dX4_isAt_20 ci_1 rfl).trans ?_
  exact ze_goto 25 zm35 dX4_isAt_21 (by decide)
theorem b35_24 (sc : zScr) (v1 : Int32) (v2 : Int32) (i : Nat → Nat → Int32) (b : Bool) (l : Nat → Nat → Int64) : zev sc (35, 24, [some (.ref 3), some (.int v1), some (.int v2)], [], (197, i, (zRF b), l)) = zev sc (35, 25, [some (.ref 3), some (.int v1), some (.int v2)], [.int (0 : Int32)], (197, i, (zRF b), l)) := by
  refine (ze_iconst 25 zm35 dX4_isAt_24 ci_0 rfl).trans ?_
  rfl
theorem b35_25 (sc : zScr) (v1 : Int32) (v2 : Int32) (s0 : Int32) (i : Nat → Nat → Int32) (b : Bool) (l : Nat → Nat → Int64) (h1 : s0 = 0 ∨ s0 = 1) : zev sc (35, 25, [some (.ref 3), some (.int v1), some (.int v2)], [.int s0], (197, i, (zRF b), l)) = some (.int s0, (197, i, (zRF b), l)) := by
  exact ze_zreturn zm35 dX4_isAt_25 rfl h1
/-! HarpFences$Land.across (II)I: method 36 -/
theorem b36_0 (sc : zScr) (v1 : Int32) (v2 : Int32) (i : Nat → Nat → Int32) (b : Bool) (l : Nat → Nat → Int64) (h1 : vp_in v1 8) : zev sc (36, 0, [some (.ref 3), some (.int v1), some (.int v2)], [], (197, i, (zRF b), l)) = if (i 4 v1.toNatClampNeg) = v2 then zev sc (36, 10, [some (.ref 3), some (.int v1), some (.int v2)], [], (197, i, (zRF b), l)) else zev sc (36, 19, [some (.ref 3), some (.int v1), some (.int v2)], [], (197, i, (zRF b), l)) := by
  refine (ze_aload_n 1 zm36 dX4_across_0 rfl rfl).trans ?_
  refine (ze_getR 4 zm36 dX4_across_1 f4_9 k3_4 t4_2 (rr3_2 b) rfl).trans ?_
  refine (ze_iload_n 5 zm36 dX4_across_4 rfl rfl).trans ?_
  refine (ze_iaload (t := v1.toNatClampNeg) 6 zm36 dX4_across_5 k4_100 n4 h1 rfl rfl).trans ?_
  refine (ze_iload_n 7 zm36 dX4_across_6 rfl rfl).trans ?_
  exact ze_icmp_ne 19 10 zm36 dX4_across_7 (by decide) rfl
theorem b36_10 (sc : zScr) (v1 : Int32) (v2 : Int32) (i : Nat → Nat → Int32) (b : Bool) (l : Nat → Nat → Int64) (h1 : vp_in v1 8) : zev sc (36, 10, [some (.ref 3), some (.int v1), some (.int v2)], [], (197, i, (zRF b), l)) = zev sc (36, 25, [some (.ref 3), some (.int v1), some (.int v2)], [.int (i 5 v1.toNatClampNeg)], (197, i, (zRF b), l)) := by
  refine (ze_aload_n 11 zm36 dX4_across_10 rfl rfl).trans ?_
  refine (ze_getR 14 zm36 dX4_across_11 f4_15 k3_4 t4_3 (rr3_3 b) rfl).trans ?_
  refine (ze_iload_n 15 zm36 dX4_across_14 rfl rfl).trans ?_
  refine (ze_iaload (t := v1.toNatClampNeg) 16 zm36 dX4_across_15 k5_100 n5 h1 rfl rfl).trans ?_
  exact ze_goto 25 zm36 dX4_across_16 (by decide)
theorem b36_19 (sc : zScr) (v1 : Int32) (v2 : Int32) (i : Nat → Nat → Int32) (b : Bool) (l : Nat → Nat → Int64) (h1 : vp_in v1 8) : zev sc (36, 19, [some (.ref 3), some (.int v1), some (.int v2)], [], (197, i, (zRF b), l)) = zev sc (36, 25, [some (.ref 3), some (.int v1), some (.int v2)], [.int (i 4 v1.toNatClampNeg)], (197, i, (zRF b), l)) := by
  refine (ze_aload_n 20 zm36 dX4_across_19 rfl rfl).trans ?_
  refine (ze_getR 23 zm36 dX4_across_20 f4_9 k3_4 t4_2 (rr3_2 b) rfl).trans ?_
  refine (ze_iload_n 24 zm36 dX4_across_23 rfl rfl).trans ?_
  refine (ze_iaload (t := v1.toNatClampNeg) 25 zm36 dX4_across_24 k4_100 n4 h1 rfl rfl).trans ?_
  rfl
theorem b36_25 (sc : zScr) (v1 : Int32) (v2 : Int32) (s0 : Int32) (i : Nat → Nat → Int32) (b : Bool) (l : Nat → Nat → Int64) : zev sc (36, 25, [some (.ref 3), some (.int v1), some (.int v2)], [.int s0], (197, i, (zRF b), l)) = some (.int s0, (197, i, (zRF b), l)) := by
  exact ze_ireturn zm36 dX4_across_25 rfl
/-! HarpFences$Land.endBits (I)I: method 37 -/
theorem b37_0 (sc : zScr) (v1 : Int32) (i : Nat → Nat → Int32) (b : Bool) (l : Nat → Nat → Int64) (h1 : vp_in v1 8) : zev sc (37, 0, [some (.ref 3), some (.int v1)], [], (197, i, (zRF b), l)) = some (.int (((1 : Int32) <<< ((i 4 v1.toNatClampNeg) &&& 31)) ||| ((1 : Int32) <<< ((i 5 v1.toNatClampNeg) &&& 31))), (197, i, (zRF b), l)) := by
  refine (ze_iconst 1 zm37 dX4_endBits_0 ci_1 rfl).trans ?_
  refine (ze_aload_n 2 zm37 dX4_endBits_1 rfl rfl).trans ?_
  refine (ze_getR 5 zm37 dX4_endBits_2 f4_9 k3_4 t4_2 (rr3_2 b) rfl).trans ?_
  refine (ze_iload_n 6 zm37 dX4_endBits_5 rfl rfl).trans ?_
  refine (ze_iaload (t := v1.toNatClampNeg) 7 zm37 dX4_endBits_6 k4_100 n4 h1 rfl rfl).trans ?_
  refine (ze_ishl 8 zm37 dX4_endBits_7 rfl).trans ?_
  refine (ze_iconst 9 zm37 dX4_endBits_8 ci_1 rfl).trans ?_
  refine (ze_aload_n 10 zm37 dX4_endBits_9 rfl rfl).trans ?_
  refine (ze_getR 13 zm37 dX4_endBits_10 f4_15 k3_4 t4_3 (rr3_3 b) rfl).trans ?_
  refine (ze_iload_n 14 zm37 dX4_endBits_13 rfl rfl).trans ?_
  refine (ze_iaload (t := v1.toNatClampNeg) 15 zm37 dX4_endBits_14 k5_100 n5 h1 rfl rfl).trans ?_
  refine (ze_ishl 16 zm37 dX4_endBits_15 rfl).trans ?_
  refine (ze_ior 17 zm37 dX4_endBits_16 rfl).trans ?_
  exact ze_ireturn zm37 dX4_endBits_17 rfl
/-! HarpFences$Past.note (LHarpFences$Stand;)V: method 39 -/
theorem b39_0 (sc : zScr) (i : Nat → Nat → Int32) (b : Bool) (l : Nat → Nat → Int64) : zev sc (39, 0, [some (.ref 24), some (.ref 19)], [], (197, i, (zRF b), l)) = if (10 : Int32) ≤ ((i 24 1) + (1 : Int32)) then zev sc (39, 21, [some (.ref 24), some (.ref 19)], [.ref 24], (197, i, (zRF b), l)) else zev sc (39, 12, [some (.ref 24), some (.ref 19)], [.ref 24], (197, i, (zRF b), l)) := by
  refine (ze_aload_n 1 zm39 dX5_note_0 rfl rfl).trans ?_
  refine (ze_aload_n 2 zm39 dX5_note_1 rfl rfl).trans ?_
  refine (ze_getI 5 zm39 dX5_note_2 f5_18 k24_5 (Or.inl t5_1) rfl).trans ?_
  refine (ze_iconst 6 zm39 dX5_note_5 ci_1 rfl).trans ?_
  refine (ze_iadd 7 zm39 dX5_note_6 rfl).trans ?_
  refine (ze_bipush 9 zm39 dX5_note_7 cb_10 rfl).trans ?_
  exact ze_icmp_ge 21 12 zm39 dX5_note_9 (by decide) rfl
theorem b39_12 (sc : zScr) (i : Nat → Nat → Int32) (b : Bool) (l : Nat → Nat → Int64) : zev sc (39, 12, [some (.ref 24), some (.ref 19)], [.ref 24], (197, i, (zRF b), l)) = zev sc (39, 22, [some (.ref 24), some (.ref 19)], [.int ((i 24 1) + (1 : Int32)), .ref 24], (197, i, (zRF b), l)) := by
  refine (ze_aload_n 13 zm39 dX5_note_12 rfl rfl).trans ?_
  refine (ze_getI 16 zm39 dX5_note_13 f5_18 k24_5 (Or.inl t5_1) rfl).trans ?_
  refine (ze_iconst 17 zm39 dX5_note_16 ci_1 rfl).trans ?_
  refine (ze_iadd 18 zm39 dX5_note_17 rfl).trans ?_
  exact ze_goto 22 zm39 dX5_note_18 (by decide)
theorem b39_21 (sc : zScr) (i : Nat → Nat → Int32) (b : Bool) (l : Nat → Nat → Int64) : zev sc (39, 21, [some (.ref 24), some (.ref 19)], [.ref 24], (197, i, (zRF b), l)) = zev sc (39, 22, [some (.ref 24), some (.ref 19)], [.int (0 : Int32), .ref 24], (197, i, (zRF b), l)) := by
  refine (ze_iconst 22 zm39 dX5_note_21 ci_0 rfl).trans ?_
  rfl
theorem b39_22 (sc : zScr) (s0 : Int32) (q1 : Nat) (i : Nat → Nat → Int32) (b : Bool) (l : Nat → Nat → Int64) (h1 : vp_in ((zU i 24 1 s0) 24 1) 10) (h2 : zRF b 25 (((zU i 24 1 s0) 24 1)).toNatClampNeg = some q1) (h3 : zok 197 q1 7 = true) : zev sc (39, 22, [some (.ref 24), some (.ref 19)], [.int s0, .ref 24], (197, i, (zRF b), l)) = (zev sc (56, 0, [some (.ref q1), some (.ref 19)], [], (197, (zU i 24 1 s0), (zRF b), l))).bind (fun x => zev sc (39, 38, [some (.ref 24), some (.ref 19)], [], x.2)) := by
  refine (ze_putI 25 zm39 dX5_note_22 f5_18 k24_5 (Or.inl fn5_1) t5_1 rfl).trans ?_
  refine (ze_aload_n 26 zm39 dX5_note_25 rfl rfl).trans ?_
  refine (ze_getR 29 zm39 dX5_note_26 f5_11 k24_5 t5_0 (rr24_0 b) rfl).trans ?_
  refine (ze_aload_n 30 zm39 dX5_note_29 rfl rfl).trans ?_
  refine (ze_getI 33 zm39 dX5_note_30 f5_18 k24_5 (Or.inl t5_1) rfl).trans ?_
  refine (ze_aaload (t := (((zU i 24 1 s0) 24 1)).toNatClampNeg) (q := q1) 34 zm39 dX5_note_33 (Or.inl k25_103) n25 h1 rfl h2 rfl).trans ?_
  refine (ze_aload_n 35 zm39 dX5_note_34 rfl rfl).trans ?_
  exact ze_virtV (as := [.ref 19]) (rest := []) 38 zm39 dX5_note_35 r5_22 zm56 rfl rfl h3 rfl rfl rfl rfl
theorem b39_38 (sc : zScr) (i : Nat → Nat → Int32) (b : Bool) (l : Nat → Nat → Int64) : zev sc (39, 38, [some (.ref 24), some (.ref 19)], [], (197, i, (zRF b), l)) = some (.null, (197, (zU i 24 2 (if ((i 24 2) + (1 : Int32)) < (10 : Int32) then ((i 24 2) + (1 : Int32)) else (10 : Int32))), (zRF b), l)) := by
  refine (ze_aload_n 39 zm39 dX5_note_38 rfl rfl).trans ?_
  refine (ze_bipush 41 zm39 dX5_note_39 cb_10 rfl).trans ?_
  refine (ze_aload_n 42 zm39 dX5_note_41 rfl rfl).trans ?_
  refine (ze_getI 45 zm39 dX5_note_42 f5_26 k24_5 (Or.inl t5_2) rfl).trans ?_
  refine (ze_iconst 46 zm39 dX5_note_45 ci_1 rfl).trans ?_
  refine (ze_iadd 47 zm39 dX5_note_46 rfl).trans ?_
  refine (ze_min 50 zm39 dX5_note_47 r5_29 rfl rfl).trans ?_
  refine (ze_putI 53 zm39 dX5_note_50 f5_26 k24_5 (Or.inl fn5_2) t5_2 rfl).trans ?_
  exact ze_return zm39 dX5_note_53 rfl
/-! HarpFences$Past.restore (LHarpFences$Stand;)V: method 40 -/
theorem b40_0 (sc : zScr) (q1 : Nat) (i : Nat → Nat → Int32) (b : Bool) (l : Nat → Nat → Int64) (h1 : vp_in (i 24 1) 10) (h2 : zRF b 25 ((i 24 1)).toNatClampNeg = some q1) : zev sc (40, 0, [some (.ref 24), some (.ref 19)], [], (197, i, (zRF b), l)) = (zev sc (56, 0, [some (.ref 19), some (.ref q1)], [], (197, i, (zRF b), l))).bind (fun x => zev sc (40, 13, [some (.ref 24), some (.ref 19)], [], x.2)) := by
  refine (ze_aload_n 1 zm40 dX5_restore_0 rfl rfl).trans ?_
  refine (ze_aload_n 2 zm40 dX5_restore_1 rfl rfl).trans ?_
  refine (ze_getR 5 zm40 dX5_restore_2 f5_11 k24_5 t5_0 (rr24_0 b) rfl).trans ?_
  refine (ze_aload_n 6 zm40 dX5_restore_5 rfl rfl).trans ?_
  refine (ze_getI 9 zm40 dX5_restore_6 f5_18 k24_5 (Or.inl t5_1) rfl).trans ?_
  refine (ze_aaload (t := ((i 24 1)).toNatClampNeg) (q := q1) 10 zm40 dX5_restore_9 (Or.inl k25_103) n25 h1 rfl h2 rfl).trans ?_
  exact ze_virtV (as := [.ref q1]) (rest := []) 13 zm40 dX5_restore_10 r5_22 zm56 rfl rfl k19_7 rfl rfl rfl rfl
theorem b40_13 (sc : zScr) (i : Nat → Nat → Int32) (b : Bool) (l : Nat → Nat → Int64) : zev sc (40, 13, [some (.ref 24), some (.ref 19)], [], (197, i, (zRF b), l)) = if (i 24 1) ≤ 0 then zev sc (40, 30, [some (.ref 24), some (.ref 19)], [.ref 24], (197, i, (zRF b), l)) else zev sc (40, 21, [some (.ref 24), some (.ref 19)], [.ref 24], (197, i, (zRF b), l)) := by
  refine (ze_aload_n 14 zm40 dX5_restore_13 rfl rfl).trans ?_
  refine (ze_aload_n 15 zm40 dX5_restore_14 rfl rfl).trans ?_
  refine (ze_getI 18 zm40 dX5_restore_15 f5_18 k24_5 (Or.inl t5_1) rfl).trans ?_
  exact ze_if_le 30 21 zm40 dX5_restore_18 (by decide) rfl
theorem b40_21 (sc : zScr) (i : Nat → Nat → Int32) (b : Bool) (l : Nat → Nat → Int64) : zev sc (40, 21, [some (.ref 24), some (.ref 19)], [.ref 24], (197, i, (zRF b), l)) = zev sc (40, 32, [some (.ref 24), some (.ref 19)], [.int ((i 24 1) - (1 : Int32)), .ref 24], (197, i, (zRF b), l)) := by
  refine (ze_aload_n 22 zm40 dX5_restore_21 rfl rfl).trans ?_
  refine (ze_getI 25 zm40 dX5_restore_22 f5_18 k24_5 (Or.inl t5_1) rfl).trans ?_
  refine (ze_iconst 26 zm40 dX5_restore_25 ci_1 rfl).trans ?_
  refine (ze_isub 27 zm40 dX5_restore_26 rfl).trans ?_
  exact ze_goto 32 zm40 dX5_restore_27 (by decide)
theorem b40_30 (sc : zScr) (i : Nat → Nat → Int32) (b : Bool) (l : Nat → Nat → Int64) : zev sc (40, 30, [some (.ref 24), some (.ref 19)], [.ref 24], (197, i, (zRF b), l)) = zev sc (40, 32, [some (.ref 24), some (.ref 19)], [.int (9 : Int32), .ref 24], (197, i, (zRF b), l)) := by
  refine (ze_bipush 32 zm40 dX5_restore_30 cb_9 rfl).trans ?_
  rfl
theorem b40_32 (sc : zScr) (s0 : Int32) (i : Nat → Nat → Int32) (b : Bool) (l : Nat → Nat → Int64) : zev sc (40, 32, [some (.ref 24), some (.ref 19)], [.int s0, .ref 24], (197, i, (zRF b), l)) = some (.null, (197, (zU (zU i 24 1 s0) 24 2 (if (0 : Int32) < (((zU i 24 1 s0) 24 2) - (1 : Int32)) then (((zU i 24 1 s0) 24 2) - (1 : Int32)) else (0 : Int32))), (zRF b), l)) := by
  refine (ze_putI 35 zm40 dX5_restore_32 f5_18 k24_5 (Or.inl fn5_1) t5_1 rfl).trans ?_
  refine (ze_aload_n 36 zm40 dX5_restore_35 rfl rfl).trans ?_
  refine (ze_iconst 37 zm40 dX5_restore_36 ci_0 rfl).trans ?_
  refine (ze_aload_n 38 zm40 dX5_restore_37 rfl rfl).trans ?_
  refine (ze_getI 41 zm40 dX5_restore_38 f5_26 k24_5 (Or.inl t5_2) rfl).trans ?_
  refine (ze_iconst 42 zm40 dX5_restore_41 ci_1 rfl).trans ?_
  refine (ze_isub 43 zm40 dX5_restore_42 rfl).trans ?_
  refine (ze_max 46 zm40 dX5_restore_43 r5_35 rfl rfl).trans ?_
  refine (ze_putI 49 zm40 dX5_restore_46 f5_26 k24_5 (Or.inl fn5_2) t5_2 rfl).trans ?_
  exact ze_return zm40 dX5_restore_49 rfl
/-! HarpFences$Past.copyFrom (LHarpFences$Past;)V: method 41 -/
theorem b41_0 (sc : zScr) (a0 : Nat) (a1 : Nat) (i : Nat → Nat → Int32) (b : Bool) (l : Nat → Nat → Int64) : zev sc (41, 0, [some (.ref a0), some (.ref a1), none], [], (197, i, (zRF b), l)) = zev sc (41, 2, [some (.ref a0), some (.ref a1), some (.int (0 : Int32))], [], (197, i, (zRF b), l)) := by
  refine (ze_iconst 1 zm41 dX5_copyFrom_0 ci_0 rfl).trans ?_
  refine (ze_istore_n (A := 99) (ls' := [some (.ref a0), some (.ref a1), some (.int (0 : Int32))]) 2 zm41 dX5_copyFrom_1 za41 rfl rfl rfl rfl rfl).trans ?_
  rfl
theorem b41_2 (sc : zScr) (a0 : Nat) (a1 : Nat) (v2 : Int32) (i : Nat → Nat → Int32) (b : Bool) (l : Nat → Nat → Int64) : zev sc (41, 2, [some (.ref a0), some (.ref a1), some (.int v2)], [], (197, i, (zRF b), l)) = if (10 : Int32) ≤ v2 then zev sc (41, 29, [some (.ref a0), some (.ref a1), some (.int v2)], [], (197, i, (zRF b), l)) else zev sc (41, 8, [some (.ref a0), some (.ref a1), some (.int v2)], [], (197, i, (zRF b), l)) := by
  refine (ze_iload_n 3 zm41 dX5_copyFrom_2 rfl rfl).trans ?_
  refine (ze_bipush 5 zm41 dX5_copyFrom_3 cb_10 rfl).trans ?_
  exact ze_icmp_ge 29 8 zm41 dX5_copyFrom_5 (by decide) rfl
theorem b41_8 (sc : zScr) (a0 : Nat) (a1 : Nat) (v2 : Int32) (q1 : Nat) (q2 : Nat) (q3 : Nat) (q4 : Nat) (i : Nat → Nat → Int32) (b : Bool) (l : Nat → Nat → Int64) (h1 : zok 197 a0 5 = true) (h2 : zRF b a0 0 = some q1) (h3 : (zK q1).2 = 10) (h4 : zok 197 q1 103 = true) (h5 : vp_in v2 10) (h6 : zRF b q1 v2.toNatClampNeg = some q2) (h7 : zok 197 a1 5 = true) (h8 : zRF b a1 0 = some q3) (h9 : (zK q3).2 = 10) (h10 : zok 197 q3 103 = true) (h11 : zRF b q3 v2.toNatClampNeg = some q4) (h12 : zok 197 q2 7 = true) : zev sc (41, 8, [some (.ref a0), some (.ref a1), some (.int v2)], [], (197, i, (zRF b), l)) = (zev sc (56, 0, [some (.ref q2), some (.ref q4)], [], (197, i, (zRF b), l))).bind (fun x => zev sc (41, 23, [some (.ref a0), some (.ref a1), some (.int v2)], [], x.2)) := by
  refine (ze_aload_n 9 zm41 dX5_copyFrom_8 rfl rfl).trans ?_
  refine (ze_getR (q := q1) 12 zm41 dX5_copyFrom_9 f5_11 h1 t5_0 h2 rfl).trans ?_
  refine (ze_iload_n 13 zm41 dX5_copyFrom_12 rfl rfl).trans ?_
  refine (ze_aaload (t := v2.toNatClampNeg) (q := q2) 14 zm41 dX5_copyFrom_13 (Or.inl h4) h3 h5 rfl h6 rfl).trans ?_
  refine (ze_aload_n 15 zm41 dX5_copyFrom_14 rfl rfl).trans ?_
  refine (ze_getR (q := q3) 18 zm41 dX5_copyFrom_15 f5_11 h7 t5_0 h8 rfl).trans ?_
  refine (ze_iload_n 19 zm41 dX5_copyFrom_18 rfl rfl).trans ?_
  refine (ze_aaload (t := v2.toNatClampNeg) (q := q4) 20 zm41 dX5_copyFrom_19 (Or.inl h10) h9 h5 rfl h11 rfl).trans ?_
  exact ze_virtV (as := [.ref q4]) (rest := []) 23 zm41 dX5_copyFrom_20 r5_22 zm56 rfl rfl h12 rfl rfl rfl rfl
theorem b41_23 (sc : zScr) (a0 : Nat) (a1 : Nat) (v2 : Int32) (i : Nat → Nat → Int32) (b : Bool) (l : Nat → Nat → Int64) : zev sc (41, 23, [some (.ref a0), some (.ref a1), some (.int v2)], [], (197, i, (zRF b), l)) = zev sc (41, 2, [some (.ref a0), some (.ref a1), some (.int (v2 + 1))], [], (197, i, (zRF b), l)) := by
  refine (ze_iinc (v := (1 : Int32)) (A := 99) (ls' := [some (.ref a0), some (.ref a1), some (.int (v2 + 1))]) 26 zm41 dX5_copyFrom_23 rfl ci_1 za41 rfl rfl rfl rfl rfl).trans ?_
  exact ze_goto 2 zm41 dX5_copyFrom_26 (by decide)
theorem b41_29 (sc : zScr) (a0 : Nat) (a1 : Nat) (v2 : Int32) (i : Nat → Nat → Int32) (b : Bool) (l : Nat → Nat → Int64) (h1 : zok 197 a1 5 = true) (h2 : zok 197 a0 5 = true) : zev sc (41, 29, [some (.ref a0), some (.ref a1), some (.int v2)], [], (197, i, (zRF b), l)) = some (.null, (197, (zU (zU i a0 1 (i a1 1)) a0 2 ((zU i a0 1 (i a1 1)) a1 2)), (zRF b), l)) := by
  refine (ze_aload_n 30 zm41 dX5_copyFrom_29 rfl rfl).trans ?_
  refine (ze_aload_n 31 zm41 dX5_copyFrom_30 rfl rfl).trans ?_
  refine (ze_getI 34 zm41 dX5_copyFrom_31 f5_18 h1 (Or.inl t5_1) rfl).trans ?_
  refine (ze_putI 37 zm41 dX5_copyFrom_34 f5_18 h2 (Or.inl fn5_1) t5_1 rfl).trans ?_
  refine (ze_aload_n 38 zm41 dX5_copyFrom_37 rfl rfl).trans ?_
  refine (ze_aload_n 39 zm41 dX5_copyFrom_38 rfl rfl).trans ?_
  refine (ze_getI 42 zm41 dX5_copyFrom_39 f5_26 h1 (Or.inl t5_2) rfl).trans ?_
  refine (ze_putI 45 zm41 dX5_copyFrom_42 f5_26 h2 (Or.inl fn5_2) t5_2 rfl).trans ?_
  exact ze_return zm41 dX5_copyFrom_45 rfl
/-! HarpFences$Paths.fewestHeard (III)I: method 43 -/
theorem b43_0 (sc : zScr) (v1 : Int32) (v2 : Int32) (v3 : Int32) (i : Nat → Nat → Int32) (b : Bool) (l : Nat → Nat → Int64) : zev sc (43, 0, [some (.ref 72), some (.int v1), some (.int v2), some (.int v3)], [], (197, i, (zRF b), l)) = (zev sc (47, 0, [some (.ref 72), some (.int v1), some (.int v3), none, none, none, none, none], [], (197, i, (zRF b), l))).bind (fun x => zev sc (43, 6, [some (.ref 72), some (.int v1), some (.int v2), some (.int v3)], [], x.2)) := by
  refine (ze_aload_n 1 zm43 dX6_fewestHeard_0 rfl rfl).trans ?_
  refine (ze_iload_n 2 zm43 dX6_fewestHeard_1 rfl rfl).trans ?_
  refine (ze_iload_n 3 zm43 dX6_fewestHeard_2 rfl rfl).trans ?_
  exact ze_virtV (as := [.int v1, .int v3]) (rest := []) 6 zm43 dX6_fewestHeard_3 r6_29 zm47 rfl rfl k72_6 rfl rfl rfl rfl
theorem b43_6 (sc : zScr) (v1 : Int32) (v2 : Int32) (v3 : Int32) (i : Nat → Nat → Int32) (b : Bool) (l : Nat → Nat → Int64) (h1 : vp_in v2 8) : zev sc (43, 6, [some (.ref 72), some (.int v1), some (.int v2), some (.int v3)], [], (197, i, (zRF b), l)) = if (i 73 v2.toNatClampNeg) < (1000000 : Int32) then zev sc (43, 22, [some (.ref 72), some (.int v1), some (.int v2), some (.int v3)], [], (197, i, (zRF b), l)) else zev sc (43, 17, [some (.ref 72), some (.int v1), some (.int v2), some (.int v3)], [], (197, i, (zRF b), l)) := by
  refine (ze_aload_n 7 zm43 dX6_fewestHeard_6 rfl rfl).trans ?_
  refine (ze_getR 10 zm43 dX6_fewestHeard_7 f6_9 k72_6 t6_2 (rr72_2 b) rfl).trans ?_
  refine (ze_iload_n 11 zm43 dX6_fewestHeard_10 rfl rfl).trans ?_
  refine (ze_iaload (t := v2.toNatClampNeg) 12 zm43 dX6_fewestHeard_11 k73_100 n73 h1 rfl rfl).trans ?_
  refine (ze_ldc 14 zm43 dX6_fewestHeard_12 zi_6_33 rfl).trans ?_
  exact ze_icmp_lt 22 17 zm43 dX6_fewestHeard_14 (by decide) rfl
theorem b43_17 (sc : zScr) (v1 : Int32) (v2 : Int32) (v3 : Int32) (i : Nat → Nat → Int32) (b : Bool) (l : Nat → Nat → Int64) : zev sc (43, 17, [some (.ref 72), some (.int v1), some (.int v2), some (.int v3)], [], (197, i, (zRF b), l)) = zev sc (43, 31, [some (.ref 72), some (.int v1), some (.int v2), some (.int v3)], [.int (-9 : Int32)], (197, i, (zRF b), l)) := by
  refine (ze_bipush 19 zm43 dX6_fewestHeard_17 cb_m9 rfl).trans ?_
  exact ze_goto 31 zm43 dX6_fewestHeard_19 (by decide)
theorem b43_22 (sc : zScr) (v1 : Int32) (v2 : Int32) (v3 : Int32) (i : Nat → Nat → Int32) (b : Bool) (l : Nat → Nat → Int64) (h1 : vp_in v2 8) : zev sc (43, 22, [some (.ref 72), some (.int v1), some (.int v2), some (.int v3)], [], (197, i, (zRF b), l)) = zev sc (43, 31, [some (.ref 72), some (.int v1), some (.int v2), some (.int v3)], [.int ((i 73 v2.toNatClampNeg) / (100 : Int32))], (197, i, (zRF b), l)) := by
  refine (ze_aload_n 23 zm43 dX6_fewestHeard_22 rfl rfl).trans ?_
  refine (ze_getR 26 zm43 dX6_fewestHeard_23 f6_9 k72_6 t6_2 (rr72_2 b) rfl).trans ?_
  refine (ze_iload_n 27 zm43 dX6_fewestHeard_26 rfl rfl).trans ?_
  refine (ze_iaload (t := v2.toNatClampNeg) 28 zm43 dX6_fewestHeard_27 k73_100 n73 h1 rfl rfl).trans ?_
  refine (ze_bipush 30 zm43 dX6_fewestHeard_28 cb_100 rfl).trans ?_
  refine (ze_idiv 31 zm43 dX6_fewestHeard_30 (by decide) rfl).trans ?_
  rfl
theorem b43_31 (sc : zScr) (v1 : Int32) (v2 : Int32) (v3 : Int32) (s0 : Int32) (i : Nat → Nat → Int32) (b : Bool) (l : Nat → Nat → Int64) : zev sc (43, 31, [some (.ref 72), some (.int v1), some (.int v2), some (.int v3)], [.int s0], (197, i, (zRF b), l)) = some (.int s0, (197, i, (zRF b), l)) := by
  exact ze_ireturn zm43 dX6_fewestHeard_31 rfl
/-! HarpFences$Paths.fewestCrossings (III)I: method 44 -/
theorem b44_0 (sc : zScr) (v1 : Int32) (v2 : Int32) (v3 : Int32) (i : Nat → Nat → Int32) (b : Bool) (l : Nat → Nat → Int64) : zev sc (44, 0, [some (.ref 72), some (.int v1), some (.int v2), some (.int v3)], [], (197, i, (zRF b), l)) = (zev sc (47, 0, [some (.ref 72), some (.int v1), some (.int v3), none, none, none, none, none], [], (197, i, (zRF b), l))).bind (fun x => zev sc (44, 6, [some (.ref 72), some (.int v1), some (.int v2), some (.int v3)], [], x.2)) := by
  refine (ze_aload_n 1 zm44 dX6_fewestCrossings_0 rfl rfl).trans ?_
  refine (ze_iload_n 2 zm44 dX6_fewestCrossings_1 rfl rfl).trans ?_
  refine (ze_iload_n 3 zm44 dX6_fewestCrossings_2 rfl rfl).trans ?_
  exact ze_virtV (as := [.int v1, .int v3]) (rest := []) 6 zm44 dX6_fewestCrossings_3 r6_29 zm47 rfl rfl k72_6 rfl rfl rfl rfl
theorem b44_6 (sc : zScr) (v1 : Int32) (v2 : Int32) (v3 : Int32) (i : Nat → Nat → Int32) (b : Bool) (l : Nat → Nat → Int64) (h1 : vp_in v2 8) : zev sc (44, 6, [some (.ref 72), some (.int v1), some (.int v2), some (.int v3)], [], (197, i, (zRF b), l)) = if (i 73 v2.toNatClampNeg) < (1000000 : Int32) then zev sc (44, 22, [some (.ref 72), some (.int v1), some (.int v2), some (.int v3)], [], (197, i, (zRF b), l)) else zev sc (44, 17, [some (.ref 72), some (.int v1), some (.int v2), some (.int v3)], [], (197, i, (zRF b), l)) := by
  refine (ze_aload_n 7 zm44 dX6_fewestCrossings_6 rfl rfl).trans ?_
  refine (ze_getR 10 zm44 dX6_fewestCrossings_7 f6_9 k72_6 t6_2 (rr72_2 b) rfl).trans ?_
  refine (ze_iload_n 11 zm44 dX6_fewestCrossings_10 rfl rfl).trans ?_
  refine (ze_iaload (t := v2.toNatClampNeg) 12 zm44 dX6_fewestCrossings_11 k73_100 n73 h1 rfl rfl).trans ?_
  refine (ze_ldc 14 zm44 dX6_fewestCrossings_12 zi_6_33 rfl).trans ?_
  exact ze_icmp_lt 22 17 zm44 dX6_fewestCrossings_14 (by decide) rfl
theorem b44_17 (sc : zScr) (v1 : Int32) (v2 : Int32) (v3 : Int32) (i : Nat → Nat → Int32) (b : Bool) (l : Nat → Nat → Int64) : zev sc (44, 17, [some (.ref 72), some (.int v1), some (.int v2), some (.int v3)], [], (197, i, (zRF b), l)) = zev sc (44, 31, [some (.ref 72), some (.int v1), some (.int v2), some (.int v3)], [.int (-9 : Int32)], (197, i, (zRF b), l)) := by
  refine (ze_bipush 19 zm44 dX6_fewestCrossings_17 cb_m9 rfl).trans ?_
  exact ze_goto 31 zm44 dX6_fewestCrossings_19 (by decide)
theorem b44_22 (sc : zScr) (v1 : Int32) (v2 : Int32) (v3 : Int32) (i : Nat → Nat → Int32) (b : Bool) (l : Nat → Nat → Int64) (h1 : vp_in v2 8) : zev sc (44, 22, [some (.ref 72), some (.int v1), some (.int v2), some (.int v3)], [], (197, i, (zRF b), l)) = zev sc (44, 31, [some (.ref 72), some (.int v1), some (.int v2), some (.int v3)], [.int ((i 73 v2.toNatClampNeg) - (i 73 v2.toNatClampNeg) / (100 : Int32) * (100 : Int32))], (197, i, (zRF b), l)) := by
  refine (ze_aload_n 23 zm44 dX6_fewestCrossings_22 rfl rfl).trans ?_
  refine (ze_getR 26 zm44 dX6_fewestCrossings_23 f6_9 k72_6 t6_2 (rr72_2 b) rfl).trans ?_
  refine (ze_iload_n 27 zm44 dX6_fewestCrossings_26 rfl rfl).trans ?_
  refine (ze_iaload (t := v2.toNatClampNeg) 28 zm44 dX6_fewestCrossings_27 k73_100 n73 h1 rfl rfl).trans ?_
  refine (ze_bipush 30 zm44 dX6_fewestCrossings_28 cb_100 rfl).trans ?_
  refine (ze_irem 31 zm44 dX6_fewestCrossings_30 (by decide) rfl).trans ?_
  rfl
theorem b44_31 (sc : zScr) (v1 : Int32) (v2 : Int32) (v3 : Int32) (s0 : Int32) (i : Nat → Nat → Int32) (b : Bool) (l : Nat → Nat → Int64) : zev sc (44, 31, [some (.ref 72), some (.int v1), some (.int v2), some (.int v3)], [.int s0], (197, i, (zRF b), l)) = some (.int s0, (197, i, (zRF b), l)) := by
  exact ze_ireturn zm44 dX6_fewestCrossings_31 rfl
/-! HarpFences$Paths.firstFence (III)I: method 45 -/
theorem b45_0 (sc : zScr) (v1 : Int32) (v2 : Int32) (v3 : Int32) (i : Nat → Nat → Int32) (b : Bool) (l : Nat → Nat → Int64) : zev sc (45, 0, [some (.ref 72), some (.int v1), some (.int v2), some (.int v3), none], [], (197, i, (zRF b), l)) = (zev sc (47, 0, [some (.ref 72), some (.int v1), some (.int v3), none, none, none, none, none], [], (197, i, (zRF b), l))).bind (fun x => zev sc (45, 6, [some (.ref 72), some (.int v1), some (.int v2), some (.int v3), none], [], x.2)) := by
  refine (ze_aload_n 1 zm45 dX6_firstFence_0 rfl rfl).trans ?_
  refine (ze_iload_n 2 zm45 dX6_firstFence_1 rfl rfl).trans ?_
  refine (ze_iload_n 3 zm45 dX6_firstFence_2 rfl rfl).trans ?_
  exact ze_virtV (as := [.int v1, .int v3]) (rest := []) 6 zm45 dX6_firstFence_3 r6_29 zm47 rfl rfl k72_6 rfl rfl rfl rfl
theorem b45_6 (sc : zScr) (v1 : Int32) (v2 : Int32) (v3 : Int32) (i : Nat → Nat → Int32) (b : Bool) (l : Nat → Nat → Int64) : zev sc (45, 6, [some (.ref 72), some (.int v1), some (.int v2), some (.int v3), none], [], (197, i, (zRF b), l)) = if v2 = v3 then zev sc (45, 22, [some (.ref 72), some (.int v1), some (.int v2), some (.int v3), none], [], (197, i, (zRF b), l)) else zev sc (45, 11, [some (.ref 72), some (.int v1), some (.int v2), some (.int v3), none], [], (197, i, (zRF b), l)) := by
  refine (ze_iload_n 7 zm45 dX6_firstFence_6 rfl rfl).trans ?_
  refine (ze_iload_n 8 zm45 dX6_firstFence_7 rfl rfl).trans ?_
  exact ze_icmp_eq 22 11 zm45 dX6_firstFence_8 (by decide) rfl
theorem b45_11 (sc : zScr) (v1 : Int32) (v2 : Int32) (v3 : Int32) (i : Nat → Nat → Int32) (b : Bool) (l : Nat → Nat → Int64) (h1 : vp_in v2 8) : zev sc (45, 11, [some (.ref 72), some (.int v1), some (.int v2), some (.int v3), none], [], (197, i, (zRF b), l)) = if (i 73 v2.toNatClampNeg) < (1000000 : Int32) then zev sc (45, 25, [some (.ref 72), some (.int v1), some (.int v2), some (.int v3), none], [], (197, i, (zRF b), l)) else zev sc (45, 22, [some (.ref 72), some (.int v1), some (.int v2), some (.int v3), none], [], (197, i, (zRF b), l)) := by
  refine (ze_aload_n 12 zm45 dX6_firstFence_11 rfl rfl).trans ?_
  refine (ze_getR 15 zm45 dX6_firstFence_12 f6_9 k72_6 t6_2 (rr72_2 b) rfl).trans ?_
  refine (ze_iload_n 16 zm45 dX6_firstFence_15 rfl rfl).trans ?_
  refine (ze_iaload (t := v2.toNatClampNeg) 17 zm45 dX6_firstFence_16 k73_100 n73 h1 rfl rfl).trans ?_
  refine (ze_ldc 19 zm45 dX6_firstFence_17 zi_6_33 rfl).trans ?_
  exact ze_icmp_lt 25 22 zm45 dX6_firstFence_19 (by decide) rfl
theorem b45_22 (sc : zScr) (v1 : Int32) (v2 : Int32) (v3 : Int32) (i : Nat → Nat → Int32) (b : Bool) (l : Nat → Nat → Int64) : zev sc (45, 22, [some (.ref 72), some (.int v1), some (.int v2), some (.int v3), none], [], (197, i, (zRF b), l)) = some (.int (-9 : Int32), (197, i, (zRF b), l)) := by
  refine (ze_bipush 24 zm45 dX6_firstFence_22 cb_m9 rfl).trans ?_
  exact ze_ireturn zm45 dX6_firstFence_24 rfl
theorem b45_25 (sc : zScr) (v1 : Int32) (v2 : Int32) (v3 : Int32) (i : Nat → Nat → Int32) (b : Bool) (l : Nat → Nat → Int64) : zev sc (45, 25, [some (.ref 72), some (.int v1), some (.int v2), some (.int v3), none], [], (197, i, (zRF b), l)) = zev sc (45, 28, [some (.ref 72), some (.int v1), some (.int v2), some (.int v3), some (.int (0 : Int32))], [], (197, i, (zRF b), l)) := by
  refine (ze_iconst 26 zm45 dX6_firstFence_25 ci_0 rfl).trans ?_
  refine (ze_istore (A := 99) (ls' := [some (.ref 72), some (.int v1), some (.int v2), some (.int v3), some (.int (0 : Int32))]) 28 zm45 dX6_firstFence_26 za45 rfl rfl rfl rfl rfl).trans ?_
  rfl
theorem b45_28 (sc : zScr) (v1 : Int32) (v2 : Int32) (v3 : Int32) (v4 : Int32) (i : Nat → Nat → Int32) (b : Bool) (l : Nat → Nat → Int64) : zev sc (45, 28, [some (.ref 72), some (.int v1), some (.int v2), some (.int v3), some (.int v4)], [], (197, i, (zRF b), l)) = if (i 3 1) ≤ v4 then zev sc (45, 94, [some (.ref 72), some (.int v1), some (.int v2), some (.int v3), some (.int v4)], [], (197, i, (zRF b), l)) else zev sc (45, 40, [some (.ref 72), some (.int v1), some (.int v2), some (.int v3), some (.int v4)], [], (197, i, (zRF b), l)) := by
  refine (ze_iload 30 zm45 dX6_firstFence_28 rfl rfl).trans ?_
  refine (ze_aload_n 31 zm45 dX6_firstFence_30 rfl rfl).trans ?_
  refine (ze_getR 34 zm45 dX6_firstFence_31 f6_28 k72_6 t6_1 (rr72_1 b) rfl).trans ?_
  refine (ze_getI 37 zm45 dX6_firstFence_34 f6_34 k3_4 (Or.inl t4_1) rfl).trans ?_
  exact ze_icmp_ge 94 40 zm45 dX6_firstFence_37 (by decide) rfl
theorem b45_40 (sc : zScr) (v1 : Int32) (v2 : Int32) (v3 : Int32) (v4 : Int32) (i : Nat → Nat → Int32) (b : Bool) (l : Nat → Nat → Int64) : zev sc (45, 40, [some (.ref 72), some (.int v1), some (.int v2), some (.int v3), some (.int v4)], [], (197, i, (zRF b), l)) = (zev sc (35, 0, [some (.ref 3), some (.int v4), some (.int v2)], [], (197, i, (zRF b), l))).bind (fun x => zev sc (45, 50, [some (.ref 72), some (.int v1), some (.int v2), some (.int v3), some (.int v4)], [x.1], x.2)) := by
  refine (ze_aload_n 41 zm45 dX6_firstFence_40 rfl rfl).trans ?_
  refine (ze_getR 44 zm45 dX6_firstFence_41 f6_28 k72_6 t6_1 (rr72_1 b) rfl).trans ?_
  refine (ze_iload 46 zm45 dX6_firstFence_44 rfl rfl).trans ?_
  refine (ze_iload_n 47 zm45 dX6_firstFence_46 rfl rfl).trans ?_
  exact ze_virtI (as := [.int v4, .int v2]) (rest := []) 50 zm45 dX6_firstFence_47 r6_40 zm35 rfl rfl k3_4 rfl rfl rfl rfl
theorem b45_50 (sc : zScr) (v1 : Int32) (v2 : Int32) (v3 : Int32) (v4 : Int32) (s0 : Int32) (i : Nat → Nat → Int32) (b : Bool) (l : Nat → Nat → Int64) : zev sc (45, 50, [some (.ref 72), some (.int v1), some (.int v2), some (.int v3), some (.int v4)], [.int s0], (197, i, (zRF b), l)) = if s0 = 0 then zev sc (45, 88, [some (.ref 72), some (.int v1), some (.int v2), some (.int v3), some (.int v4)], [], (197, i, (zRF b), l)) else zev sc (45, 53, [some (.ref 72), some (.int v1), some (.int v2), some (.int v3), some (.int v4)], [], (197, i, (zRF b), l)) := by
  exact ze_if_eq 88 53 zm45 dX6_firstFence_50 (by decide) rfl
theorem b45_53 (sc : zScr) (v1 : Int32) (v2 : Int32) (v3 : Int32) (v4 : Int32) (i : Nat → Nat → Int32) (b : Bool) (l : Nat → Nat → Int64) (h1 : vp_in v2 8) : zev sc (45, 53, [some (.ref 72), some (.int v1), some (.int v2), some (.int v3), some (.int v4)], [], (197, i, (zRF b), l)) = (zev sc (36, 0, [some (.ref 3), some (.int v4), some (.int v2)], [], (197, i, (zRF b), l))).bind (fun x => zev sc (45, 73, [some (.ref 72), some (.int v1), some (.int v2), some (.int v3), some (.int v4)], [x.1, .ref 73, .int (i 73 v2.toNatClampNeg)], x.2)) := by
  refine (ze_aload_n 54 zm45 dX6_firstFence_53 rfl rfl).trans ?_
  refine (ze_getR 57 zm45 dX6_firstFence_54 f6_9 k72_6 t6_2 (rr72_2 b) rfl).trans ?_
  refine (ze_iload_n 58 zm45 dX6_firstFence_57 rfl rfl).trans ?_
  refine (ze_iaload (t := v2.toNatClampNeg) 59 zm45 dX6_firstFence_58 k73_100 n73 h1 rfl rfl).trans ?_
  refine (ze_aload_n 60 zm45 dX6_firstFence_59 rfl rfl).trans ?_
  refine (ze_getR 63 zm45 dX6_firstFence_60 f6_9 k72_6 t6_2 (rr72_2 b) rfl).trans ?_
  refine (ze_aload_n 64 zm45 dX6_firstFence_63 rfl rfl).trans ?_
  refine (ze_getR 67 zm45 dX6_firstFence_64 f6_28 k72_6 t6_1 (rr72_1 b) rfl).trans ?_
  refine (ze_iload 69 zm45 dX6_firstFence_67 rfl rfl).trans ?_
  refine (ze_iload_n 70 zm45 dX6_firstFence_69 rfl rfl).trans ?_
  exact ze_virtI (as := [.int v4, .int v2]) (rest := [.ref 73, .int (i 73 v2.toNatClampNeg)]) 73 zm45 dX6_firstFence_70 r6_44 zm36 rfl rfl k3_4 rfl rfl rfl rfl
theorem b45_73 (sc : zScr) (v1 : Int32) (v2 : Int32) (v3 : Int32) (v4 : Int32) (s0 : Int32) (s2 : Int32) (i : Nat → Nat → Int32) (b : Bool) (l : Nat → Nat → Int64) (h1 : vp_in s0 8) : zev sc (45, 73, [some (.ref 72), some (.int v1), some (.int v2), some (.int v3), some (.int v4)], [.int s0, .ref 73, .int s2], (197, i, (zRF b), l)) = (zev sc (46, 0, [some (.ref 72), some (.int v1), some (.int v4)], [], (197, i, (zRF b), l))).bind (fun x => zev sc (45, 81, [some (.ref 72), some (.int v1), some (.int v2), some (.int v3), some (.int v4)], [x.1, .int (i 73 s0.toNatClampNeg), .int s2], x.2)) := by
  refine (ze_iaload (t := s0.toNatClampNeg) 74 zm45 dX6_firstFence_73 k73_100 n73 h1 rfl rfl).trans ?_
  refine (ze_aload_n 75 zm45 dX6_firstFence_74 rfl rfl).trans ?_
  refine (ze_iload_n 76 zm45 dX6_firstFence_75 rfl rfl).trans ?_
  refine (ze_iload 78 zm45 dX6_firstFence_76 rfl rfl).trans ?_
  exact ze_virtI (as := [.int v1, .int v4]) (rest := [.int (i 73 s0.toNatClampNeg), .int s2]) 81 zm45 dX6_firstFence_78 r6_48 zm46 rfl rfl k72_6 rfl rfl rfl rfl
theorem b45_81 (sc : zScr) (v1 : Int32) (v2 : Int32) (v3 : Int32) (v4 : Int32) (s0 : Int32) (s1 : Int32) (s2 : Int32) (i : Nat → Nat → Int32) (b : Bool) (l : Nat → Nat → Int64) : zev sc (45, 81, [some (.ref 72), some (.int v1), some (.int v2), some (.int v3), some (.int v4)], [.int s0, .int s1, .int s2], (197, i, (zRF b), l)) = if s2 = (s1 + s0) then zev sc (45, 85, [some (.ref 72), some (.int v1), some (.int v2), some (.int v3), some (.int v4)], [], (197, i, (zRF b), l)) else zev sc (45, 88, [some (.ref 72), some (.int v1), some (.int v2), some (.int v3), some (.int v4)], [], (197, i, (zRF b), l)) := by
  refine (ze_iadd 82 zm45 dX6_firstFence_81 rfl).trans ?_
  exact ze_icmp_ne 88 85 zm45 dX6_firstFence_82 (by decide) rfl
theorem b45_85 (sc : zScr) (v1 : Int32) (v2 : Int32) (v3 : Int32) (v4 : Int32) (i : Nat → Nat → Int32) (b : Bool) (l : Nat → Nat → Int64) : zev sc (45, 85, [some (.ref 72), some (.int v1), some (.int v2), some (.int v3), some (.int v4)], [], (197, i, (zRF b), l)) = some (.int v4, (197, i, (zRF b), l)) := by
  refine (ze_iload 87 zm45 dX6_firstFence_85 rfl rfl).trans ?_
  exact ze_ireturn zm45 dX6_firstFence_87 rfl
theorem b45_88 (sc : zScr) (v1 : Int32) (v2 : Int32) (v3 : Int32) (v4 : Int32) (i : Nat → Nat → Int32) (b : Bool) (l : Nat → Nat → Int64) : zev sc (45, 88, [some (.ref 72), some (.int v1), some (.int v2), some (.int v3), some (.int v4)], [], (197, i, (zRF b), l)) = zev sc (45, 28, [some (.ref 72), some (.int v1), some (.int v2), some (.int v3), some (.int (v4 + 1))], [], (197, i, (zRF b), l)) := by
  refine (ze_iinc (v := (1 : Int32)) (A := 99) (ls' := [some (.ref 72), some (.int v1), some (.int v2), some (.int v3), some (.int (v4 + 1))]) 91 zm45 dX6_firstFence_88 rfl ci_1 za45 rfl rfl rfl rfl rfl).trans ?_
  exact ze_goto 28 zm45 dX6_firstFence_91 (by decide)
theorem b45_94 (sc : zScr) (v1 : Int32) (v2 : Int32) (v3 : Int32) (v4 : Int32) (i : Nat → Nat → Int32) (b : Bool) (l : Nat → Nat → Int64) : zev sc (45, 94, [some (.ref 72), some (.int v1), some (.int v2), some (.int v3), some (.int v4)], [], (197, i, (zRF b), l)) = some (.int (-9 : Int32), (197, i, (zRF b), l)) := by
  refine (ze_bipush 96 zm45 dX6_firstFence_94 cb_m9 rfl).trans ?_
  exact ze_ireturn zm45 dX6_firstFence_96 rfl
/-! HarpFences$Paths.costOf (II)I: method 46 -/
theorem b46_0 (sc : zScr) (v1 : Int32) (v2 : Int32) (i : Nat → Nat → Int32) (b : Bool) (l : Nat → Nat → Int64) : zev sc (46, 0, [some (.ref 72), some (.int v1), some (.int v2)], [], (197, i, (zRF b), l)) = (zev sc (15, 0, [some (.ref 23), some (.int v1), some (.int v2)], [], (197, i, (zRF b), l))).bind (fun x => zev sc (46, 9, [some (.ref 72), some (.int v1), some (.int v2)], [x.1], x.2)) := by
  refine (ze_aload_n 1 zm46 dX6_costOf_0 rfl rfl).trans ?_
  refine (ze_getR 4 zm46 dX6_costOf_1 f6_18 k72_6 t6_0 (rr72_0 b) rfl).trans ?_
  refine (ze_iload_n 5 zm46 dX6_costOf_4 rfl rfl).trans ?_
  refine (ze_iload_n 6 zm46 dX6_costOf_5 rfl rfl).trans ?_
  exact ze_virtI (as := [.int v1, .int v2]) (rest := []) 9 zm46 dX6_costOf_6 r6_51 zm15 rfl rfl k23_1 rfl rfl rfl rfl
theorem b46_9 (sc : zScr) (v1 : Int32) (v2 : Int32) (s0 : Int32) (i : Nat → Nat → Int32) (b : Bool) (l : Nat → Nat → Int64) : zev sc (46, 9, [some (.ref 72), some (.int v1), some (.int v2)], [.int s0], (197, i, (zRF b), l)) = if s0 ≤ 0 then zev sc (46, 17, [some (.ref 72), some (.int v1), some (.int v2)], [], (197, i, (zRF b), l)) else zev sc (46, 12, [some (.ref 72), some (.int v1), some (.int v2)], [], (197, i, (zRF b), l)) := by
  exact ze_if_le 17 12 zm46 dX6_costOf_9 (by decide) rfl
theorem b46_12 (sc : zScr) (v1 : Int32) (v2 : Int32) (i : Nat → Nat → Int32) (b : Bool) (l : Nat → Nat → Int64) : zev sc (46, 12, [some (.ref 72), some (.int v1), some (.int v2)], [], (197, i, (zRF b), l)) = zev sc (46, 18, [some (.ref 72), some (.int v1), some (.int v2)], [.int (101 : Int32)], (197, i, (zRF b), l)) := by
  refine (ze_bipush 14 zm46 dX6_costOf_12 cb_101 rfl).trans ?_
  exact ze_goto 18 zm46 dX6_costOf_14 (by decide)
theorem b46_17 (sc : zScr) (v1 : Int32) (v2 : Int32) (i : Nat → Nat → Int32) (b : Bool) (l : Nat → Nat → Int64) : zev sc (46, 17, [some (.ref 72), some (.int v1), some (.int v2)], [], (197, i, (zRF b), l)) = zev sc (46, 18, [some (.ref 72), some (.int v1), some (.int v2)], [.int (1 : Int32)], (197, i, (zRF b), l)) := by
  refine (ze_iconst 18 zm46 dX6_costOf_17 ci_1 rfl).trans ?_
  rfl
theorem b46_18 (sc : zScr) (v1 : Int32) (v2 : Int32) (s0 : Int32) (i : Nat → Nat → Int32) (b : Bool) (l : Nat → Nat → Int64) : zev sc (46, 18, [some (.ref 72), some (.int v1), some (.int v2)], [.int s0], (197, i, (zRF b), l)) = some (.int s0, (197, i, (zRF b), l)) := by
  exact ze_ireturn zm46 dX6_costOf_18 rfl
/-! HarpFences$Paths.measure (II)V: method 47 -/
theorem b47_0 (sc : zScr) (v1 : Int32) (v2 : Int32) (i : Nat → Nat → Int32) (b : Bool) (l : Nat → Nat → Int64) : zev sc (47, 0, [some (.ref 72), some (.int v1), some (.int v2), none, none, none, none, none], [], (197, i, (zRF b), l)) = zev sc (47, 2, [some (.ref 72), some (.int v1), some (.int v2), some (.int (0 : Int32)), none, none, none, none], [], (197, i, (zRF b), l)) := by
  refine (ze_iconst 1 zm47 dX6_measure_0 ci_0 rfl).trans ?_
  refine (ze_istore_n (A := 99) (ls' := [some (.ref 72), some (.int v1), some (.int v2), some (.int (0 : Int32)), none, none, none, none]) 2 zm47 dX6_measure_1 za47 rfl rfl rfl rfl rfl).trans ?_
  rfl
theorem b47_2 (sc : zScr) (v1 : Int32) (v2 : Int32) (v3 : Int32) (i : Nat → Nat → Int32) (b : Bool) (l : Nat → Nat → Int64) : zev sc (47, 2, [some (.ref 72), some (.int v1), some (.int v2), some (.int v3), none, none, none, none], [], (197, i, (zRF b), l)) = if (i 3 0) ≤ v3 then zev sc (47, 36, [some (.ref 72), some (.int v1), some (.int v2), some (.int v3), none, none, none, none], [], (197, i, (zRF b), l)) else zev sc (47, 13, [some (.ref 72), some (.int v1), some (.int v2), some (.int v3), none, none, none, none], [], (197, i, (zRF b), l)) := by
  refine (ze_iload_n 3 zm47 dX6_measure_2 rfl rfl).trans ?_
  refine (ze_aload_n 4 zm47 dX6_measure_3 rfl rfl).trans ?_
  refine (ze_getR 7 zm47 dX6_measure_4 f6_28 k72_6 t6_1 (rr72_1 b) rfl).trans ?_
  refine (ze_getI 10 zm47 dX6_measure_7 f6_54 k3_4 (Or.inl t4_0) rfl).trans ?_
  exact ze_icmp_ge 36 13 zm47 dX6_measure_10 (by decide) rfl
theorem b47_13 (sc : zScr) (v1 : Int32) (v2 : Int32) (v3 : Int32) (i : Nat → Nat → Int32) (b : Bool) (l : Nat → Nat → Int64) : zev sc (47, 13, [some (.ref 72), some (.int v1), some (.int v2), some (.int v3), none, none, none, none], [], (197, i, (zRF b), l)) = if v3 = v2 then zev sc (47, 23, [some (.ref 72), some (.int v1), some (.int v2), some (.int v3), none, none, none, none], [.int v3, .ref 73], (197, i, (zRF b), l)) else zev sc (47, 27, [some (.ref 72), some (.int v1), some (.int v2), some (.int v3), none, none, none, none], [.int v3, .ref 73], (197, i, (zRF b), l)) := by
  refine (ze_aload_n 14 zm47 dX6_measure_13 rfl rfl).trans ?_
  refine (ze_getR 17 zm47 dX6_measure_14 f6_9 k72_6 t6_2 (rr72_2 b) rfl).trans ?_
  refine (ze_iload_n 18 zm47 dX6_measure_17 rfl rfl).trans ?_
  refine (ze_iload_n 19 zm47 dX6_measure_18 rfl rfl).trans ?_
  refine (ze_iload_n 20 zm47 dX6_measure_19 rfl rfl).trans ?_
  exact ze_icmp_ne 27 23 zm47 dX6_measure_20 (by decide) rfl
theorem b47_23 (sc : zScr) (v1 : Int32) (v2 : Int32) (v3 : Int32) (s0 : Int32) (i : Nat → Nat → Int32) (b : Bool) (l : Nat → Nat → Int64) : zev sc (47, 23, [some (.ref 72), some (.int v1), some (.int v2), some (.int v3), none, none, none, none], [.int s0, .ref 73], (197, i, (zRF b), l)) = zev sc (47, 29, [some (.ref 72), some (.int v1), some (.int v2), some (.int v3), none, none, none, none], [.int (0 : Int32), .int s0, .ref 73], (197, i, (zRF b), l)) := by
  refine (ze_iconst 24 zm47 dX6_measure_23 ci_0 rfl).trans ?_
  exact ze_goto 29 zm47 dX6_measure_24 (by decide)
theorem b47_27 (sc : zScr) (v1 : Int32) (v2 : Int32) (v3 : Int32) (s0 : Int32) (i : Nat → Nat → Int32) (b : Bool) (l : Nat → Nat → Int64) : zev sc (47, 27, [some (.ref 72), some (.int v1), some (.int v2), some (.int v3), none, none, none, none], [.int s0, .ref 73], (197, i, (zRF b), l)) = zev sc (47, 29, [some (.ref 72), some (.int v1), some (.int v2), some (.int v3), none, none, none, none], [.int (1000000 : Int32), .int s0, .ref 73], (197, i, (zRF b), l)) := by
  refine (ze_ldc 29 zm47 dX6_measure_27 zi_6_33 rfl).trans ?_
  rfl
theorem b47_29 (sc : zScr) (v1 : Int32) (v2 : Int32) (v3 : Int32) (s0 : Int32) (s1 : Int32) (i : Nat → Nat → Int32) (b : Bool) (l : Nat → Nat → Int64) (h1 : vp_in s1 8) : zev sc (47, 29, [some (.ref 72), some (.int v1), some (.int v2), some (.int v3), none, none, none, none], [.int s0, .int s1, .ref 73], (197, i, (zRF b), l)) = zev sc (47, 2, [some (.ref 72), some (.int v1), some (.int v2), some (.int (v3 + 1)), none, none, none, none], [], (197, (zU i 73 s1.toNatClampNeg s0), (zRF b), l)) := by
  refine (ze_iastore (t := s1.toNatClampNeg) 30 zm47 dX6_measure_29 k73_100 n73 h1 rfl rfl).trans ?_
  refine (ze_iinc (v := (1 : Int32)) (A := 99) (ls' := [some (.ref 72), some (.int v1), some (.int v2), some (.int (v3 + 1)), none, none, none, none]) 33 zm47 dX6_measure_30 rfl ci_1 za47 rfl rfl rfl rfl rfl).trans ?_
  exact ze_goto 2 zm47 dX6_measure_33 (by decide)
theorem b47_36 (sc : zScr) (v1 : Int32) (v2 : Int32) (v3 : Int32) (i : Nat → Nat → Int32) (b : Bool) (l : Nat → Nat → Int64) : zev sc (47, 36, [some (.ref 72), some (.int v1), some (.int v2), some (.int v3), none, none, none, none], [], (197, i, (zRF b), l)) = zev sc (47, 38, [some (.ref 72), some (.int v1), some (.int v2), some (.int (1 : Int32)), none, none, none, none], [], (197, i, (zRF b), l)) := by
  refine (ze_iconst 37 zm47 dX6_measure_36 ci_1 rfl).trans ?_
  refine (ze_istore_n (A := 99) (ls' := [some (.ref 72), some (.int v1), some (.int v2), some (.int (1 : Int32)), none, none, none, none]) 38 zm47 dX6_measure_37 za47 rfl rfl rfl rfl rfl).trans ?_
  rfl
theorem b47_38 (sc : zScr) (v1 : Int32) (v2 : Int32) (v3 : Int32) (w4 : Option Value) (w5 : Option Value) (w6 : Option Value) (w7 : Option Value) (i : Nat → Nat → Int32) (b : Bool) (l : Nat → Nat → Int64) : zev sc (47, 38, [some (.ref 72), some (.int v1), some (.int v2), some (.int v3), w4, w5, w6, w7], [], (197, i, (zRF b), l)) = if (i 3 0) ≤ v3 then zev sc (47, 163, [some (.ref 72), some (.int v1), some (.int v2), some (.int v3), w4, w5, w6, w7], [], (197, i, (zRF b), l)) else zev sc (47, 49, [some (.ref 72), some (.int v1), some (.int v2), some (.int v3), w4, w5, w6, w7], [], (197, i, (zRF b), l)) := by
  refine (ze_iload_n 39 zm47 dX6_measure_38 rfl rfl).trans ?_
  refine (ze_aload_n 40 zm47 dX6_measure_39 rfl rfl).trans ?_
  refine (ze_getR 43 zm47 dX6_measure_40 f6_28 k72_6 t6_1 (rr72_1 b) rfl).trans ?_
  refine (ze_getI 46 zm47 dX6_measure_43 f6_54 k3_4 (Or.inl t4_0) rfl).trans ?_
  exact ze_icmp_ge 163 49 zm47 dX6_measure_46 (by decide) rfl
theorem b47_49 (sc : zScr) (v1 : Int32) (v2 : Int32) (v3 : Int32) (w4 : Option Value) (w5 : Option Value) (w6 : Option Value) (w7 : Option Value) (i : Nat → Nat → Int32) (b : Bool) (l : Nat → Nat → Int64) : zev sc (47, 49, [some (.ref 72), some (.int v1), some (.int v2), some (.int v3), w4, w5, w6, w7], [], (197, i, (zRF b), l)) = zev sc (47, 52, [some (.ref 72), some (.int v1), some (.int v2), some (.int v3), some (.int (0 : Int32)), w5, w6, w7], [], (197, i, (zRF b), l)) := by
  refine (ze_iconst 50 zm47 dX6_measure_49 ci_0 rfl).trans ?_
  refine (ze_istore (A := 99) (ls' := [some (.ref 72), some (.int v1), some (.int v2), some (.int v3), some (.int (0 : Int32)), w5, w6, w7]) 52 zm47 dX6_measure_50 za47 rfl rfl rfl rfl rfl).trans ?_
  rfl
theorem b47_52 (sc : zScr) (v1 : Int32) (v2 : Int32) (v3 : Int32) (v4 : Int32) (w5 : Option Value) (w6 : Option Value) (w7 : Option Value) (i : Nat → Nat → Int32) (b : Bool) (l : Nat → Nat → Int64) : zev sc (47, 52, [some (.ref 72), some (.int v1), some (.int v2), some (.int v3), some (.int v4), w5, w6, w7], [], (197, i, (zRF b), l)) = if (i 3 1) ≤ v4 then zev sc (47, 157, [some (.ref 72), some (.int v1), some (.int v2), some (.int v3), some (.int v4), w5, w6, w7], [], (197, i, (zRF b), l)) else zev sc (47, 64, [some (.ref 72), some (.int v1), some (.int v2), some (.int v3), some (.int v4), w5, w6, w7], [], (197, i, (zRF b), l)) := by
  refine (ze_iload 54 zm47 dX6_measure_52 rfl rfl).trans ?_
  refine (ze_aload_n 55 zm47 dX6_measure_54 rfl rfl).trans ?_
  refine (ze_getR 58 zm47 dX6_measure_55 f6_28 k72_6 t6_1 (rr72_1 b) rfl).trans ?_
  refine (ze_getI 61 zm47 dX6_measure_58 f6_34 k3_4 (Or.inl t4_1) rfl).trans ?_
  exact ze_icmp_ge 157 64 zm47 dX6_measure_61 (by decide) rfl
theorem b47_64 (sc : zScr) (v1 : Int32) (v2 : Int32) (v3 : Int32) (v4 : Int32) (w5 : Option Value) (w6 : Option Value) (w7 : Option Value) (i : Nat → Nat → Int32) (b : Bool) (l : Nat → Nat → Int64) (h1 : vp_in v4 8) : zev sc (47, 64, [some (.ref 72), some (.int v1), some (.int v2), some (.int v3), some (.int v4), w5, w6, w7], [], (197, i, (zRF b), l)) = (zev sc (46, 0, [some (.ref 72), some (.int v1), some (.int v4)], [], (197, i, (zRF b), l))).bind (fun x => zev sc (47, 95, [some (.ref 72), some (.int v1), some (.int v2), some (.int v3), some (.int v4), some (.int (i 4 v4.toNatClampNeg)), some (.int (i 5 v4.toNatClampNeg)), w7], [x.1], x.2)) := by
  refine (ze_aload_n 65 zm47 dX6_measure_64 rfl rfl).trans ?_
  refine (ze_getR 68 zm47 dX6_measure_65 f6_28 k72_6 t6_1 (rr72_1 b) rfl).trans ?_
  refine (ze_getR 71 zm47 dX6_measure_68 f6_57 k3_4 t4_2 (rr3_2 b) rfl).trans ?_
  refine (ze_iload 73 zm47 dX6_measure_71 rfl rfl).trans ?_
  refine (ze_iaload (t := v4.toNatClampNeg) 74 zm47 dX6_measure_73 k4_100 n4 h1 rfl rfl).trans ?_
  refine (ze_istore (A := 99) (ls' := [some (.ref 72), some (.int v1), some (.int v2), some (.int v3), some (.int v4), some (.int (i 4 v4.toNatClampNeg)), w6, w7]) 76 zm47 dX6_measure_74 za47 rfl rfl rfl rfl rfl).trans ?_
  refine (ze_aload_n 77 zm47 dX6_measure_76 rfl rfl).trans ?_
  refine (ze_getR 80 zm47 dX6_measure_77 f6_28 k72_6 t6_1 (rr72_1 b) rfl).trans ?_
  refine (ze_getR 83 zm47 dX6_measure_80 f6_60 k3_4 t4_3 (rr3_3 b) rfl).trans ?_
  refine (ze_iload 85 zm47 dX6_measure_83 rfl rfl).trans ?_
  refine (ze_iaload (t := v4.toNatClampNeg) 86 zm47 dX6_measure_85 k5_100 n5 h1 rfl rfl).trans ?_
  refine (ze_istore (A := 99) (ls' := [some (.ref 72), some (.int v1), some (.int v2), some (.int v3), some (.int v4), some (.int (i 4 v4.toNatClampNeg)), some (.int (i 5 v4.toNatClampNeg)), w7]) 88 zm47 dX6_measure_86 za47 rfl rfl rfl rfl rfl).trans ?_
  refine (ze_aload_n 89 zm47 dX6_measure_88 rfl rfl).trans ?_
  refine (ze_iload_n 90 zm47 dX6_measure_89 rfl rfl).trans ?_
  refine (ze_iload 92 zm47 dX6_measure_90 rfl rfl).trans ?_
  exact ze_virtI (as := [.int v1, .int v4]) (rest := []) 95 zm47 dX6_measure_92 r6_48 zm46 rfl rfl k72_6 rfl rfl rfl rfl
theorem b47_95 (sc : zScr) (v1 : Int32) (v2 : Int32) (v3 : Int32) (v4 : Int32) (v5 : Int32) (v6 : Int32) (w7 : Option Value) (s0 : Int32) (i : Nat → Nat → Int32) (b : Bool) (l : Nat → Nat → Int64) (h1 : vp_in v5 8) (h2 : vp_in v6 8) : zev sc (47, 95, [some (.ref 72), some (.int v1), some (.int v2), some (.int v3), some (.int v4), some (.int v5), some (.int v6), w7], [.int s0], (197, i, (zRF b), l)) = zev sc (47, 52, [some (.ref 72), some (.int v1), some (.int v2), some (.int v3), some (.int (v4 + 1)), some (.int v5), some (.int v6), some (.int s0)], [], (197, (zU (zU i 73 v5.toNatClampNeg (if ((i 73 v6.toNatClampNeg) + s0) < (i 73 v5.toNatClampNeg) then ((i 73 v6.toNatClampNeg) + s0) else (i 73 v5.toNatClampNeg))) 73 v6.toNatClampNeg (if (((zU i 73 v5.toNatClampNeg (if ((i 73 v6.toNatClampNeg) + s0) < (i 73 v5.toNatClampNeg) then ((i 73 v6.toNatClampNeg) + s0) else (i 73 v5.toNatClampNeg))) 73 v5.toNatClampNeg) + s0) < ((zU i 73 v5.toNatClampNeg (if ((i 73 v6.toNatClampNeg) + s0) < (i 73 v5.toNatClampNeg) then ((i 73 v6.toNatClampNeg) + s0) else (i 73 v5.toNatClampNeg))) 73 v6.toNatClampNeg) then (((zU i 73 v5.toNatClampNeg (if ((i 73 v6.toNatClampNeg) + s0) < (i 73 v5.toNatClampNeg) then ((i 73 v6.toNatClampNeg) + s0) else (i 73 v5.toNatClampNeg))) 73 v5.toNatClampNeg) + s0) else ((zU i 73 v5.toNatClampNeg (if ((i 73 v6.toNatClampNeg) + s0) < (i 73 v5.toNatClampNeg) then ((i 73 v6.toNatClampNeg) + s0) else (i 73 v5.toNatClampNeg))) 73 v6.toNatClampNeg))), (zRF b), l)) := by
  refine (ze_istore (A := 99) (ls' := [some (.ref 72), some (.int v1), some (.int v2), some (.int v3), some (.int v4), some (.int v5), some (.int v6), some (.int s0)]) 97 zm47 dX6_measure_95 za47 rfl rfl rfl rfl rfl).trans ?_
  refine (ze_aload_n 98 zm47 dX6_measure_97 rfl rfl).trans ?_
  refine (ze_getR 101 zm47 dX6_measure_98 f6_9 k72_6 t6_2 (rr72_2 b) rfl).trans ?_
  refine (ze_iload 103 zm47 dX6_measure_101 rfl rfl).trans ?_
  refine (ze_aload_n 104 zm47 dX6_measure_103 rfl rfl).trans ?_
  refine (ze_getR 107 zm47 dX6_measure_104 f6_9 k72_6 t6_2 (rr72_2 b) rfl).trans ?_
  refine (ze_iload 109 zm47 dX6_measure_107 rfl rfl).trans ?_
  refine (ze_iaload (t := v5.toNatClampNeg) 110 zm47 dX6_measure_109 k73_100 n73 h1 rfl rfl).trans ?_
  refine (ze_aload_n 111 zm47 dX6_measure_110 rfl rfl).trans ?_
  refine (ze_getR 114 zm47 dX6_measure_111 f6_9 k72_6 t6_2 (rr72_2 b) rfl).trans ?_
  refine (ze_iload 116 zm47 dX6_measure_114 rfl rfl).trans ?_
  refine (ze_iaload (t := v6.toNatClampNeg) 117 zm47 dX6_measure_116 k73_100 n73 h2 rfl rfl).trans ?_
  refine (ze_iload 119 zm47 dX6_measure_117 rfl rfl).trans ?_
  refine (ze_iadd 120 zm47 dX6_measure_119 rfl).trans ?_
  refine (ze_min 123 zm47 dX6_measure_120 r6_63 rfl rfl).trans ?_
  refine (ze_iastore (t := v5.toNatClampNeg) 124 zm47 dX6_measure_123 k73_100 n73 h1 rfl rfl).trans ?_
  refine (ze_aload_n 125 zm47 dX6_measure_124 rfl rfl).trans ?_
  refine (ze_getR 128 zm47 dX6_measure_125 f6_9 k72_6 t6_2 (rr72_2 b) rfl).trans ?_
  refine (ze_iload 130 zm47 dX6_measure_128 rfl rfl).trans ?_
  refine (ze_aload_n 131 zm47 dX6_measure_130 rfl rfl).trans ?_
  refine (ze_getR 134 zm47 dX6_measure_131 f6_9 k72_6 t6_2 (rr72_2 b) rfl).trans ?_
  refine (ze_iload 136 zm47 dX6_measure_134 rfl rfl).trans ?_
  refine (ze_iaload (t := v6.toNatClampNeg) 137 zm47 dX6_measure_136 k73_100 n73 h2 rfl rfl).trans ?_
  refine (ze_aload_n 138 zm47 dX6_measure_137 rfl rfl).trans ?_
  refine (ze_getR 141 zm47 dX6_measure_138 f6_9 k72_6 t6_2 (rr72_2 b) rfl).trans ?_
  refine (ze_iload 143 zm47 dX6_measure_141 rfl rfl).trans ?_
  refine (ze_iaload (t := v5.toNatClampNeg) 144 zm47 dX6_measure_143 k73_100 n73 h1 rfl rfl).trans ?_
  refine (ze_iload 146 zm47 dX6_measure_144 rfl rfl).trans ?_
  refine (ze_iadd 147 zm47 dX6_measure_146 rfl).trans ?_
  refine (ze_min 150 zm47 dX6_measure_147 r6_63 rfl rfl).trans ?_
  refine (ze_iastore (t := v6.toNatClampNeg) 151 zm47 dX6_measure_150 k73_100 n73 h2 rfl rfl).trans ?_
  refine (ze_iinc (v := (1 : Int32)) (A := 99) (ls' := [some (.ref 72), some (.int v1), some (.int v2), some (.int v3), some (.int (v4 + 1)), some (.int v5), some (.int v6), some (.int s0)]) 154 zm47 dX6_measure_151 rfl ci_1 za47 rfl rfl rfl rfl rfl).trans ?_
  exact ze_goto 52 zm47 dX6_measure_154 (by decide)
theorem b47_157 (sc : zScr) (v1 : Int32) (v2 : Int32) (v3 : Int32) (v4 : Int32) (w5 : Option Value) (w6 : Option Value) (w7 : Option Value) (i : Nat → Nat → Int32) (b : Bool) (l : Nat → Nat → Int64) : zev sc (47, 157, [some (.ref 72), some (.int v1), some (.int v2), some (.int v3), some (.int v4), w5, w6, w7], [], (197, i, (zRF b), l)) = zev sc (47, 38, [some (.ref 72), some (.int v1), some (.int v2), some (.int (v3 + 1)), some (.int v4), w5, w6, w7], [], (197, i, (zRF b), l)) := by
  refine (ze_iinc (v := (1 : Int32)) (A := 99) (ls' := [some (.ref 72), some (.int v1), some (.int v2), some (.int (v3 + 1)), some (.int v4), w5, w6, w7]) 160 zm47 dX6_measure_157 rfl ci_1 za47 rfl rfl rfl rfl rfl).trans ?_
  exact ze_goto 38 zm47 dX6_measure_160 (by decide)
theorem b47_163 (sc : zScr) (v1 : Int32) (v2 : Int32) (v3 : Int32) (w4 : Option Value) (w5 : Option Value) (w6 : Option Value) (w7 : Option Value) (i : Nat → Nat → Int32) (b : Bool) (l : Nat → Nat → Int64) : zev sc (47, 163, [some (.ref 72), some (.int v1), some (.int v2), some (.int v3), w4, w5, w6, w7], [], (197, i, (zRF b), l)) = some (.null, (197, i, (zRF b), l)) := by
  exact ze_return zm47 dX6_measure_163 rfl
/-! HarpFences$Paths.frostParts (II)I: method 48 -/
theorem b48_0 (sc : zScr) (v1 : Int32) (v2 : Int32) (i : Nat → Nat → Int32) (b : Bool) (l : Nat → Nat → Int64) : zev sc (48, 0, [some (.ref 72), some (.int v1), some (.int v2), none], [], (197, i, (zRF b), l)) = zev sc (48, 12, [some (.ref 72), some (.int v1), some (.int v2), some (.int (0 : Int32))], [], (197, (zU (zU i 72 5 (0 : Int32)) 72 4 (0 : Int32)), (zRF b), l)) := by
  refine (ze_aload_n 1 zm48 dX6_frostParts_0 rfl rfl).trans ?_
  refine (ze_iconst 2 zm48 dX6_frostParts_1 ci_0 rfl).trans ?_
  refine (ze_putI 5 zm48 dX6_frostParts_2 f6_68 k72_6 (Or.inl fn6_5) t6_5 rfl).trans ?_
  refine (ze_aload_n 6 zm48 dX6_frostParts_5 rfl rfl).trans ?_
  refine (ze_iconst 7 zm48 dX6_frostParts_6 ci_0 rfl).trans ?_
  refine (ze_putI 10 zm48 dX6_frostParts_7 f6_71 k72_6 (Or.inl fn6_4) t6_4 rfl).trans ?_
  refine (ze_iconst 11 zm48 dX6_frostParts_10 ci_0 rfl).trans ?_
  refine (ze_istore_n (A := 99) (ls' := [some (.ref 72), some (.int v1), some (.int v2), some (.int (0 : Int32))]) 12 zm48 dX6_frostParts_11 za48 rfl rfl rfl rfl rfl).trans ?_
  rfl
theorem b48_12 (sc : zScr) (v1 : Int32) (v2 : Int32) (v3 : Int32) (i : Nat → Nat → Int32) (b : Bool) (l : Nat → Nat → Int64) : zev sc (48, 12, [some (.ref 72), some (.int v1), some (.int v2), some (.int v3)], [], (197, i, (zRF b), l)) = if (i 3 1) ≤ v3 then zev sc (48, 92, [some (.ref 72), some (.int v1), some (.int v2), some (.int v3)], [], (197, i, (zRF b), l)) else zev sc (48, 23, [some (.ref 72), some (.int v1), some (.int v2), some (.int v3)], [], (197, i, (zRF b), l)) := by
  refine (ze_iload_n 13 zm48 dX6_frostParts_12 rfl rfl).trans ?_
  refine (ze_aload_n 14 zm48 dX6_frostParts_13 rfl rfl).trans ?_
  refine (ze_getR 17 zm48 dX6_frostParts_14 f6_28 k72_6 t6_1 (rr72_1 b) rfl).trans ?_
  refine (ze_getI 20 zm48 dX6_frostParts_17 f6_34 k3_4 (Or.inl t4_1) rfl).trans ?_
  exact ze_icmp_ge 92 23 zm48 dX6_frostParts_20 (by decide) rfl
theorem b48_23 (sc : zScr) (v1 : Int32) (v2 : Int32) (v3 : Int32) (i : Nat → Nat → Int32) (b : Bool) (l : Nat → Nat → Int64) : zev sc (48, 23, [some (.ref 72), some (.int v1), some (.int v2), some (.int v3)], [], (197, i, (zRF b), l)) = (zev sc (15, 0, [some (.ref 23), some (.int v1), some (.int v3)], [], (197, i, (zRF b), l))).bind (fun x => zev sc (48, 32, [some (.ref 72), some (.int v1), some (.int v2), some (.int v3)], [x.1], x.2)) := by
  refine (ze_aload_n 24 zm48 dX6_frostParts_23 rfl rfl).trans ?_
  refine (ze_getR 27 zm48 dX6_frostParts_24 f6_18 k72_6 t6_0 (rr72_0 b) rfl).trans ?_
  refine (ze_iload_n 28 zm48 dX6_frostParts_27 rfl rfl).trans ?_
  refine (ze_iload_n 29 zm48 dX6_frostParts_28 rfl rfl).trans ?_
  exact ze_virtI (as := [.int v1, .int v3]) (rest := []) 32 zm48 dX6_frostParts_29 r6_51 zm15 rfl rfl k23_1 rfl rfl rfl rfl
theorem b48_32 (sc : zScr) (v1 : Int32) (v2 : Int32) (v3 : Int32) (s0 : Int32) (i : Nat → Nat → Int32) (b : Bool) (l : Nat → Nat → Int64) : zev sc (48, 32, [some (.ref 72), some (.int v1), some (.int v2), some (.int v3)], [.int s0], (197, i, (zRF b), l)) = if s0 = 0 then zev sc (48, 35, [some (.ref 72), some (.int v1), some (.int v2), some (.int v3)], [], (197, i, (zRF b), l)) else zev sc (48, 50, [some (.ref 72), some (.int v1), some (.int v2), some (.int v3)], [], (197, i, (zRF b), l)) := by
  exact ze_if_ne 50 35 zm48 dX6_frostParts_32 (by decide) rfl
theorem b48_35 (sc : zScr) (v1 : Int32) (v2 : Int32) (v3 : Int32) (i : Nat → Nat → Int32) (b : Bool) (l : Nat → Nat → Int64) : zev sc (48, 35, [some (.ref 72), some (.int v1), some (.int v2), some (.int v3)], [], (197, i, (zRF b), l)) = zev sc (48, 86, [some (.ref 72), some (.int v1), some (.int v2), some (.int v3)], [], (197, (zU i 72 5 ((i 72 5) ||| ((1 : Int32) <<< (v3 &&& 31)))), (zRF b), l)) := by
  refine (ze_aload_n 36 zm48 dX6_frostParts_35 rfl rfl).trans ?_
  refine (ze_dup 37 zm48 dX6_frostParts_36 rfl rfl).trans ?_
  refine (ze_getI 40 zm48 dX6_frostParts_37 f6_68 k72_6 (Or.inl t6_5) rfl).trans ?_
  refine (ze_iconst 41 zm48 dX6_frostParts_40 ci_1 rfl).trans ?_
  refine (ze_iload_n 42 zm48 dX6_frostParts_41 rfl rfl).trans ?_
  refine (ze_ishl 43 zm48 dX6_frostParts_42 rfl).trans ?_
  refine (ze_ior 44 zm48 dX6_frostParts_43 rfl).trans ?_
  refine (ze_putI 47 zm48 dX6_frostParts_44 f6_68 k72_6 (Or.inl fn6_5) t6_5 rfl).trans ?_
  exact ze_goto 86 zm48 dX6_frostParts_47 (by decide)
theorem b48_50 (sc : zScr) (v1 : Int32) (v2 : Int32) (v3 : Int32) (i : Nat → Nat → Int32) (b : Bool) (l : Nat → Nat → Int64) (h1 : vp_in v3 8) : zev sc (48, 50, [some (.ref 72), some (.int v1), some (.int v2), some (.int v3)], [], (197, i, (zRF b), l)) = if (i 21 v3.toNatClampNeg) < v2 then zev sc (48, 86, [some (.ref 72), some (.int v1), some (.int v2), some (.int v3)], [], (197, i, (zRF b), l)) else zev sc (48, 66, [some (.ref 72), some (.int v1), some (.int v2), some (.int v3)], [], (197, i, (zRF b), l)) := by
  refine (ze_aload_n 51 zm48 dX6_frostParts_50 rfl rfl).trans ?_
  refine (ze_getR 54 zm48 dX6_frostParts_51 f6_18 k72_6 t6_0 (rr72_0 b) rfl).trans ?_
  refine (ze_getR 57 zm48 dX6_frostParts_54 f6_74 k23_1 t1_1 (rr23_1 b) rfl).trans ?_
  refine (ze_getR 60 zm48 dX6_frostParts_57 f6_78 k19_7 t7_1 (rr19_1 b) rfl).trans ?_
  refine (ze_iload_n 61 zm48 dX6_frostParts_60 rfl rfl).trans ?_
  refine (ze_iaload (t := v3.toNatClampNeg) 62 zm48 dX6_frostParts_61 k21_100 n21 h1 rfl rfl).trans ?_
  refine (ze_iload_n 63 zm48 dX6_frostParts_62 rfl rfl).trans ?_
  exact ze_icmp_lt 86 66 zm48 dX6_frostParts_63 (by decide) rfl
theorem b48_66 (sc : zScr) (v1 : Int32) (v2 : Int32) (v3 : Int32) (i : Nat → Nat → Int32) (b : Bool) (l : Nat → Nat → Int64) (h1 : vp_in (i 72 4) 8) : zev sc (48, 66, [some (.ref 72), some (.int v1), some (.int v2), some (.int v3)], [], (197, i, (zRF b), l)) = zev sc (48, 86, [some (.ref 72), some (.int v1), some (.int v2), some (.int v3)], [], (197, (zU (zU i 74 ((i 72 4)).toNatClampNeg v3) 72 4 (((zU i 74 ((i 72 4)).toNatClampNeg v3) 72 4) + (1 : Int32))), (zRF b), l)) := by
  refine (ze_aload_n 67 zm48 dX6_frostParts_66 rfl rfl).trans ?_
  refine (ze_getR 70 zm48 dX6_frostParts_67 f6_15 k72_6 t6_3 (rr72_3 b) rfl).trans ?_
  refine (ze_aload_n 71 zm48 dX6_frostParts_70 rfl rfl).trans ?_
  refine (ze_getI 74 zm48 dX6_frostParts_71 f6_71 k72_6 (Or.inl t6_4) rfl).trans ?_
  refine (ze_iload_n 75 zm48 dX6_frostParts_74 rfl rfl).trans ?_
  refine (ze_iastore (t := ((i 72 4)).toNatClampNeg) 76 zm48 dX6_frostParts_75 k74_100 n74 h1 rfl rfl).trans ?_
  refine (ze_aload_n 77 zm48 dX6_frostParts_76 rfl rfl).trans ?_
  refine (ze_dup 78 zm48 dX6_frostParts_77 rfl rfl).trans ?_
  refine (ze_getI 81 zm48 dX6_frostParts_78 f6_71 k72_6 (Or.inl t6_4) rfl).trans ?_
  refine (ze_iconst 82 zm48 dX6_frostParts_81 ci_1 rfl).trans ?_
  refine (ze_iadd 83 zm48 dX6_frostParts_82 rfl).trans ?_
  refine (ze_putI 86 zm48 dX6_frostParts_83 f6_71 k72_6 (Or.inl fn6_4) t6_4 rfl).trans ?_
  rfl
theorem b48_86 (sc : zScr) (v1 : Int32) (v2 : Int32) (v3 : Int32) (i : Nat → Nat → Int32) (b : Bool) (l : Nat → Nat → Int64) : zev sc (48, 86, [some (.ref 72), some (.int v1), some (.int v2), some (.int v3)], [], (197, i, (zRF b), l)) = zev sc (48, 12, [some (.ref 72), some (.int v1), some (.int v2), some (.int (v3 + 1))], [], (197, i, (zRF b), l)) := by
  refine (ze_iinc (v := (1 : Int32)) (A := 99) (ls' := [some (.ref 72), some (.int v1), some (.int v2), some (.int (v3 + 1))]) 89 zm48 dX6_frostParts_86 rfl ci_1 za48 rfl rfl rfl rfl rfl).trans ?_
  exact ze_goto 12 zm48 dX6_frostParts_89 (by decide)
theorem b48_92 (sc : zScr) (v1 : Int32) (v2 : Int32) (v3 : Int32) (i : Nat → Nat → Int32) (b : Bool) (l : Nat → Nat → Int64) : zev sc (48, 92, [some (.ref 72), some (.int v1), some (.int v2), some (.int v3)], [], (197, i, (zRF b), l)) = (zev sc (52, 0, [some (.int (10 : Int32)), some (.int (i 72 4)), none, none], [], (197, i, (zRF b), l))).bind (fun x => zev sc (48, 101, [some (.ref 72), some (.int v1), some (.int v2), some (.int v3)], [x.1], x.2)) := by
  refine (ze_bipush 94 zm48 dX6_frostParts_92 cb_10 rfl).trans ?_
  refine (ze_aload_n 95 zm48 dX6_frostParts_94 rfl rfl).trans ?_
  refine (ze_getI 98 zm48 dX6_frostParts_95 f6_71 k72_6 (Or.inl t6_4) rfl).trans ?_
  exact ze_statI (as := [.int (10 : Int32), .int (i 72 4)]) (rest := []) 101 zm48 dX6_frostParts_98 r6_83 zm52 rfl rfl rfl rfl rfl rfl
theorem b48_101 (sc : zScr) (v1 : Int32) (v2 : Int32) (v3 : Int32) (s0 : Int32) (i : Nat → Nat → Int32) (b : Bool) (l : Nat → Nat → Int64) : zev sc (48, 101, [some (.ref 72), some (.int v1), some (.int v2), some (.int v3)], [.int s0], (197, i, (zRF b), l)) = some (.int s0, (197, i, (zRF b), l)) := by
  exact ze_ireturn zm48 dX6_frostParts_101 rfl
/-! HarpFences$Paths.frostUnheard (III)I: method 49 -/
theorem b49_0 (sc : zScr) (v1 : Int32) (v2 : Int32) (v3 : Int32) (i : Nat → Nat → Int32) (b : Bool) (l : Nat → Nat → Int64) : zev sc (49, 0, [some (.ref 72), some (.int v1), some (.int v2), some (.int v3), none, none, none, none], [], (197, i, (zRF b), l)) = zev sc (49, 6, [some (.ref 72), some (.int v1), some (.int v2), some (.int v3), some (.int (0 : Int32)), some (.int (0 : Int32)), none, none], [], (197, i, (zRF b), l)) := by
  refine (ze_iconst 1 zm49 dX6_frostUnheard_0 ci_0 rfl).trans ?_
  refine (ze_istore (A := 99) (ls' := [some (.ref 72), some (.int v1), some (.int v2), some (.int v3), some (.int (0 : Int32)), none, none, none]) 3 zm49 dX6_frostUnheard_1 za49 rfl rfl rfl rfl rfl).trans ?_
  refine (ze_iconst 4 zm49 dX6_frostUnheard_3 ci_0 rfl).trans ?_
  refine (ze_istore (A := 99) (ls' := [some (.ref 72), some (.int v1), some (.int v2), some (.int v3), some (.int (0 : Int32)), some (.int (0 : Int32)), none, none]) 6 zm49 dX6_frostUnheard_4 za49 rfl rfl rfl rfl rfl).trans ?_
  rfl
theorem b49_6 (sc : zScr) (v1 : Int32) (v2 : Int32) (v3 : Int32) (v4 : Int32) (v5 : Int32) (w6 : Option Value) (w7 : Option Value) (i : Nat → Nat → Int32) (b : Bool) (l : Nat → Nat → Int64) : zev sc (49, 6, [some (.ref 72), some (.int v1), some (.int v2), some (.int v3), some (.int v4), some (.int v5), w6, w7], [], (197, i, (zRF b), l)) = if ((1 : Int32) <<< ((i 72 4) &&& 31)) ≤ v5 then zev sc (49, 85, [some (.ref 72), some (.int v1), some (.int v2), some (.int v3), some (.int v4), some (.int v5), w6, w7], [], (197, i, (zRF b), l)) else zev sc (49, 17, [some (.ref 72), some (.int v1), some (.int v2), some (.int v3), some (.int v4), some (.int v5), w6, w7], [], (197, i, (zRF b), l)) := by
  refine (ze_iload 8 zm49 dX6_frostUnheard_6 rfl rfl).trans ?_
  refine (ze_iconst 9 zm49 dX6_frostUnheard_8 ci_1 rfl).trans ?_
  refine (ze_aload_n 10 zm49 dX6_frostUnheard_9 rfl rfl).trans ?_
  refine (ze_getI 13 zm49 dX6_frostUnheard_10 f6_71 k72_6 (Or.inl t6_4) rfl).trans ?_
  refine (ze_ishl 14 zm49 dX6_frostUnheard_13 rfl).trans ?_
  exact ze_icmp_ge 85 17 zm49 dX6_frostUnheard_14 (by decide) rfl
theorem b49_17 (sc : zScr) (v1 : Int32) (v2 : Int32) (v3 : Int32) (v4 : Int32) (v5 : Int32) (w6 : Option Value) (w7 : Option Value) (i : Nat → Nat → Int32) (b : Bool) (l : Nat → Nat → Int64) : zev sc (49, 17, [some (.ref 72), some (.int v1), some (.int v2), some (.int v3), some (.int v4), some (.int v5), w6, w7], [], (197, i, (zRF b), l)) = (zev sc (184, 0, [some (.int v5)], [], (197, i, (zRF b), l))).bind (fun x => zev sc (49, 22, [some (.ref 72), some (.int v1), some (.int v2), some (.int v3), some (.int v4), some (.int v5), w6, w7], [x.1], x.2)) := by
  refine (ze_iload 19 zm49 dX6_frostUnheard_17 rfl rfl).trans ?_
  exact ze_statI (as := [.int v5]) (rest := []) 22 zm49 dX6_frostUnheard_19 r6_86 zm184 rfl rfl rfl rfl rfl rfl
theorem b49_22 (sc : zScr) (v1 : Int32) (v2 : Int32) (v3 : Int32) (v4 : Int32) (v5 : Int32) (w6 : Option Value) (w7 : Option Value) (s0 : Int32) (i : Nat → Nat → Int32) (b : Bool) (l : Nat → Nat → Int64) : zev sc (49, 22, [some (.ref 72), some (.int v1), some (.int v2), some (.int v3), some (.int v4), some (.int v5), w6, w7], [.int s0], (197, i, (zRF b), l)) = (zev sc (52, 0, [some (.int v3), some (.int s0), none, none], [], (197, i, (zRF b), l))).bind (fun x => zev sc (49, 30, [some (.ref 72), some (.int v1), some (.int v2), some (.int v3), some (.int v4), some (.int v5), some (.int s0), w7], [x.1], x.2)) := by
  refine (ze_istore (A := 99) (ls' := [some (.ref 72), some (.int v1), some (.int v2), some (.int v3), some (.int v4), some (.int v5), some (.int s0), w7]) 24 zm49 dX6_frostUnheard_22 za49 rfl rfl rfl rfl rfl).trans ?_
  refine (ze_iload_n 25 zm49 dX6_frostUnheard_24 rfl rfl).trans ?_
  refine (ze_iload 27 zm49 dX6_frostUnheard_25 rfl rfl).trans ?_
  exact ze_statI (as := [.int v3, .int s0]) (rest := []) 30 zm49 dX6_frostUnheard_27 r6_83 zm52 rfl rfl rfl rfl rfl rfl
theorem b49_30 (sc : zScr) (v1 : Int32) (v2 : Int32) (v3 : Int32) (v4 : Int32) (v5 : Int32) (v6 : Int32) (w7 : Option Value) (s0 : Int32) (i : Nat → Nat → Int32) (b : Bool) (l : Nat → Nat → Int64) : zev sc (49, 30, [some (.ref 72), some (.int v1), some (.int v2), some (.int v3), some (.int v4), some (.int v5), some (.int v6), w7], [.int s0], (197, i, (zRF b), l)) = (zev sc (52, 0, [some (.int ((10 : Int32) - v3)), some (.int ((i 72 4) - v6)), none, none], [], (197, i, (zRF b), l))).bind (fun x => zev sc (49, 44, [some (.ref 72), some (.int v1), some (.int v2), some (.int v3), some (.int v4), some (.int v5), some (.int v6), w7], [x.1, .int s0], x.2)) := by
  refine (ze_bipush 32 zm49 dX6_frostUnheard_30 cb_10 rfl).trans ?_
  refine (ze_iload_n 33 zm49 dX6_frostUnheard_32 rfl rfl).trans ?_
  refine (ze_isub 34 zm49 dX6_frostUnheard_33 rfl).trans ?_
  refine (ze_aload_n 35 zm49 dX6_frostUnheard_34 rfl rfl).trans ?_
  refine (ze_getI 38 zm49 dX6_frostUnheard_35 f6_71 k72_6 (Or.inl t6_4) rfl).trans ?_
  refine (ze_iload 40 zm49 dX6_frostUnheard_38 rfl rfl).trans ?_
  refine (ze_isub 41 zm49 dX6_frostUnheard_40 rfl).trans ?_
  exact ze_statI (as := [.int ((10 : Int32) - v3), .int ((i 72 4) - v6)]) (rest := [.int s0]) 44 zm49 dX6_frostUnheard_41 r6_83 zm52 rfl rfl rfl rfl rfl rfl
theorem b49_44 (sc : zScr) (v1 : Int32) (v2 : Int32) (v3 : Int32) (v4 : Int32) (v5 : Int32) (v6 : Int32) (w7 : Option Value) (s0 : Int32) (s1 : Int32) (i : Nat → Nat → Int32) (b : Bool) (l : Nat → Nat → Int64) : zev sc (49, 44, [some (.ref 72), some (.int v1), some (.int v2), some (.int v3), some (.int v4), some (.int v5), some (.int v6), w7], [.int s0, .int s1], (197, i, (zRF b), l)) = if (s1 * s0) ≤ 0 then zev sc (49, 79, [some (.ref 72), some (.int v1), some (.int v2), some (.int v3), some (.int v4), some (.int v5), some (.int v6), some (.int (s1 * s0))], [], (197, i, (zRF b), l)) else zev sc (49, 52, [some (.ref 72), some (.int v1), some (.int v2), some (.int v3), some (.int v4), some (.int v5), some (.int v6), some (.int (s1 * s0))], [], (197, i, (zRF b), l)) := by
  refine (ze_imul 45 zm49 dX6_frostUnheard_44 rfl).trans ?_
  refine (ze_istore (A := 99) (ls' := [some (.ref 72), some (.int v1), some (.int v2), some (.int v3), some (.int v4), some (.int v5), some (.int v6), some (.int (s1 * s0))]) 47 zm49 dX6_frostUnheard_45 za49 rfl rfl rfl rfl rfl).trans ?_
  refine (ze_iload 49 zm49 dX6_frostUnheard_47 rfl rfl).trans ?_
  exact ze_if_le 79 52 zm49 dX6_frostUnheard_49 (by decide) rfl
theorem b49_52 (sc : zScr) (v1 : Int32) (v2 : Int32) (v3 : Int32) (v4 : Int32) (v5 : Int32) (v6 : Int32) (v7 : Int32) (i : Nat → Nat → Int32) (b : Bool) (l : Nat → Nat → Int64) : zev sc (49, 52, [some (.ref 72), some (.int v1), some (.int v2), some (.int v3), some (.int v4), some (.int v5), some (.int v6), some (.int v7)], [], (197, i, (zRF b), l)) = (zev sc (50, 0, [some (.ref 72), some (.int v5), none, none], [], (197, i, (zRF b), l))).bind (fun x => zev sc (49, 65, [some (.ref 72), some (.int v1), some (.int v2), some (.int v3), some (.int v4), some (.int v5), some (.int v6), some (.int v7)], [x.1, .int (i 72 5), .int v2, .int v1, .ref 72], x.2)) := by
  refine (ze_aload_n 53 zm49 dX6_frostUnheard_52 rfl rfl).trans ?_
  refine (ze_iload_n 54 zm49 dX6_frostUnheard_53 rfl rfl).trans ?_
  refine (ze_iload_n 55 zm49 dX6_frostUnheard_54 rfl rfl).trans ?_
  refine (ze_aload_n 56 zm49 dX6_frostUnheard_55 rfl rfl).trans ?_
  refine (ze_getI 59 zm49 dX6_frostUnheard_56 f6_68 k72_6 (Or.inl t6_5) rfl).trans ?_
  refine (ze_aload_n 60 zm49 dX6_frostUnheard_59 rfl rfl).trans ?_
  refine (ze_iload 62 zm49 dX6_frostUnheard_60 rfl rfl).trans ?_
  exact ze_virtI (as := [.int v5]) (rest := [.int (i 72 5), .int v2, .int v1, .ref 72]) 65 zm49 dX6_frostUnheard_62 r6_92 zm50 rfl rfl k72_6 rfl rfl rfl rfl
theorem b49_65 (sc : zScr) (v1 : Int32) (v2 : Int32) (v3 : Int32) (v4 : Int32) (v5 : Int32) (v6 : Int32) (v7 : Int32) (s0 : Int32) (s1 : Int32) (s2 : Int32) (s3 : Int32) (i : Nat → Nat → Int32) (b : Bool) (l : Nat → Nat → Int64) : zev sc (49, 65, [some (.ref 72), some (.int v1), some (.int v2), some (.int v3), some (.int v4), some (.int v5), some (.int v6), some (.int v7)], [.int s0, .int s1, .int s2, .int s3, .ref 72], (197, i, (zRF b), l)) = (zev sc (51, 0, [some (.ref 72), some (.int s3), some (.int s2), some (.int (s1 ||| s0)), none, none, none], [], (197, i, (zRF b), l))).bind (fun x => zev sc (49, 69, [some (.ref 72), some (.int v1), some (.int v2), some (.int v3), some (.int v4), some (.int v5), some (.int v6), some (.int v7)], [x.1], x.2)) := by
  refine (ze_ior 66 zm49 dX6_frostUnheard_65 rfl).trans ?_
  exact ze_virtI (as := [.int s3, .int s2, .int (s1 ||| s0)]) (rest := []) 69 zm49 dX6_frostUnheard_66 r6_95 zm51 rfl rfl k72_6 rfl rfl rfl rfl
theorem b49_69 (sc : zScr) (v1 : Int32) (v2 : Int32) (v3 : Int32) (v4 : Int32) (v5 : Int32) (v6 : Int32) (v7 : Int32) (s0 : Int32) (i : Nat → Nat → Int32) (b : Bool) (l : Nat → Nat → Int64) : zev sc (49, 69, [some (.ref 72), some (.int v1), some (.int v2), some (.int v3), some (.int v4), some (.int v5), some (.int v6), some (.int v7)], [.int s0], (197, i, (zRF b), l)) = if s0 = 0 then zev sc (49, 79, [some (.ref 72), some (.int v1), some (.int v2), some (.int v3), some (.int v4), some (.int v5), some (.int v6), some (.int v7)], [], (197, i, (zRF b), l)) else zev sc (49, 72, [some (.ref 72), some (.int v1), some (.int v2), some (.int v3), some (.int v4), some (.int v5), some (.int v6), some (.int v7)], [], (197, i, (zRF b), l)) := by
  exact ze_if_eq 79 72 zm49 dX6_frostUnheard_69 (by decide) rfl
theorem b49_72 (sc : zScr) (v1 : Int32) (v2 : Int32) (v3 : Int32) (v4 : Int32) (v5 : Int32) (v6 : Int32) (v7 : Int32) (i : Nat → Nat → Int32) (b : Bool) (l : Nat → Nat → Int64) : zev sc (49, 72, [some (.ref 72), some (.int v1), some (.int v2), some (.int v3), some (.int v4), some (.int v5), some (.int v6), some (.int v7)], [], (197, i, (zRF b), l)) = zev sc (49, 79, [some (.ref 72), some (.int v1), some (.int v2), some (.int v3), some (.int (v4 + v7)), some (.int v5), some (.int v6), some (.int v7)], [], (197, i, (zRF b), l)) := by
  refine (ze_iload 74 zm49 dX6_frostUnheard_72 rfl rfl).trans ?_
  refine (ze_iload 76 zm49 dX6_frostUnheard_74 rfl rfl).trans ?_
  refine (ze_iadd 77 zm49 dX6_frostUnheard_76 rfl).trans ?_
  refine (ze_istore (A := 99) (ls' := [some (.ref 72), some (.int v1), some (.int v2), some (.int v3), some (.int (v4 + v7)), some (.int v5), some (.int v6), some (.int v7)]) 79 zm49 dX6_frostUnheard_77 za49 rfl rfl rfl rfl rfl).trans ?_
  rfl
theorem b49_79 (sc : zScr) (v1 : Int32) (v2 : Int32) (v3 : Int32) (v4 : Int32) (v5 : Int32) (v6 : Int32) (v7 : Int32) (i : Nat → Nat → Int32) (b : Bool) (l : Nat → Nat → Int64) : zev sc (49, 79, [some (.ref 72), some (.int v1), some (.int v2), some (.int v3), some (.int v4), some (.int v5), some (.int v6), some (.int v7)], [], (197, i, (zRF b), l)) = zev sc (49, 6, [some (.ref 72), some (.int v1), some (.int v2), some (.int v3), some (.int v4), some (.int (v5 + 1)), some (.int v6), some (.int v7)], [], (197, i, (zRF b), l)) := by
  refine (ze_iinc (v := (1 : Int32)) (A := 99) (ls' := [some (.ref 72), some (.int v1), some (.int v2), some (.int v3), some (.int v4), some (.int (v5 + 1)), some (.int v6), some (.int v7)]) 82 zm49 dX6_frostUnheard_79 rfl ci_1 za49 rfl rfl rfl rfl rfl).trans ?_
  exact ze_goto 6 zm49 dX6_frostUnheard_82 (by decide)
theorem b49_85 (sc : zScr) (v1 : Int32) (v2 : Int32) (v3 : Int32) (v4 : Int32) (v5 : Int32) (w6 : Option Value) (w7 : Option Value) (i : Nat → Nat → Int32) (b : Bool) (l : Nat → Nat → Int64) : zev sc (49, 85, [some (.ref 72), some (.int v1), some (.int v2), some (.int v3), some (.int v4), some (.int v5), w6, w7], [], (197, i, (zRF b), l)) = some (.int v4, (197, i, (zRF b), l)) := by
  refine (ze_iload 87 zm49 dX6_frostUnheard_85 rfl rfl).trans ?_
  exact ze_ireturn zm49 dX6_frostUnheard_87 rfl
/-! HarpFences$Paths.snappedFences (I)I: method 50 -/
theorem b50_0 (sc : zScr) (v1 : Int32) (i : Nat → Nat → Int32) (b : Bool) (l : Nat → Nat → Int64) : zev sc (50, 0, [some (.ref 72), some (.int v1), none, none], [], (197, i, (zRF b), l)) = zev sc (50, 4, [some (.ref 72), some (.int v1), some (.int (0 : Int32)), some (.int (0 : Int32))], [], (197, i, (zRF b), l)) := by
  refine (ze_iconst 1 zm50 dX6_snappedFences_0 ci_0 rfl).trans ?_
  refine (ze_istore_n (A := 99) (ls' := [some (.ref 72), some (.int v1), some (.int (0 : Int32)), none]) 2 zm50 dX6_snappedFences_1 za50 rfl rfl rfl rfl rfl).trans ?_
  refine (ze_iconst 3 zm50 dX6_snappedFences_2 ci_0 rfl).trans ?_
  refine (ze_istore_n (A := 99) (ls' := [some (.ref 72), some (.int v1), some (.int (0 : Int32)), some (.int (0 : Int32))]) 4 zm50 dX6_snappedFences_3 za50 rfl rfl rfl rfl rfl).trans ?_
  rfl
theorem b50_4 (sc : zScr) (v1 : Int32) (v2 : Int32) (v3 : Int32) (i : Nat → Nat → Int32) (b : Bool) (l : Nat → Nat → Int64) : zev sc (50, 4, [some (.ref 72), some (.int v1), some (.int v2), some (.int v3)], [], (197, i, (zRF b), l)) = if (i 72 4) ≤ v3 then zev sc (50, 33, [some (.ref 72), some (.int v1), some (.int v2), some (.int v3)], [], (197, i, (zRF b), l)) else zev sc (50, 12, [some (.ref 72), some (.int v1), some (.int v2), some (.int v3)], [], (197, i, (zRF b), l)) := by
  refine (ze_iload_n 5 zm50 dX6_snappedFences_4 rfl rfl).trans ?_
  refine (ze_aload_n 6 zm50 dX6_snappedFences_5 rfl rfl).trans ?_
  refine (ze_getI 9 zm50 dX6_snappedFences_6 f6_71 k72_6 (Or.inl t6_4) rfl).trans ?_
  exact ze_icmp_ge 33 12 zm50 dX6_snappedFences_9 (by decide) rfl
theorem b50_12 (sc : zScr) (v1 : Int32) (v2 : Int32) (v3 : Int32) (i : Nat → Nat → Int32) (b : Bool) (l : Nat → Nat → Int64) (h1 : vp_in v3 8) : zev sc (50, 12, [some (.ref 72), some (.int v1), some (.int v2), some (.int v3)], [], (197, i, (zRF b), l)) = zev sc (50, 4, [some (.ref 72), some (.int v1), some (.int (v2 ||| (((v1 >>> (v3 &&& 31)) &&& (1 : Int32)) <<< ((i 74 v3.toNatClampNeg) &&& 31)))), some (.int (v3 + 1))], [], (197, i, (zRF b), l)) := by
  refine (ze_iload_n 13 zm50 dX6_snappedFences_12 rfl rfl).trans ?_
  refine (ze_iload_n 14 zm50 dX6_snappedFences_13 rfl rfl).trans ?_
  refine (ze_iload_n 15 zm50 dX6_snappedFences_14 rfl rfl).trans ?_
  refine (ze_ishr 16 zm50 dX6_snappedFences_15 rfl).trans ?_
  refine (ze_iconst 17 zm50 dX6_snappedFences_16 ci_1 rfl).trans ?_
  refine (ze_iand 18 zm50 dX6_snappedFences_17 rfl).trans ?_
  refine (ze_aload_n 19 zm50 dX6_snappedFences_18 rfl rfl).trans ?_
  refine (ze_getR 22 zm50 dX6_snappedFences_19 f6_15 k72_6 t6_3 (rr72_3 b) rfl).trans ?_
  refine (ze_iload_n 23 zm50 dX6_snappedFences_22 rfl rfl).trans ?_
  refine (ze_iaload (t := v3.toNatClampNeg) 24 zm50 dX6_snappedFences_23 k74_100 n74 h1 rfl rfl).trans ?_
  refine (ze_ishl 25 zm50 dX6_snappedFences_24 rfl).trans ?_
  refine (ze_ior 26 zm50 dX6_snappedFences_25 rfl).trans ?_
  refine (ze_istore_n (A := 99) (ls' := [some (.ref 72), some (.int v1), some (.int (v2 ||| (((v1 >>> (v3 &&& 31)) &&& (1 : Int32)) <<< ((i 74 v3.toNatClampNeg) &&& 31)))), some (.int v3)]) 27 zm50 dX6_snappedFences_26 za50 rfl rfl rfl rfl rfl).trans ?_
  refine (ze_iinc (v := (1 : Int32)) (A := 99) (ls' := [some (.ref 72), some (.int v1), some (.int (v2 ||| (((v1 >>> (v3 &&& 31)) &&& (1 : Int32)) <<< ((i 74 v3.toNatClampNeg) &&& 31)))), some (.int (v3 + 1))]) 30 zm50 dX6_snappedFences_27 rfl ci_1 za50 rfl rfl rfl rfl rfl).trans ?_
  exact ze_goto 4 zm50 dX6_snappedFences_30 (by decide)
theorem b50_33 (sc : zScr) (v1 : Int32) (v2 : Int32) (v3 : Int32) (i : Nat → Nat → Int32) (b : Bool) (l : Nat → Nat → Int64) : zev sc (50, 33, [some (.ref 72), some (.int v1), some (.int v2), some (.int v3)], [], (197, i, (zRF b), l)) = some (.int v2, (197, i, (zRF b), l)) := by
  refine (ze_iload_n 34 zm50 dX6_snappedFences_33 rfl rfl).trans ?_
  exact ze_ireturn zm50 dX6_snappedFences_34 rfl
/-! HarpFences$Paths.reaches (III)Z: method 51 -/
theorem b51_0 (sc : zScr) (v1 : Int32) (v2 : Int32) (v3 : Int32) (i : Nat → Nat → Int32) (b : Bool) (l : Nat → Nat → Int64) : zev sc (51, 0, [some (.ref 72), some (.int v1), some (.int v2), some (.int v3), none, none, none], [], (197, i, (zRF b), l)) = zev sc (51, 8, [some (.ref 72), some (.int v1), some (.int v2), some (.int v3), some (.int ((1 : Int32) <<< (v1 &&& 31))), some (.int (1 : Int32)), none], [], (197, i, (zRF b), l)) := by
  refine (ze_iconst 1 zm51 dX6_reaches_0 ci_1 rfl).trans ?_
  refine (ze_iload_n 2 zm51 dX6_reaches_1 rfl rfl).trans ?_
  refine (ze_ishl 3 zm51 dX6_reaches_2 rfl).trans ?_
  refine (ze_istore (A := 99) (ls' := [some (.ref 72), some (.int v1), some (.int v2), some (.int v3), some (.int ((1 : Int32) <<< (v1 &&& 31))), none, none]) 5 zm51 dX6_reaches_3 za51 rfl rfl rfl rfl rfl).trans ?_
  refine (ze_iconst 6 zm51 dX6_reaches_5 ci_1 rfl).trans ?_
  refine (ze_istore (A := 99) (ls' := [some (.ref 72), some (.int v1), some (.int v2), some (.int v3), some (.int ((1 : Int32) <<< (v1 &&& 31))), some (.int (1 : Int32)), none]) 8 zm51 dX6_reaches_6 za51 rfl rfl rfl rfl rfl).trans ?_
  rfl
theorem b51_8 (sc : zScr) (v1 : Int32) (v2 : Int32) (v3 : Int32) (v4 : Int32) (v5 : Int32) (w6 : Option Value) (i : Nat → Nat → Int32) (b : Bool) (l : Nat → Nat → Int64) : zev sc (51, 8, [some (.ref 72), some (.int v1), some (.int v2), some (.int v3), some (.int v4), some (.int v5), w6], [], (197, i, (zRF b), l)) = if (i 3 0) ≤ v5 then zev sc (51, 86, [some (.ref 72), some (.int v1), some (.int v2), some (.int v3), some (.int v4), some (.int v5), w6], [], (197, i, (zRF b), l)) else zev sc (51, 20, [some (.ref 72), some (.int v1), some (.int v2), some (.int v3), some (.int v4), some (.int v5), w6], [], (197, i, (zRF b), l)) := by
  refine (ze_iload 10 zm51 dX6_reaches_8 rfl rfl).trans ?_
  refine (ze_aload_n 11 zm51 dX6_reaches_10 rfl rfl).trans ?_
  refine (ze_getR 14 zm51 dX6_reaches_11 f6_28 k72_6 t6_1 (rr72_1 b) rfl).trans ?_
  refine (ze_getI 17 zm51 dX6_reaches_14 f6_54 k3_4 (Or.inl t4_0) rfl).trans ?_
  exact ze_icmp_ge 86 20 zm51 dX6_reaches_17 (by decide) rfl
theorem b51_20 (sc : zScr) (v1 : Int32) (v2 : Int32) (v3 : Int32) (v4 : Int32) (v5 : Int32) (w6 : Option Value) (i : Nat → Nat → Int32) (b : Bool) (l : Nat → Nat → Int64) : zev sc (51, 20, [some (.ref 72), some (.int v1), some (.int v2), some (.int v3), some (.int v4), some (.int v5), w6], [], (197, i, (zRF b), l)) = zev sc (51, 23, [some (.ref 72), some (.int v1), some (.int v2), some (.int v3), some (.int v4), some (.int v5), some (.int (0 : Int32))], [], (197, i, (zRF b), l)) := by
  refine (ze_iconst 21 zm51 dX6_reaches_20 ci_0 rfl).trans ?_
  refine (ze_istore (A := 99) (ls' := [some (.ref 72), some (.int v1), some (.int v2), some (.int v3), some (.int v4), some (.int v5), some (.int (0 : Int32))]) 23 zm51 dX6_reaches_21 za51 rfl rfl rfl rfl rfl).trans ?_
  rfl
theorem b51_23 (sc : zScr) (v1 : Int32) (v2 : Int32) (v3 : Int32) (v4 : Int32) (v5 : Int32) (v6 : Int32) (i : Nat → Nat → Int32) (b : Bool) (l : Nat → Nat → Int64) : zev sc (51, 23, [some (.ref 72), some (.int v1), some (.int v2), some (.int v3), some (.int v4), some (.int v5), some (.int v6)], [], (197, i, (zRF b), l)) = if (i 3 1) ≤ v6 then zev sc (51, 80, [some (.ref 72), some (.int v1), some (.int v2), some (.int v3), some (.int v4), some (.int v5), some (.int v6)], [], (197, i, (zRF b), l)) else zev sc (51, 35, [some (.ref 72), some (.int v1), some (.int v2), some (.int v3), some (.int v4), some (.int v5), some (.int v6)], [], (197, i, (zRF b), l)) := by
  refine (ze_iload 25 zm51 dX6_reaches_23 rfl rfl).trans ?_
  refine (ze_aload_n 26 zm51 dX6_reaches_25 rfl rfl).trans ?_
  refine (ze_getR 29 zm51 dX6_reaches_26 f6_28 k72_6 t6_1 (rr72_1 b) rfl).trans ?_
  refine (ze_getI 32 zm51 dX6_reaches_29 f6_34 k3_4 (Or.inl t4_1) rfl).trans ?_
  exact ze_icmp_ge 80 35 zm51 dX6_reaches_32 (by decide) rfl
theorem b51_35 (sc : zScr) (v1 : Int32) (v2 : Int32) (v3 : Int32) (v4 : Int32) (v5 : Int32) (v6 : Int32) (i : Nat → Nat → Int32) (b : Bool) (l : Nat → Nat → Int64) : zev sc (51, 35, [some (.ref 72), some (.int v1), some (.int v2), some (.int v3), some (.int v4), some (.int v5), some (.int v6)], [], (197, i, (zRF b), l)) = if ((v3 >>> (v6 &&& 31)) &&& (1 : Int32)) = (1 : Int32) then zev sc (51, 45, [some (.ref 72), some (.int v1), some (.int v2), some (.int v3), some (.int v4), some (.int v5), some (.int v6)], [], (197, i, (zRF b), l)) else zev sc (51, 74, [some (.ref 72), some (.int v1), some (.int v2), some (.int v3), some (.int v4), some (.int v5), some (.int v6)], [], (197, i, (zRF b), l)) := by
  refine (ze_iload_n 36 zm51 dX6_reaches_35 rfl rfl).trans ?_
  refine (ze_iload 38 zm51 dX6_reaches_36 rfl rfl).trans ?_
  refine (ze_ishr 39 zm51 dX6_reaches_38 rfl).trans ?_
  refine (ze_iconst 40 zm51 dX6_reaches_39 ci_1 rfl).trans ?_
  refine (ze_iand 41 zm51 dX6_reaches_40 rfl).trans ?_
  refine (ze_iconst 42 zm51 dX6_reaches_41 ci_1 rfl).trans ?_
  exact ze_icmp_ne 74 45 zm51 dX6_reaches_42 (by decide) rfl
theorem b51_45 (sc : zScr) (v1 : Int32) (v2 : Int32) (v3 : Int32) (v4 : Int32) (v5 : Int32) (v6 : Int32) (i : Nat → Nat → Int32) (b : Bool) (l : Nat → Nat → Int64) : zev sc (51, 45, [some (.ref 72), some (.int v1), some (.int v2), some (.int v3), some (.int v4), some (.int v5), some (.int v6)], [], (197, i, (zRF b), l)) = (zev sc (37, 0, [some (.ref 3), some (.int v6)], [], (197, i, (zRF b), l))).bind (fun x => zev sc (51, 56, [some (.ref 72), some (.int v1), some (.int v2), some (.int v3), some (.int v4), some (.int v5), some (.int v6)], [x.1, .int v4], x.2)) := by
  refine (ze_iload 47 zm51 dX6_reaches_45 rfl rfl).trans ?_
  refine (ze_aload_n 48 zm51 dX6_reaches_47 rfl rfl).trans ?_
  refine (ze_getR 51 zm51 dX6_reaches_48 f6_28 k72_6 t6_1 (rr72_1 b) rfl).trans ?_
  refine (ze_iload 53 zm51 dX6_reaches_51 rfl rfl).trans ?_
  exact ze_virtI (as := [.int v6]) (rest := [.int v4]) 56 zm51 dX6_reaches_53 r6_99 zm37 rfl rfl k3_4 rfl rfl rfl rfl
theorem b51_56 (sc : zScr) (v1 : Int32) (v2 : Int32) (v3 : Int32) (v4 : Int32) (v5 : Int32) (v6 : Int32) (s0 : Int32) (s1 : Int32) (i : Nat → Nat → Int32) (b : Bool) (l : Nat → Nat → Int64) : zev sc (51, 56, [some (.ref 72), some (.int v1), some (.int v2), some (.int v3), some (.int v4), some (.int v5), some (.int v6)], [.int s0, .int s1], (197, i, (zRF b), l)) = if (s1 &&& s0) = 0 then zev sc (51, 74, [some (.ref 72), some (.int v1), some (.int v2), some (.int v3), some (.int v4), some (.int v5), some (.int v6)], [], (197, i, (zRF b), l)) else zev sc (51, 60, [some (.ref 72), some (.int v1), some (.int v2), some (.int v3), some (.int v4), some (.int v5), some (.int v6)], [], (197, i, (zRF b), l)) := by
  refine (ze_iand 57 zm51 dX6_reaches_56 rfl).trans ?_
  exact ze_if_eq 74 60 zm51 dX6_reaches_57 (by decide) rfl
theorem b51_60 (sc : zScr) (v1 : Int32) (v2 : Int32) (v3 : Int32) (v4 : Int32) (v5 : Int32) (v6 : Int32) (i : Nat → Nat → Int32) (b : Bool) (l : Nat → Nat → Int64) : zev sc (51, 60, [some (.ref 72), some (.int v1), some (.int v2), some (.int v3), some (.int v4), some (.int v5), some (.int v6)], [], (197, i, (zRF b), l)) = (zev sc (37, 0, [some (.ref 3), some (.int v6)], [], (197, i, (zRF b), l))).bind (fun x => zev sc (51, 71, [some (.ref 72), some (.int v1), some (.int v2), some (.int v3), some (.int v4), some (.int v5), some (.int v6)], [x.1, .int v4], x.2)) := by
  refine (ze_iload 62 zm51 dX6_reaches_60 rfl rfl).trans ?_
  refine (ze_aload_n 63 zm51 dX6_reaches_62 rfl rfl).trans ?_
  refine (ze_getR 66 zm51 dX6_reaches_63 f6_28 k72_6 t6_1 (rr72_1 b) rfl).trans ?_
  refine (ze_iload 68 zm51 dX6_reaches_66 rfl rfl).trans ?_
  exact ze_virtI (as := [.int v6]) (rest := [.int v4]) 71 zm51 dX6_reaches_68 r6_99 zm37 rfl rfl k3_4 rfl rfl rfl rfl
theorem b51_71 (sc : zScr) (v1 : Int32) (v2 : Int32) (v3 : Int32) (v4 : Int32) (v5 : Int32) (v6 : Int32) (s0 : Int32) (s1 : Int32) (i : Nat → Nat → Int32) (b : Bool) (l : Nat → Nat → Int64) : zev sc (51, 71, [some (.ref 72), some (.int v1), some (.int v2), some (.int v3), some (.int v4), some (.int v5), some (.int v6)], [.int s0, .int s1], (197, i, (zRF b), l)) = zev sc (51, 74, [some (.ref 72), some (.int v1), some (.int v2), some (.int v3), some (.int (s1 ||| s0)), some (.int v5), some (.int v6)], [], (197, i, (zRF b), l)) := by
  refine (ze_ior 72 zm51 dX6_reaches_71 rfl).trans ?_
  refine (ze_istore (A := 99) (ls' := [some (.ref 72), some (.int v1), some (.int v2), some (.int v3), some (.int (s1 ||| s0)), some (.int v5), some (.int v6)]) 74 zm51 dX6_reaches_72 za51 rfl rfl rfl rfl rfl).trans ?_
  rfl
theorem b51_74 (sc : zScr) (v1 : Int32) (v2 : Int32) (v3 : Int32) (v4 : Int32) (v5 : Int32) (v6 : Int32) (i : Nat → Nat → Int32) (b : Bool) (l : Nat → Nat → Int64) : zev sc (51, 74, [some (.ref 72), some (.int v1), some (.int v2), some (.int v3), some (.int v4), some (.int v5), some (.int v6)], [], (197, i, (zRF b), l)) = zev sc (51, 23, [some (.ref 72), some (.int v1), some (.int v2), some (.int v3), some (.int v4), some (.int v5), some (.int (v6 + 1))], [], (197, i, (zRF b), l)) := by
  refine (ze_iinc (v := (1 : Int32)) (A := 99) (ls' := [some (.ref 72), some (.int v1), some (.int v2), some (.int v3), some (.int v4), some (.int v5), some (.int (v6 + 1))]) 77 zm51 dX6_reaches_74 rfl ci_1 za51 rfl rfl rfl rfl rfl).trans ?_
  exact ze_goto 23 zm51 dX6_reaches_77 (by decide)
theorem b51_80 (sc : zScr) (v1 : Int32) (v2 : Int32) (v3 : Int32) (v4 : Int32) (v5 : Int32) (v6 : Int32) (i : Nat → Nat → Int32) (b : Bool) (l : Nat → Nat → Int64) : zev sc (51, 80, [some (.ref 72), some (.int v1), some (.int v2), some (.int v3), some (.int v4), some (.int v5), some (.int v6)], [], (197, i, (zRF b), l)) = zev sc (51, 8, [some (.ref 72), some (.int v1), some (.int v2), some (.int v3), some (.int v4), some (.int (v5 + 1)), some (.int v6)], [], (197, i, (zRF b), l)) := by
  refine (ze_iinc (v := (1 : Int32)) (A := 99) (ls' := [some (.ref 72), some (.int v1), some (.int v2), some (.int v3), some (.int v4), some (.int (v5 + 1)), some (.int v6)]) 83 zm51 dX6_reaches_80 rfl ci_1 za51 rfl rfl rfl rfl rfl).trans ?_
  exact ze_goto 8 zm51 dX6_reaches_83 (by decide)
theorem b51_86 (sc : zScr) (v1 : Int32) (v2 : Int32) (v3 : Int32) (v4 : Int32) (v5 : Int32) (w6 : Option Value) (i : Nat → Nat → Int32) (b : Bool) (l : Nat → Nat → Int64) : zev sc (51, 86, [some (.ref 72), some (.int v1), some (.int v2), some (.int v3), some (.int v4), some (.int v5), w6], [], (197, i, (zRF b), l)) = if ((v4 >>> (v2 &&& 31)) &&& (1 : Int32)) = (1 : Int32) then zev sc (51, 96, [some (.ref 72), some (.int v1), some (.int v2), some (.int v3), some (.int v4), some (.int v5), w6], [], (197, i, (zRF b), l)) else zev sc (51, 100, [some (.ref 72), some (.int v1), some (.int v2), some (.int v3), some (.int v4), some (.int v5), w6], [], (197, i, (zRF b), l)) := by
  refine (ze_iload 88 zm51 dX6_reaches_86 rfl rfl).trans ?_
  refine (ze_iload_n 89 zm51 dX6_reaches_88 rfl rfl).trans ?_
  refine (ze_ishr 90 zm51 dX6_reaches_89 rfl).trans ?_
  refine (ze_iconst 91 zm51 dX6_reaches_90 ci_1 rfl).trans ?_
  refine (ze_iand 92 zm51 dX6_reaches_91 rfl).trans ?_
  refine (ze_iconst 93 zm51 dX6_reaches_92 ci_1 rfl).trans ?_
  exact ze_icmp_ne 100 96 zm51 dX6_reaches_93 (by decide) rfl
theorem b51_96 (sc : zScr) (v1 : Int32) (v2 : Int32) (v3 : Int32) (v4 : Int32) (v5 : Int32) (w6 : Option Value) (i : Nat → Nat → Int32) (b : Bool) (l : Nat → Nat → Int64) : zev sc (51, 96, [some (.ref 72), some (.int v1), some (.int v2), some (.int v3), some (.int v4), some (.int v5), w6], [], (197, i, (zRF b), l)) = zev sc (51, 101, [some (.ref 72), some (.int v1), some (.int v2), some (.int v3), some (.int v4), some (.int v5), w6], [.int (1 : Int32)], (197, i, (zRF b), l)) := by
  refine (ze_iconst 97 zm51 dX6_reaches_96 ci_1 rfl).trans ?_
  exact ze_goto 101 zm51 dX6_reaches_97 (by decide)
theorem b51_100 (sc : zScr) (v1 : Int32) (v2 : Int32) (v3 : Int32) (v4 : Int32) (v5 : Int32) (w6 : Option Value) (i : Nat → Nat → Int32) (b : Bool) (l : Nat → Nat → Int64) : zev sc (51, 100, [some (.ref 72), some (.int v1), some (.int v2), some (.int v3), some (.int v4), some (.int v5), w6], [], (197, i, (zRF b), l)) = zev sc (51, 101, [some (.ref 72), some (.int v1), some (.int v2), some (.int v3), some (.int v4), some (.int v5), w6], [.int (0 : Int32)], (197, i, (zRF b), l)) := by
  refine (ze_iconst 101 zm51 dX6_reaches_100 ci_0 rfl).trans ?_
  rfl
theorem b51_101 (sc : zScr) (v1 : Int32) (v2 : Int32) (v3 : Int32) (v4 : Int32) (v5 : Int32) (w6 : Option Value) (s0 : Int32) (i : Nat → Nat → Int32) (b : Bool) (l : Nat → Nat → Int64) (h1 : s0 = 0 ∨ s0 = 1) : zev sc (51, 101, [some (.ref 72), some (.int v1), some (.int v2), some (.int v3), some (.int v4), some (.int v5), w6], [.int s0], (197, i, (zRF b), l)) = some (.int s0, (197, i, (zRF b), l)) := by
  exact ze_zreturn zm51 dX6_reaches_101 rfl h1
/-! HarpFences$Paths.power (II)I: method 52 -/
theorem b52_0 (sc : zScr) (v0 : Int32) (v1 : Int32) (i : Nat → Nat → Int32) (b : Bool) (l : Nat → Nat → Int64) : zev sc (52, 0, [some (.int v0), some (.int v1), none, none], [], (197, i, (zRF b), l)) = zev sc (52, 4, [some (.int v0), some (.int v1), some (.int (1 : Int32)), some (.int (0 : Int32))], [], (197, i, (zRF b), l)) := by
  refine (ze_iconst 1 zm52 dX6_power_0 ci_1 rfl).trans ?_
  refine (ze_istore_n (A := 99) (ls' := [some (.int v0), some (.int v1), some (.int (1 : Int32)), none]) 2 zm52 dX6_power_1 za52 rfl rfl rfl rfl rfl).trans ?_
  refine (ze_iconst 3 zm52 dX6_power_2 ci_0 rfl).trans ?_
  refine (ze_istore_n (A := 99) (ls' := [some (.int v0), some (.int v1), some (.int (1 : Int32)), some (.int (0 : Int32))]) 4 zm52 dX6_power_3 za52 rfl rfl rfl rfl rfl).trans ?_
  rfl
theorem b52_4 (sc : zScr) (v0 : Int32) (v1 : Int32) (v2 : Int32) (v3 : Int32) (i : Nat → Nat → Int32) (b : Bool) (l : Nat → Nat → Int64) : zev sc (52, 4, [some (.int v0), some (.int v1), some (.int v2), some (.int v3)], [], (197, i, (zRF b), l)) = if v1 ≤ v3 then zev sc (52, 19, [some (.int v0), some (.int v1), some (.int v2), some (.int v3)], [], (197, i, (zRF b), l)) else zev sc (52, 9, [some (.int v0), some (.int v1), some (.int v2), some (.int v3)], [], (197, i, (zRF b), l)) := by
  refine (ze_iload_n 5 zm52 dX6_power_4 rfl rfl).trans ?_
  refine (ze_iload_n 6 zm52 dX6_power_5 rfl rfl).trans ?_
  exact ze_icmp_ge 19 9 zm52 dX6_power_6 (by decide) rfl
theorem b52_9 (sc : zScr) (v0 : Int32) (v1 : Int32) (v2 : Int32) (v3 : Int32) (i : Nat → Nat → Int32) (b : Bool) (l : Nat → Nat → Int64) : zev sc (52, 9, [some (.int v0), some (.int v1), some (.int v2), some (.int v3)], [], (197, i, (zRF b), l)) = zev sc (52, 4, [some (.int v0), some (.int v1), some (.int (v2 * v0)), some (.int (v3 + 1))], [], (197, i, (zRF b), l)) := by
  refine (ze_iload_n 10 zm52 dX6_power_9 rfl rfl).trans ?_
  refine (ze_iload_n 11 zm52 dX6_power_10 rfl rfl).trans ?_
  refine (ze_imul 12 zm52 dX6_power_11 rfl).trans ?_
  refine (ze_istore_n (A := 99) (ls' := [some (.int v0), some (.int v1), some (.int (v2 * v0)), some (.int v3)]) 13 zm52 dX6_power_12 za52 rfl rfl rfl rfl rfl).trans ?_
  refine (ze_iinc (v := (1 : Int32)) (A := 99) (ls' := [some (.int v0), some (.int v1), some (.int (v2 * v0)), some (.int (v3 + 1))]) 16 zm52 dX6_power_13 rfl ci_1 za52 rfl rfl rfl rfl rfl).trans ?_
  exact ze_goto 4 zm52 dX6_power_16 (by decide)
theorem b52_19 (sc : zScr) (v0 : Int32) (v1 : Int32) (v2 : Int32) (v3 : Int32) (i : Nat → Nat → Int32) (b : Bool) (l : Nat → Nat → Int64) : zev sc (52, 19, [some (.int v0), some (.int v1), some (.int v2), some (.int v3)], [], (197, i, (zRF b), l)) = some (.int v2, (197, i, (zRF b), l)) := by
  refine (ze_iload_n 20 zm52 dX6_power_19 rfl rfl).trans ?_
  exact ze_ireturn zm52 dX6_power_20 rfl
/-! HarpFences$Paths.commonDivisor (II)I: method 53 -/
theorem b53_0 (sc : zScr) (v0 : Int32) (v1 : Int32) (i : Nat → Nat → Int32) (b : Bool) (l : Nat → Nat → Int64) : zev sc (53, 0, [some (.int v0), some (.int v1), none, none, none, none], [], (197, i, (zRF b), l)) = zev sc (53, 7, [some (.int v0), some (.int v1), some (.int v0), some (.int v1), some (.int (0 : Int32)), none], [], (197, i, (zRF b), l)) := by
  refine (ze_iload_n 1 zm53 dX6_commonDivisor_0 rfl rfl).trans ?_
  refine (ze_istore_n (A := 99) (ls' := [some (.int v0), some (.int v1), some (.int v0), none, none, none]) 2 zm53 dX6_commonDivisor_1 za53 rfl rfl rfl rfl rfl).trans ?_
  refine (ze_iload_n 3 zm53 dX6_commonDivisor_2 rfl rfl).trans ?_
  refine (ze_istore_n (A := 99) (ls' := [some (.int v0), some (.int v1), some (.int v0), some (.int v1), none, none]) 4 zm53 dX6_commonDivisor_3 za53 rfl rfl rfl rfl rfl).trans ?_
  refine (ze_iconst 5 zm53 dX6_commonDivisor_4 ci_0 rfl).trans ?_
  refine (ze_istore (A := 99) (ls' := [some (.int v0), some (.int v1), some (.int v0), some (.int v1), some (.int (0 : Int32)), none]) 7 zm53 dX6_commonDivisor_5 za53 rfl rfl rfl rfl rfl).trans ?_
  rfl
theorem b53_7 (sc : zScr) (v0 : Int32) (v1 : Int32) (v2 : Int32) (v3 : Int32) (v4 : Int32) (w5 : Option Value) (i : Nat → Nat → Int32) (b : Bool) (l : Nat → Nat → Int64) : zev sc (53, 7, [some (.int v0), some (.int v1), some (.int v2), some (.int v3), some (.int v4), w5], [], (197, i, (zRF b), l)) = if (100 : Int32) ≤ v4 then zev sc (53, 34, [some (.int v0), some (.int v1), some (.int v2), some (.int v3), some (.int v4), w5], [], (197, i, (zRF b), l)) else zev sc (53, 14, [some (.int v0), some (.int v1), some (.int v2), some (.int v3), some (.int v4), w5], [], (197, i, (zRF b), l)) := by
  refine (ze_iload 9 zm53 dX6_commonDivisor_7 rfl rfl).trans ?_
  refine (ze_bipush 11 zm53 dX6_commonDivisor_9 cb_100 rfl).trans ?_
  exact ze_icmp_ge 34 14 zm53 dX6_commonDivisor_11 (by decide) rfl
theorem b53_14 (sc : zScr) (v0 : Int32) (v1 : Int32) (v2 : Int32) (v3 : Int32) (v4 : Int32) (w5 : Option Value) (i : Nat → Nat → Int32) (b : Bool) (l : Nat → Nat → Int64) : zev sc (53, 14, [some (.int v0), some (.int v1), some (.int v2), some (.int v3), some (.int v4), w5], [], (197, i, (zRF b), l)) = if v3 = 0 then zev sc (53, 34, [some (.int v0), some (.int v1), some (.int v2), some (.int v3), some (.int v4), w5], [], (197, i, (zRF b), l)) else zev sc (53, 18, [some (.int v0), some (.int v1), some (.int v2), some (.int v3), some (.int v4), w5], [], (197, i, (zRF b), l)) := by
  refine (ze_iload_n 15 zm53 dX6_commonDivisor_14 rfl rfl).trans ?_
  exact ze_if_eq 34 18 zm53 dX6_commonDivisor_15 (by decide) rfl
theorem b53_18 (sc : zScr) (v0 : Int32) (v1 : Int32) (v2 : Int32) (v3 : Int32) (v4 : Int32) (w5 : Option Value) (i : Nat → Nat → Int32) (b : Bool) (l : Nat → Nat → Int64) (h1 : ¬ v3 = 0) : zev sc (53, 18, [some (.int v0), some (.int v1), some (.int v2), some (.int v3), some (.int v4), w5], [], (197, i, (zRF b), l)) = zev sc (53, 7, [some (.int v0), some (.int v1), some (.int v3), some (.int (v2 - v2 / v3 * v3)), some (.int (v4 + 1)), some (.int (v2 - v2 / v3 * v3))], [], (197, i, (zRF b), l)) := by
  refine (ze_iload_n 19 zm53 dX6_commonDivisor_18 rfl rfl).trans ?_
  refine (ze_iload_n 20 zm53 dX6_commonDivisor_19 rfl rfl).trans ?_
  refine (ze_irem 21 zm53 dX6_commonDivisor_20 h1 rfl).trans ?_
  refine (ze_istore (A := 99) (ls' := [some (.int v0), some (.int v1), some (.int v2), some (.int v3), some (.int v4), some (.int (v2 - v2 / v3 * v3))]) 23 zm53 dX6_commonDivisor_21 za53 rfl rfl rfl rfl rfl).trans ?_
  refine (ze_iload_n 24 zm53 dX6_commonDivisor_23 rfl rfl).trans ?_
  refine (ze_istore_n (A := 99) (ls' := [some (.int v0), some (.int v1), some (.int v3), some (.int v3), some (.int v4), some (.int (v2 - v2 / v3 * v3))]) 25 zm53 dX6_commonDivisor_24 za53 rfl rfl rfl rfl rfl).trans ?_
  refine (ze_iload 27 zm53 dX6_commonDivisor_25 rfl rfl).trans ?_
  refine (ze_istore_n (A := 99) (ls' := [some (.int v0), some (.int v1), some (.int v3), some (.int (v2 - v2 / v3 * v3)), some (.int v4), some (.int (v2 - v2 / v3 * v3))]) 28 zm53 dX6_commonDivisor_27 za53 rfl rfl rfl rfl rfl).trans ?_
  refine (ze_iinc (v := (1 : Int32)) (A := 99) (ls' := [some (.int v0), some (.int v1), some (.int v3), some (.int (v2 - v2 / v3 * v3)), some (.int (v4 + 1)), some (.int (v2 - v2 / v3 * v3))]) 31 zm53 dX6_commonDivisor_28 rfl ci_1 za53 rfl rfl rfl rfl rfl).trans ?_
  exact ze_goto 7 zm53 dX6_commonDivisor_31 (by decide)
theorem b53_34 (sc : zScr) (v0 : Int32) (v1 : Int32) (v2 : Int32) (v3 : Int32) (v4 : Int32) (w5 : Option Value) (i : Nat → Nat → Int32) (b : Bool) (l : Nat → Nat → Int64) : zev sc (53, 34, [some (.int v0), some (.int v1), some (.int v2), some (.int v3), some (.int v4), w5], [], (197, i, (zRF b), l)) = some (.int v2, (197, i, (zRF b), l)) := by
  refine (ze_iload_n 35 zm53 dX6_commonDivisor_34 rfl rfl).trans ?_
  exact ze_ireturn zm53 dX6_commonDivisor_35 rfl
/-! HarpFences$Stand.begin (LHarpFences$Land;)V: method 55 -/
theorem b55_0 (sc : zScr) (i : Nat → Nat → Int32) (b : Bool) (l : Nat → Nat → Int64) : zev sc (55, 0, [some (.ref 19), some (.ref 3)], [], (197, i, (zRF b), l)) = some (.null, (197, (zU (zU (zU (zU (zCp (zCp i 10 20 0 0 6) 6 21 0 0 8) 19 3 (0 : Int32)) 19 4 (0 : Int32)) 19 5 (0 : Int32)) 19 6 ((zU (zU (zU (zCp (zCp i 10 20 0 0 6) 6 21 0 0 8) 19 3 (0 : Int32)) 19 4 (0 : Int32)) 19 5 (0 : Int32)) 3 11)), (zRF b), l)) := by
  refine (ze_aload_n 1 zm55 dX7_begin_0 rfl rfl).trans ?_
  refine (ze_getR 4 zm55 dX7_begin_1 f7_21 k3_4 t4_10 (rr3_10 b) rfl).trans ?_
  refine (ze_iconst 5 zm55 dX7_begin_4 ci_0 rfl).trans ?_
  refine (ze_aload_n 6 zm55 dX7_begin_5 rfl rfl).trans ?_
  refine (ze_getR 9 zm55 dX7_begin_6 f7_9 k19_7 t7_0 (rr19_0 b) rfl).trans ?_
  refine (ze_iconst 10 zm55 dX7_begin_9 ci_0 rfl).trans ?_
  refine (ze_bipush 12 zm55 dX7_begin_10 cb_6 rfl).trans ?_
  refine (ze_copy (ns := 0) (nd := 0) (nc := 6) 15 zm55 dX7_begin_12 r7_24 rfl k20_100 k10_100 (by decide) (by decide) (by decide) tn_0 tn_0 tn_6 (by decide +kernel) (by decide +kernel) rfl).trans ?_
  refine (ze_aload_n 16 zm55 dX7_begin_15 rfl rfl).trans ?_
  refine (ze_getR 19 zm55 dX7_begin_16 f7_30 k3_4 t4_4 (rr3_4 b) rfl).trans ?_
  refine (ze_iconst 20 zm55 dX7_begin_19 ci_0 rfl).trans ?_
  refine (ze_aload_n 21 zm55 dX7_begin_20 rfl rfl).trans ?_
  refine (ze_getR 24 zm55 dX7_begin_21 f7_15 k19_7 t7_1 (rr19_1 b) rfl).trans ?_
  refine (ze_iconst 25 zm55 dX7_begin_24 ci_0 rfl).trans ?_
  refine (ze_bipush 27 zm55 dX7_begin_25 cb_8 rfl).trans ?_
  refine (ze_copy (ns := 0) (nd := 0) (nc := 8) 30 zm55 dX7_begin_27 r7_24 rfl k21_100 k6_100 (by decide) (by decide) (by decide) tn_0 tn_0 tn_8 (by decide +kernel) (by decide +kernel) rfl).trans ?_
  refine (ze_aload_n 31 zm55 dX7_begin_30 rfl rfl).trans ?_
  refine (ze_iconst 32 zm55 dX7_begin_31 ci_0 rfl).trans ?_
  refine (ze_putI 35 zm55 dX7_begin_32 f7_31 k19_7 (Or.inl fn7_3) t7_3 rfl).trans ?_
  refine (ze_aload_n 36 zm55 dX7_begin_35 rfl rfl).trans ?_
  refine (ze_iconst 37 zm55 dX7_begin_36 ci_0 rfl).trans ?_
  refine (ze_putI 40 zm55 dX7_begin_37 f7_35 k19_7 (Or.inl fn7_4) t7_4 rfl).trans ?_
  refine (ze_aload_n 41 zm55 dX7_begin_40 rfl rfl).trans ?_
  refine (ze_iconst 42 zm55 dX7_begin_41 ci_0 rfl).trans ?_
  refine (ze_putI 45 zm55 dX7_begin_42 f7_38 k19_7 (Or.inl fn7_5) t7_5 rfl).trans ?_
  refine (ze_aload_n 46 zm55 dX7_begin_45 rfl rfl).trans ?_
  refine (ze_aload_n 47 zm55 dX7_begin_46 rfl rfl).trans ?_
  refine (ze_getI 50 zm55 dX7_begin_47 f7_41 k3_4 (Or.inl t4_11) rfl).trans ?_
  refine (ze_putI 53 zm55 dX7_begin_50 f7_44 k19_7 (Or.inl fn7_6) t7_6 rfl).trans ?_
  exact ze_return zm55 dX7_begin_53 rfl
/-! HarpFences$Stand.copyFrom (LHarpFences$Stand;)V: method 56 -/
theorem b56_0 (sc : zScr) (a0 : Nat) (a1 : Nat) (q1 : Nat) (q2 : Nat) (q3 : Nat) (q4 : Nat) (q5 : Nat) (q6 : Nat) (i : Nat → Nat → Int32) (b : Bool) (l : Nat → Nat → Int64) (h1 : zok 197 a1 7 = true) (h2 : zRF b a1 0 = some q1) (h3 : zok 197 a0 7 = true) (h4 : zRF b a0 0 = some q2) (h5 : zok 197 q2 100 = true) (h6 : zok 197 q1 100 = true) (h7 : 6 ≤ (zK q1).2) (h8 : 6 ≤ (zK q2).2) (h9 : zRF b a1 1 = some q3) (h10 : zRF b a0 1 = some q4) (h11 : zok 197 q4 100 = true) (h12 : zok 197 q3 100 = true) (h13 : 8 ≤ (zK q3).2) (h14 : 8 ≤ (zK q4).2) (h15 : zRF b a1 2 = some q5) (h16 : zRF b a0 2 = some q6) (h17 : zok 197 q6 100 = true) (h18 : zok 197 q5 100 = true) (h19 : 12 ≤ (zK q5).2) (h20 : 12 ≤ (zK q6).2) : zev sc (56, 0, [some (.ref a0), some (.ref a1)], [], (197, i, (zRF b), l)) = some (.null, (197, (zU (zU (zU (zU (zCp (zCp (zCp i q1 q2 0 0 6) q3 q4 0 0 8) q5 q6 0 0 12) a0 3 ((zCp (zCp (zCp i q1 q2 0 0 6) q3 q4 0 0 8) q5 q6 0 0 12) a1 3)) a0 4 ((zU (zCp (zCp (zCp i q1 q2 0 0 6) q3 q4 0 0 8) q5 q6 0 0 12) a0 3 ((zCp (zCp (zCp i q1 q2 0 0 6) q3 q4 0 0 8) q5 q6 0 0 12) a1 3)) a1 4)) a0 5 ((zU (zU (zCp (zCp (zCp i q1 q2 0 0 6) q3 q4 0 0 8) q5 q6 0 0 12) a0 3 ((zCp (zCp (zCp i q1 q2 0 0 6) q3 q4 0 0 8) q5 q6 0 0 12) a1 3)) a0 4 ((zU (zCp (zCp (zCp i q1 q2 0 0 6) q3 q4 0 0 8) q5 q6 0 0 12) a0 3 ((zCp (zCp (zCp i q1 q2 0 0 6) q3 q4 0 0 8) q5 q6 0 0 12) a1 3)) a1 4)) a1 5)) a0 6 ((zU (zU (zU (zCp (zCp (zCp i q1 q2 0 0 6) q3 q4 0 0 8) q5 q6 0 0 12) a0 3 ((zCp (zCp (zCp i q1 q2 0 0 6) q3 q4 0 0 8) q5 q6 0 0 12) a1 3)) a0 4 ((zU (zCp (zCp (zCp i q1 q2 0 0 6) q3 q4 0 0 8) q5 q6 0 0 12) a0 3 ((zCp (zCp (zCp i q1 q2 0 0 6) q3 q4 0 0 8) q5 q6 0 0 12) a1 3)) a1 4)) a0 5 ((zU (zU (zCp (zCp (zCp i q1 q2 0 0 6) q3 q4 0 0 8) q5 q6 0 0 12) a0 3 ((zCp (zCp (zCp i q1 q2 0 0 6) q3 q4 0 0 8) q5 q6 0 0 12) a1 3)) a0 4 ((zU (zCp (zCp (zCp i q1 q2 0 0 6) q3 q4 0 0 8) q5 q6 0 0 12) a0 3 ((zCp (zCp (zCp i q1 q2 0 0 6) q3 q4 0 0 8) q5 q6 0 0 12) a1 3)) a1 4)) a1 5)) a1 6)), (zRF b), l)) := by
  refine (ze_aload_n 1 zm56 dX7_copyFrom_0 rfl rfl).trans ?_
  refine (ze_getR (q := q1) 4 zm56 dX7_copyFrom_1 f7_9 h1 t7_0 h2 rfl).trans ?_
  refine (ze_iconst 5 zm56 dX7_copyFrom_4 ci_0 rfl).trans ?_
  refine (ze_aload_n 6 zm56 dX7_copyFrom_5 rfl rfl).trans ?_
  refine (ze_getR (q := q2) 9 zm56 dX7_copyFrom_6 f7_9 h3 t7_0 h4 rfl).trans ?_
  refine (ze_iconst 10 zm56 dX7_copyFrom_9 ci_0 rfl).trans ?_
  refine (ze_bipush 12 zm56 dX7_copyFrom_10 cb_6 rfl).trans ?_
  refine (ze_copy (ns := 0) (nd := 0) (nc := 6) 15 zm56 dX7_copyFrom_12 r7_24 rfl h5 h6 (by decide) (by decide) (by decide) tn_0 tn_0 tn_6 h7 h8 rfl).trans ?_
  refine (ze_aload_n 16 zm56 dX7_copyFrom_15 rfl rfl).trans ?_
  refine (ze_getR (q := q3) 19 zm56 dX7_copyFrom_16 f7_15 h1 t7_1 h9 rfl).trans ?_
  refine (ze_iconst 20 zm56 dX7_copyFrom_19 ci_0 rfl).trans ?_
  refine (ze_aload_n 21 zm56 dX7_copyFrom_20 rfl rfl).trans ?_
  refine (ze_getR (q := q4) 24 zm56 dX7_copyFrom_21 f7_15 h3 t7_1 h10 rfl).trans ?_
  refine (ze_iconst 25 zm56 dX7_copyFrom_24 ci_0 rfl).trans ?_
  refine (ze_bipush 27 zm56 dX7_copyFrom_25 cb_8 rfl).trans ?_
  refine (ze_copy (ns := 0) (nd := 0) (nc := 8) 30 zm56 dX7_copyFrom_27 r7_24 rfl h11 h12 (by decide) (by decide) (by decide) tn_0 tn_0 tn_8 h13 h14 rfl).trans ?_
  refine (ze_aload_n 31 zm56 dX7_copyFrom_30 rfl rfl).trans ?_
  refine (ze_getR (q := q5) 34 zm56 dX7_copyFrom_31 f7_18 h1 t7_2 h15 rfl).trans ?_
  refine (ze_iconst 35 zm56 dX7_copyFrom_34 ci_0 rfl).trans ?_
  refine (ze_aload_n 36 zm56 dX7_copyFrom_35 rfl rfl).trans ?_
  refine (ze_getR (q := q6) 39 zm56 dX7_copyFrom_36 f7_18 h3 t7_2 h16 rfl).trans ?_
  refine (ze_iconst 40 zm56 dX7_copyFrom_39 ci_0 rfl).trans ?_
  refine (ze_bipush 42 zm56 dX7_copyFrom_40 cb_12 rfl).trans ?_
  refine (ze_copy (ns := 0) (nd := 0) (nc := 12) 45 zm56 dX7_copyFrom_42 r7_24 rfl h17 h18 (by decide) (by decide) (by decide) tn_0 tn_0 tn_12 h19 h20 rfl).trans ?_
  refine (ze_aload_n 46 zm56 dX7_copyFrom_45 rfl rfl).trans ?_
  refine (ze_aload_n 47 zm56 dX7_copyFrom_46 rfl rfl).trans ?_
  refine (ze_getI 50 zm56 dX7_copyFrom_47 f7_31 h1 (Or.inl t7_3) rfl).trans ?_
  refine (ze_putI 53 zm56 dX7_copyFrom_50 f7_31 h3 (Or.inl fn7_3) t7_3 rfl).trans ?_
  refine (ze_aload_n 54 zm56 dX7_copyFrom_53 rfl rfl).trans ?_
  refine (ze_aload_n 55 zm56 dX7_copyFrom_54 rfl rfl).trans ?_
  refine (ze_getI 58 zm56 dX7_copyFrom_55 f7_35 h1 (Or.inl t7_4) rfl).trans ?_
  refine (ze_putI 61 zm56 dX7_copyFrom_58 f7_35 h3 (Or.inl fn7_4) t7_4 rfl).trans ?_
  refine (ze_aload_n 62 zm56 dX7_copyFrom_61 rfl rfl).trans ?_
  refine (ze_aload_n 63 zm56 dX7_copyFrom_62 rfl rfl).trans ?_
  refine (ze_getI 66 zm56 dX7_copyFrom_63 f7_38 h1 (Or.inl t7_5) rfl).trans ?_
  refine (ze_putI 69 zm56 dX7_copyFrom_66 f7_38 h3 (Or.inl fn7_5) t7_5 rfl).trans ?_
  refine (ze_aload_n 70 zm56 dX7_copyFrom_69 rfl rfl).trans ?_
  refine (ze_aload_n 71 zm56 dX7_copyFrom_70 rfl rfl).trans ?_
  refine (ze_getI 74 zm56 dX7_copyFrom_71 f7_44 h1 (Or.inl t7_6) rfl).trans ?_
  refine (ze_putI 77 zm56 dX7_copyFrom_74 f7_44 h3 (Or.inl fn7_6) t7_6 rfl).trans ?_
  exact ze_return zm56 dX7_copyFrom_77 rfl
/-! HarpFences$Stand.sing (I)V: method 57 -/
theorem b57_0 (sc : zScr) (v1 : Int32) (i : Nat → Nat → Int32) (b : Bool) (l : Nat → Nat → Int64) : zev sc (57, 0, [some (.ref 19), some (.int v1)], [], (197, i, (zRF b), l)) = some (.null, (197, (zU (zU (zCp i 22 22 0 1 11) 22 0 v1) 19 3 (if (((zU (zCp i 22 22 0 1 11) 22 0 v1) 19 3) + (1 : Int32)) < (12 : Int32) then (((zU (zCp i 22 22 0 1 11) 22 0 v1) 19 3) + (1 : Int32)) else (12 : Int32))), (zRF b), l)) := by
  refine (ze_aload_n 1 zm57 dX7_sing_0 rfl rfl).trans ?_
  refine (ze_getR 4 zm57 dX7_sing_1 f7_18 k19_7 t7_2 (rr19_2 b) rfl).trans ?_
  refine (ze_iconst 5 zm57 dX7_sing_4 ci_0 rfl).trans ?_
  refine (ze_aload_n 6 zm57 dX7_sing_5 rfl rfl).trans ?_
  refine (ze_getR 9 zm57 dX7_sing_6 f7_18 k19_7 t7_2 (rr19_2 b) rfl).trans ?_
  refine (ze_iconst 10 zm57 dX7_sing_9 ci_1 rfl).trans ?_
  refine (ze_bipush 12 zm57 dX7_sing_10 cb_11 rfl).trans ?_
  refine (ze_copy (ns := 0) (nd := 1) (nc := 11) 15 zm57 dX7_sing_12 r7_24 rfl k22_100 k22_100 (by decide) (by decide) (by decide) tn_0 tn_1 tn_11 (by decide +kernel) (by decide +kernel) rfl).trans ?_
  refine (ze_aload_n 16 zm57 dX7_sing_15 rfl rfl).trans ?_
  refine (ze_getR 19 zm57 dX7_sing_16 f7_18 k19_7 t7_2 (rr19_2 b) rfl).trans ?_
  refine (ze_iconst 20 zm57 dX7_sing_19 ci_0 rfl).trans ?_
  refine (ze_iload_n 21 zm57 dX7_sing_20 rfl rfl).trans ?_
  refine (ze_iastore (t := 0) 22 zm57 dX7_sing_21 k22_100 n22 vi_0_12 tn_0 rfl).trans ?_
  refine (ze_aload_n 23 zm57 dX7_sing_22 rfl rfl).trans ?_
  refine (ze_bipush 25 zm57 dX7_sing_23 cb_12 rfl).trans ?_
  refine (ze_aload_n 26 zm57 dX7_sing_25 rfl rfl).trans ?_
  refine (ze_getI 29 zm57 dX7_sing_26 f7_31 k19_7 (Or.inl t7_3) rfl).trans ?_
  refine (ze_iconst 30 zm57 dX7_sing_29 ci_1 rfl).trans ?_
  refine (ze_iadd 31 zm57 dX7_sing_30 rfl).trans ?_
  refine (ze_min 34 zm57 dX7_sing_31 r7_45 rfl rfl).trans ?_
  refine (ze_putI 37 zm57 dX7_sing_34 f7_31 k19_7 (Or.inl fn7_3) t7_3 rfl).trans ?_
  exact ze_return zm57 dX7_sing_37 rfl
/-! HarpFences$Text.takes (I)Z: method 59 -/
theorem b59_0 (sc : zScr) (v1 : Int32) (i : Nat → Nat → Int32) (b : Bool) (l : Nat → Nat → Int64) : zev sc (59, 0, [some (.ref 1), some (.int v1)], [], (197, i, (zRF b), l)) = if (i 1 1) < (150 : Int32) then zev sc (59, 12, [some (.ref 1), some (.int v1)], [], (197, i, (zRF b), l)) else zev sc (59, 10, [some (.ref 1), some (.int v1)], [], (197, i, (zRF b), l)) := by
  refine (ze_aload_n 1 zm59 dX8_takes_0 rfl rfl).trans ?_
  refine (ze_getI 4 zm59 dX8_takes_1 f8_15 k1_8 (Or.inl t8_1) rfl).trans ?_
  refine (ze_sipush 7 zm59 dX8_takes_4 cs_150 rfl).trans ?_
  exact ze_icmp_lt 12 10 zm59 dX8_takes_7 (by decide) rfl
theorem b59_10 (sc : zScr) (v1 : Int32) (i : Nat → Nat → Int32) (b : Bool) (l : Nat → Nat → Int64) : zev sc (59, 10, [some (.ref 1), some (.int v1)], [], (197, i, (zRF b), l)) = some (.int (0 : Int32), (197, i, (zRF b), l)) := by
  refine (ze_iconst 11 zm59 dX8_takes_10 ci_0 rfl).trans ?_
  exact ze_zreturn zm59 dX8_takes_11 rfl (Or.inl rfl)
theorem b59_12 (sc : zScr) (v1 : Int32) (i : Nat → Nat → Int32) (b : Bool) (l : Nat → Nat → Int64) (h1 : vp_in (i 1 1) 150) : zev sc (59, 12, [some (.ref 1), some (.int v1)], [], (197, i, (zRF b), l)) = some (.int (1 : Int32), (197, (zU (zU i 2 ((i 1 1)).toNatClampNeg v1) 1 1 (((zU i 2 ((i 1 1)).toNatClampNeg v1) 1 1) + (1 : Int32))), (zRF b), l)) := by
  refine (ze_aload_n 13 zm59 dX8_takes_12 rfl rfl).trans ?_
  refine (ze_getR 16 zm59 dX8_takes_13 f8_9 k1_8 t8_0 (rr1_0 b) rfl).trans ?_
  refine (ze_aload_n 17 zm59 dX8_takes_16 rfl rfl).trans ?_
  refine (ze_getI 20 zm59 dX8_takes_17 f8_15 k1_8 (Or.inl t8_1) rfl).trans ?_
  refine (ze_iload_n 21 zm59 dX8_takes_20 rfl rfl).trans ?_
  refine (ze_iastore (t := ((i 1 1)).toNatClampNeg) 22 zm59 dX8_takes_21 k2_100 n2 h1 rfl rfl).trans ?_
  refine (ze_aload_n 23 zm59 dX8_takes_22 rfl rfl).trans ?_
  refine (ze_dup 24 zm59 dX8_takes_23 rfl rfl).trans ?_
  refine (ze_getI 27 zm59 dX8_takes_24 f8_15 k1_8 (Or.inl t8_1) rfl).trans ?_
  refine (ze_iconst 28 zm59 dX8_takes_27 ci_1 rfl).trans ?_
  refine (ze_iadd 29 zm59 dX8_takes_28 rfl).trans ?_
  refine (ze_putI 32 zm59 dX8_takes_29 f8_15 k1_8 (Or.inl fn8_1) t8_1 rfl).trans ?_
  refine (ze_iconst 33 zm59 dX8_takes_32 ci_1 rfl).trans ?_
  exact ze_zreturn zm59 dX8_takes_33 rfl (Or.inr rfl)
/-! HarpFences$Text.tell (LHarpFences$Land;)I: method 60 -/
theorem b60_0 (sc : zScr) (i : Nat → Nat → Int32) (b : Bool) (l : Nat → Nat → Int64) : zev sc (60, 0, [some (.ref 1), some (.ref 11), none, none], [], (197, i, (zRF b), l)) = (zev sc (33, 0, [some (.ref 11)], [], (197, i, (zRF b), l))).bind (fun x => zev sc (60, 4, [some (.ref 1), some (.ref 11), none, none], [], x.2)) := by
  refine (ze_aload_n 1 zm60 dX8_tell_0 rfl rfl).trans ?_
  exact ze_virtV (as := []) (rest := []) 4 zm60 dX8_tell_1 r8_19 zm33 rfl rfl k11_4 rfl rfl rfl rfl
theorem b60_4 (sc : zScr) (i : Nat → Nat → Int32) (b : Bool) (l : Nat → Nat → Int64) : zev sc (60, 4, [some (.ref 1), some (.ref 11), none, none], [], (197, i, (zRF b), l)) = zev sc (60, 16, [some (.ref 1), some (.ref 11), some (.int (0 : Int32)), none], [], (197, (zU (zU i 1 2 (0 : Int32)) 1 6 (0 : Int32)), (zRF b), l)) := by
  refine (ze_aload_n 5 zm60 dX8_tell_4 rfl rfl).trans ?_
  refine (ze_iconst 6 zm60 dX8_tell_5 ci_0 rfl).trans ?_
  refine (ze_putI 9 zm60 dX8_tell_6 f8_24 k1_8 (Or.inl fn8_2) t8_2 rfl).trans ?_
  refine (ze_aload_n 10 zm60 dX8_tell_9 rfl rfl).trans ?_
  refine (ze_iconst 11 zm60 dX8_tell_10 ci_0 rfl).trans ?_
  refine (ze_putZ 14 zm60 dX8_tell_11 f8_27 k1_8 (Or.inl fn8_6) t8_6 (Or.inl rfl) rfl).trans ?_
  refine (ze_iconst 15 zm60 dX8_tell_14 ci_0 rfl).trans ?_
  refine (ze_istore_n (A := 99) (ls' := [some (.ref 1), some (.ref 11), some (.int (0 : Int32)), none]) 16 zm60 dX8_tell_15 za60 rfl rfl rfl rfl rfl).trans ?_
  rfl
theorem b60_16 (sc : zScr) (v2 : Int32) (w3 : Option Value) (i : Nat → Nat → Int32) (b : Bool) (l : Nat → Nat → Int64) : zev sc (60, 16, [some (.ref 1), some (.ref 11), some (.int v2), w3], [], (197, i, (zRF b), l)) = if (150 : Int32) < v2 then zev sc (60, 253, [some (.ref 1), some (.ref 11), some (.int v2), w3], [], (197, i, (zRF b), l)) else zev sc (60, 23, [some (.ref 1), some (.ref 11), some (.int v2), w3], [], (197, i, (zRF b), l)) := by
  refine (ze_iload_n 17 zm60 dX8_tell_16 rfl rfl).trans ?_
  refine (ze_sipush 20 zm60 dX8_tell_17 cs_150 rfl).trans ?_
  exact ze_icmp_gt 253 23 zm60 dX8_tell_20 (by decide) rfl
theorem b60_23 (sc : zScr) (v2 : Int32) (w3 : Option Value) (i : Nat → Nat → Int32) (b : Bool) (l : Nat → Nat → Int64) : zev sc (60, 23, [some (.ref 1), some (.ref 11), some (.int v2), w3], [], (197, i, (zRF b), l)) = (zev sc (68, 0, [some (.ref 1)], [], (197, i, (zRF b), l))).bind (fun x => zev sc (60, 27, [some (.ref 1), some (.ref 11), some (.int v2), w3], [], x.2)) := by
  refine (ze_aload_n 24 zm60 dX8_tell_23 rfl rfl).trans ?_
  exact ze_virtV (as := []) (rest := []) 27 zm60 dX8_tell_24 r8_31 zm68 rfl rfl k1_8 rfl rfl rfl rfl
theorem b60_27 (sc : zScr) (v2 : Int32) (w3 : Option Value) (i : Nat → Nat → Int32) (b : Bool) (l : Nat → Nat → Int64) : zev sc (60, 27, [some (.ref 1), some (.ref 11), some (.int v2), w3], [], (197, i, (zRF b), l)) = if (i 1 3) = 0 then zev sc (60, 34, [some (.ref 1), some (.ref 11), some (.int v2), w3], [], (197, i, (zRF b), l)) else zev sc (60, 36, [some (.ref 1), some (.ref 11), some (.int v2), w3], [], (197, i, (zRF b), l)) := by
  refine (ze_aload_n 28 zm60 dX8_tell_27 rfl rfl).trans ?_
  refine (ze_getI 31 zm60 dX8_tell_28 f8_34 k1_8 (Or.inl t8_3) rfl).trans ?_
  exact ze_if_ne 36 34 zm60 dX8_tell_31 (by decide) rfl
theorem b60_34 (sc : zScr) (v2 : Int32) (w3 : Option Value) (i : Nat → Nat → Int32) (b : Bool) (l : Nat → Nat → Int64) : zev sc (60, 34, [some (.ref 1), some (.ref 11), some (.int v2), w3], [], (197, i, (zRF b), l)) = some (.int v2, (197, i, (zRF b), l)) := by
  refine (ze_iload_n 35 zm60 dX8_tell_34 rfl rfl).trans ?_
  exact ze_ireturn zm60 dX8_tell_35 rfl
theorem b60_36 (sc : zScr) (v2 : Int32) (w3 : Option Value) (i : Nat → Nat → Int32) (b : Bool) (l : Nat → Nat → Int64) : zev sc (60, 36, [some (.ref 1), some (.ref 11), some (.int v2), w3], [], (197, i, (zRF b), l)) = if (i 1 3) = (1 : Int32) then zev sc (60, 44, [some (.ref 1), some (.ref 11), some (.int v2), w3], [], (197, i, (zRF b), l)) else zev sc (60, 51, [some (.ref 1), some (.ref 11), some (.int v2), w3], [], (197, i, (zRF b), l)) := by
  refine (ze_aload_n 37 zm60 dX8_tell_36 rfl rfl).trans ?_
  refine (ze_getI 40 zm60 dX8_tell_37 f8_34 k1_8 (Or.inl t8_3) rfl).trans ?_
  refine (ze_iconst 41 zm60 dX8_tell_40 ci_1 rfl).trans ?_
  exact ze_icmp_ne 51 44 zm60 dX8_tell_41 (by decide) rfl
theorem b60_44 (sc : zScr) (v2 : Int32) (w3 : Option Value) (i : Nat → Nat → Int32) (b : Bool) (l : Nat → Nat → Int64) : zev sc (60, 44, [some (.ref 1), some (.ref 11), some (.int v2), w3], [], (197, i, (zRF b), l)) = zev sc (60, 52, [some (.ref 1), some (.ref 11), some (.int v2), w3], [.int (i 1 5)], (197, i, (zRF b), l)) := by
  refine (ze_aload_n 45 zm60 dX8_tell_44 rfl rfl).trans ?_
  refine (ze_getI 48 zm60 dX8_tell_45 f8_37 k1_8 (Or.inl t8_5) rfl).trans ?_
  exact ze_goto 52 zm60 dX8_tell_48 (by decide)
theorem b60_51 (sc : zScr) (v2 : Int32) (w3 : Option Value) (i : Nat → Nat → Int32) (b : Bool) (l : Nat → Nat → Int64) : zev sc (60, 51, [some (.ref 1), some (.ref 11), some (.int v2), w3], [], (197, i, (zRF b), l)) = zev sc (60, 52, [some (.ref 1), some (.ref 11), some (.int v2), w3], [.int (0 : Int32)], (197, i, (zRF b), l)) := by
  refine (ze_iconst 52 zm60 dX8_tell_51 ci_0 rfl).trans ?_
  rfl
theorem b60_52 (sc : zScr) (v2 : Int32) (w3 : Option Value) (s0 : Int32) (i : Nat → Nat → Int32) (b : Bool) (l : Nat → Nat → Int64) : zev sc (60, 52, [some (.ref 1), some (.ref 11), some (.int v2), w3], [.int s0], (197, i, (zRF b), l)) = zev sc (60, zcs s0 226 [((98 : Int32), 176), ((102 : Int32), 125), ((107 : Int32), 151), ((110 : Int32), 104), ((119 : Int32), 202)], [some (.ref 1), some (.ref 11), some (.int v2), w3], [], (197, i, (zRF b), l)) := by
  exact ze_lookup zm60 dX8_tell_52 (by decide) (sw_60_52 _)
theorem b60_104 (sc : zScr) (v2 : Int32) (w3 : Option Value) (i : Nat → Nat → Int32) (b : Bool) (l : Nat → Nat → Int64) : zev sc (60, 104, [some (.ref 1), some (.ref 11), some (.int v2), w3], [], (197, i, (zRF b), l)) = if v2 = 0 then zev sc (60, 108, [some (.ref 1), some (.ref 11), some (.int v2), w3], [], (197, i, (zRF b), l)) else zev sc (60, 120, [some (.ref 1), some (.ref 11), some (.int v2), w3], [], (197, i, (zRF b), l)) := by
  refine (ze_iload_n 105 zm60 dX8_tell_104 rfl rfl).trans ?_
  exact ze_if_ne 120 108 zm60 dX8_tell_105 (by decide) rfl
theorem b60_108 (sc : zScr) (v2 : Int32) (w3 : Option Value) (i : Nat → Nat → Int32) (b : Bool) (l : Nat → Nat → Int64) : zev sc (60, 108, [some (.ref 1), some (.ref 11), some (.int v2), w3], [], (197, i, (zRF b), l)) = (zev sc (61, 0, [some (.ref 1), some (.ref 11)], [], (197, i, (zRF b), l))).bind (fun x => zev sc (60, 113, [some (.ref 1), some (.ref 11), some (.int v2), w3], [x.1], x.2)) := by
  refine (ze_aload_n 109 zm60 dX8_tell_108 rfl rfl).trans ?_
  refine (ze_aload_n 110 zm60 dX8_tell_109 rfl rfl).trans ?_
  exact ze_virtI (as := [.ref 11]) (rest := []) 113 zm60 dX8_tell_110 r8_40 zm61 rfl rfl k1_8 rfl rfl rfl rfl
theorem b60_113 (sc : zScr) (v2 : Int32) (w3 : Option Value) (s0 : Int32) (i : Nat → Nat → Int32) (b : Bool) (l : Nat → Nat → Int64) : zev sc (60, 113, [some (.ref 1), some (.ref 11), some (.int v2), w3], [.int s0], (197, i, (zRF b), l)) = if s0 = 0 then zev sc (60, 120, [some (.ref 1), some (.ref 11), some (.int v2), w3], [], (197, i, (zRF b), l)) else zev sc (60, 116, [some (.ref 1), some (.ref 11), some (.int v2), w3], [], (197, i, (zRF b), l)) := by
  exact ze_if_eq 120 116 zm60 dX8_tell_113 (by decide) rfl
theorem b60_116 (sc : zScr) (v2 : Int32) (w3 : Option Value) (i : Nat → Nat → Int32) (b : Bool) (l : Nat → Nat → Int64) : zev sc (60, 116, [some (.ref 1), some (.ref 11), some (.int v2), w3], [], (197, i, (zRF b), l)) = zev sc (60, 121, [some (.ref 1), some (.ref 11), some (.int v2), w3], [.int (1 : Int32)], (197, i, (zRF b), l)) := by
  refine (ze_iconst 117 zm60 dX8_tell_116 ci_1 rfl).trans ?_
  exact ze_goto 121 zm60 dX8_tell_117 (by decide)
theorem b60_120 (sc : zScr) (v2 : Int32) (w3 : Option Value) (i : Nat → Nat → Int32) (b : Bool) (l : Nat → Nat → Int64) : zev sc (60, 120, [some (.ref 1), some (.ref 11), some (.int v2), w3], [], (197, i, (zRF b), l)) = zev sc (60, 121, [some (.ref 1), some (.ref 11), some (.int v2), w3], [.int (0 : Int32)], (197, i, (zRF b), l)) := by
  refine (ze_iconst 121 zm60 dX8_tell_120 ci_0 rfl).trans ?_
  rfl
theorem b60_121 (sc : zScr) (v2 : Int32) (w3 : Option Value) (s0 : Int32) (i : Nat → Nat → Int32) (b : Bool) (l : Nat → Nat → Int64) : zev sc (60, 121, [some (.ref 1), some (.ref 11), some (.int v2), w3], [.int s0], (197, i, (zRF b), l)) = zev sc (60, 228, [some (.ref 1), some (.ref 11), some (.int v2), some (.int s0)], [], (197, i, (zRF b), l)) := by
  refine (ze_istore_n (A := 99) (ls' := [some (.ref 1), some (.ref 11), some (.int v2), some (.int s0)]) 122 zm60 dX8_tell_121 za60 rfl rfl rfl rfl rfl).trans ?_
  exact ze_goto 228 zm60 dX8_tell_122 (by decide)
theorem b60_125 (sc : zScr) (v2 : Int32) (w3 : Option Value) (i : Nat → Nat → Int32) (b : Bool) (l : Nat → Nat → Int64) : zev sc (60, 125, [some (.ref 1), some (.ref 11), some (.int v2), w3], [], (197, i, (zRF b), l)) = if (8 : Int32) ≤ (i 11 1) then zev sc (60, 146, [some (.ref 1), some (.ref 11), some (.int v2), w3], [], (197, i, (zRF b), l)) else zev sc (60, 134, [some (.ref 1), some (.ref 11), some (.int v2), w3], [], (197, i, (zRF b), l)) := by
  refine (ze_aload_n 126 zm60 dX8_tell_125 rfl rfl).trans ?_
  refine (ze_getI 129 zm60 dX8_tell_126 f8_44 k11_4 (Or.inl t4_1) rfl).trans ?_
  refine (ze_bipush 131 zm60 dX8_tell_129 cb_8 rfl).trans ?_
  exact ze_icmp_ge 146 134 zm60 dX8_tell_131 (by decide) rfl
theorem b60_134 (sc : zScr) (v2 : Int32) (w3 : Option Value) (i : Nat → Nat → Int32) (b : Bool) (l : Nat → Nat → Int64) : zev sc (60, 134, [some (.ref 1), some (.ref 11), some (.int v2), w3], [], (197, i, (zRF b), l)) = (zev sc (62, 0, [some (.ref 1), some (.ref 11), none], [], (197, i, (zRF b), l))).bind (fun x => zev sc (60, 139, [some (.ref 1), some (.ref 11), some (.int v2), w3], [x.1], x.2)) := by
  refine (ze_aload_n 135 zm60 dX8_tell_134 rfl rfl).trans ?_
  refine (ze_aload_n 136 zm60 dX8_tell_135 rfl rfl).trans ?_
  exact ze_virtI (as := [.ref 11]) (rest := []) 139 zm60 dX8_tell_136 r8_47 zm62 rfl rfl k1_8 rfl rfl rfl rfl
theorem b60_139 (sc : zScr) (v2 : Int32) (w3 : Option Value) (s0 : Int32) (i : Nat → Nat → Int32) (b : Bool) (l : Nat → Nat → Int64) : zev sc (60, 139, [some (.ref 1), some (.ref 11), some (.int v2), w3], [.int s0], (197, i, (zRF b), l)) = if s0 = 0 then zev sc (60, 146, [some (.ref 1), some (.ref 11), some (.int v2), w3], [], (197, i, (zRF b), l)) else zev sc (60, 142, [some (.ref 1), some (.ref 11), some (.int v2), w3], [], (197, i, (zRF b), l)) := by
  exact ze_if_eq 146 142 zm60 dX8_tell_139 (by decide) rfl
theorem b60_142 (sc : zScr) (v2 : Int32) (w3 : Option Value) (i : Nat → Nat → Int32) (b : Bool) (l : Nat → Nat → Int64) : zev sc (60, 142, [some (.ref 1), some (.ref 11), some (.int v2), w3], [], (197, i, (zRF b), l)) = zev sc (60, 147, [some (.ref 1), some (.ref 11), some (.int v2), w3], [.int (1 : Int32)], (197, i, (zRF b), l)) := by
  refine (ze_iconst 143 zm60 dX8_tell_142 ci_1 rfl).trans ?_
  exact ze_goto 147 zm60 dX8_tell_143 (by decide)
theorem b60_146 (sc : zScr) (v2 : Int32) (w3 : Option Value) (i : Nat → Nat → Int32) (b : Bool) (l : Nat → Nat → Int64) : zev sc (60, 146, [some (.ref 1), some (.ref 11), some (.int v2), w3], [], (197, i, (zRF b), l)) = zev sc (60, 147, [some (.ref 1), some (.ref 11), some (.int v2), w3], [.int (0 : Int32)], (197, i, (zRF b), l)) := by
  refine (ze_iconst 147 zm60 dX8_tell_146 ci_0 rfl).trans ?_
  rfl
theorem b60_147 (sc : zScr) (v2 : Int32) (w3 : Option Value) (s0 : Int32) (i : Nat → Nat → Int32) (b : Bool) (l : Nat → Nat → Int64) : zev sc (60, 147, [some (.ref 1), some (.ref 11), some (.int v2), w3], [.int s0], (197, i, (zRF b), l)) = zev sc (60, 228, [some (.ref 1), some (.ref 11), some (.int v2), some (.int s0)], [], (197, i, (zRF b), l)) := by
  refine (ze_istore_n (A := 99) (ls' := [some (.ref 1), some (.ref 11), some (.int v2), some (.int s0)]) 148 zm60 dX8_tell_147 za60 rfl rfl rfl rfl rfl).trans ?_
  exact ze_goto 228 zm60 dX8_tell_148 (by decide)
theorem b60_151 (sc : zScr) (v2 : Int32) (w3 : Option Value) (i : Nat → Nat → Int32) (b : Bool) (l : Nat → Nat → Int64) : zev sc (60, 151, [some (.ref 1), some (.ref 11), some (.int v2), w3], [], (197, i, (zRF b), l)) = if (4 : Int32) ≤ (i 11 5) then zev sc (60, 171, [some (.ref 1), some (.ref 11), some (.int v2), w3], [], (197, i, (zRF b), l)) else zev sc (60, 159, [some (.ref 1), some (.ref 11), some (.int v2), w3], [], (197, i, (zRF b), l)) := by
  refine (ze_aload_n 152 zm60 dX8_tell_151 rfl rfl).trans ?_
  refine (ze_getI 155 zm60 dX8_tell_152 f8_50 k11_4 (Or.inl t4_5) rfl).trans ?_
  refine (ze_iconst 156 zm60 dX8_tell_155 ci_4 rfl).trans ?_
  exact ze_icmp_ge 171 159 zm60 dX8_tell_156 (by decide) rfl
theorem b60_159 (sc : zScr) (v2 : Int32) (w3 : Option Value) (i : Nat → Nat → Int32) (b : Bool) (l : Nat → Nat → Int64) : zev sc (60, 159, [some (.ref 1), some (.ref 11), some (.int v2), w3], [], (197, i, (zRF b), l)) = (zev sc (63, 0, [some (.ref 1), some (.ref 11), none], [], (197, i, (zRF b), l))).bind (fun x => zev sc (60, 164, [some (.ref 1), some (.ref 11), some (.int v2), w3], [x.1], x.2)) := by
  refine (ze_aload_n 160 zm60 dX8_tell_159 rfl rfl).trans ?_
  refine (ze_aload_n 161 zm60 dX8_tell_160 rfl rfl).trans ?_
  exact ze_virtI (as := [.ref 11]) (rest := []) 164 zm60 dX8_tell_161 r8_53 zm63 rfl rfl k1_8 rfl rfl rfl rfl
theorem b60_164 (sc : zScr) (v2 : Int32) (w3 : Option Value) (s0 : Int32) (i : Nat → Nat → Int32) (b : Bool) (l : Nat → Nat → Int64) : zev sc (60, 164, [some (.ref 1), some (.ref 11), some (.int v2), w3], [.int s0], (197, i, (zRF b), l)) = if s0 = 0 then zev sc (60, 171, [some (.ref 1), some (.ref 11), some (.int v2), w3], [], (197, i, (zRF b), l)) else zev sc (60, 167, [some (.ref 1), some (.ref 11), some (.int v2), w3], [], (197, i, (zRF b), l)) := by
  exact ze_if_eq 171 167 zm60 dX8_tell_164 (by decide) rfl
theorem b60_167 (sc : zScr) (v2 : Int32) (w3 : Option Value) (i : Nat → Nat → Int32) (b : Bool) (l : Nat → Nat → Int64) : zev sc (60, 167, [some (.ref 1), some (.ref 11), some (.int v2), w3], [], (197, i, (zRF b), l)) = zev sc (60, 172, [some (.ref 1), some (.ref 11), some (.int v2), w3], [.int (1 : Int32)], (197, i, (zRF b), l)) := by
  refine (ze_iconst 168 zm60 dX8_tell_167 ci_1 rfl).trans ?_
  exact ze_goto 172 zm60 dX8_tell_168 (by decide)
theorem b60_171 (sc : zScr) (v2 : Int32) (w3 : Option Value) (i : Nat → Nat → Int32) (b : Bool) (l : Nat → Nat → Int64) : zev sc (60, 171, [some (.ref 1), some (.ref 11), some (.int v2), w3], [], (197, i, (zRF b), l)) = zev sc (60, 172, [some (.ref 1), some (.ref 11), some (.int v2), w3], [.int (0 : Int32)], (197, i, (zRF b), l)) := by
  refine (ze_iconst 172 zm60 dX8_tell_171 ci_0 rfl).trans ?_
  rfl
theorem b60_172 (sc : zScr) (v2 : Int32) (w3 : Option Value) (s0 : Int32) (i : Nat → Nat → Int32) (b : Bool) (l : Nat → Nat → Int64) : zev sc (60, 172, [some (.ref 1), some (.ref 11), some (.int v2), w3], [.int s0], (197, i, (zRF b), l)) = zev sc (60, 228, [some (.ref 1), some (.ref 11), some (.int v2), some (.int s0)], [], (197, i, (zRF b), l)) := by
  refine (ze_istore_n (A := 99) (ls' := [some (.ref 1), some (.ref 11), some (.int v2), some (.int s0)]) 173 zm60 dX8_tell_172 za60 rfl rfl rfl rfl rfl).trans ?_
  exact ze_goto 228 zm60 dX8_tell_173 (by decide)
theorem b60_176 (sc : zScr) (v2 : Int32) (w3 : Option Value) (i : Nat → Nat → Int32) (b : Bool) (l : Nat → Nat → Int64) : zev sc (60, 176, [some (.ref 1), some (.ref 11), some (.int v2), w3], [], (197, i, (zRF b), l)) = if (6 : Int32) ≤ (i 11 8) then zev sc (60, 197, [some (.ref 1), some (.ref 11), some (.int v2), w3], [], (197, i, (zRF b), l)) else zev sc (60, 185, [some (.ref 1), some (.ref 11), some (.int v2), w3], [], (197, i, (zRF b), l)) := by
  refine (ze_aload_n 177 zm60 dX8_tell_176 rfl rfl).trans ?_
  refine (ze_getI 180 zm60 dX8_tell_177 f8_56 k11_4 (Or.inl t4_8) rfl).trans ?_
  refine (ze_bipush 182 zm60 dX8_tell_180 cb_6 rfl).trans ?_
  exact ze_icmp_ge 197 185 zm60 dX8_tell_182 (by decide) rfl
theorem b60_185 (sc : zScr) (v2 : Int32) (w3 : Option Value) (i : Nat → Nat → Int32) (b : Bool) (l : Nat → Nat → Int64) : zev sc (60, 185, [some (.ref 1), some (.ref 11), some (.int v2), w3], [], (197, i, (zRF b), l)) = (zev sc (64, 0, [some (.ref 1), some (.ref 11), none], [], (197, i, (zRF b), l))).bind (fun x => zev sc (60, 190, [some (.ref 1), some (.ref 11), some (.int v2), w3], [x.1], x.2)) := by
  refine (ze_aload_n 186 zm60 dX8_tell_185 rfl rfl).trans ?_
  refine (ze_aload_n 187 zm60 dX8_tell_186 rfl rfl).trans ?_
  exact ze_virtI (as := [.ref 11]) (rest := []) 190 zm60 dX8_tell_187 r8_59 zm64 rfl rfl k1_8 rfl rfl rfl rfl
theorem b60_190 (sc : zScr) (v2 : Int32) (w3 : Option Value) (s0 : Int32) (i : Nat → Nat → Int32) (b : Bool) (l : Nat → Nat → Int64) : zev sc (60, 190, [some (.ref 1), some (.ref 11), some (.int v2), w3], [.int s0], (197, i, (zRF b), l)) = if s0 = 0 then zev sc (60, 197, [some (.ref 1), some (.ref 11), some (.int v2), w3], [], (197, i, (zRF b), l)) else zev sc (60, 193, [some (.ref 1), some (.ref 11), some (.int v2), w3], [], (197, i, (zRF b), l)) := by
  exact ze_if_eq 197 193 zm60 dX8_tell_190 (by decide) rfl
theorem b60_193 (sc : zScr) (v2 : Int32) (w3 : Option Value) (i : Nat → Nat → Int32) (b : Bool) (l : Nat → Nat → Int64) : zev sc (60, 193, [some (.ref 1), some (.ref 11), some (.int v2), w3], [], (197, i, (zRF b), l)) = zev sc (60, 198, [some (.ref 1), some (.ref 11), some (.int v2), w3], [.int (1 : Int32)], (197, i, (zRF b), l)) := by
  refine (ze_iconst 194 zm60 dX8_tell_193 ci_1 rfl).trans ?_
  exact ze_goto 198 zm60 dX8_tell_194 (by decide)
theorem b60_197 (sc : zScr) (v2 : Int32) (w3 : Option Value) (i : Nat → Nat → Int32) (b : Bool) (l : Nat → Nat → Int64) : zev sc (60, 197, [some (.ref 1), some (.ref 11), some (.int v2), w3], [], (197, i, (zRF b), l)) = zev sc (60, 198, [some (.ref 1), some (.ref 11), some (.int v2), w3], [.int (0 : Int32)], (197, i, (zRF b), l)) := by
  refine (ze_iconst 198 zm60 dX8_tell_197 ci_0 rfl).trans ?_
  rfl
theorem b60_198 (sc : zScr) (v2 : Int32) (w3 : Option Value) (s0 : Int32) (i : Nat → Nat → Int32) (b : Bool) (l : Nat → Nat → Int64) : zev sc (60, 198, [some (.ref 1), some (.ref 11), some (.int v2), w3], [.int s0], (197, i, (zRF b), l)) = zev sc (60, 228, [some (.ref 1), some (.ref 11), some (.int v2), some (.int s0)], [], (197, i, (zRF b), l)) := by
  refine (ze_istore_n (A := 99) (ls' := [some (.ref 1), some (.ref 11), some (.int v2), some (.int s0)]) 199 zm60 dX8_tell_198 za60 rfl rfl rfl rfl rfl).trans ?_
  exact ze_goto 228 zm60 dX8_tell_199 (by decide)
theorem b60_202 (sc : zScr) (v2 : Int32) (w3 : Option Value) (i : Nat → Nat → Int32) (b : Bool) (l : Nat → Nat → Int64) : zev sc (60, 202, [some (.ref 1), some (.ref 11), some (.int v2), w3], [], (197, i, (zRF b), l)) = if (i 1 6) = 0 then zev sc (60, 209, [some (.ref 1), some (.ref 11), some (.int v2), w3], [], (197, i, (zRF b), l)) else zev sc (60, 221, [some (.ref 1), some (.ref 11), some (.int v2), w3], [], (197, i, (zRF b), l)) := by
  refine (ze_aload_n 203 zm60 dX8_tell_202 rfl rfl).trans ?_
  refine (ze_getI 206 zm60 dX8_tell_203 f8_27 k1_8 (Or.inr t8_6) rfl).trans ?_
  exact ze_if_ne 221 209 zm60 dX8_tell_206 (by decide) rfl
theorem b60_209 (sc : zScr) (v2 : Int32) (w3 : Option Value) (i : Nat → Nat → Int32) (b : Bool) (l : Nat → Nat → Int64) : zev sc (60, 209, [some (.ref 1), some (.ref 11), some (.int v2), w3], [], (197, i, (zRF b), l)) = (zev sc (65, 0, [some (.ref 1), some (.ref 11)], [], (197, i, (zRF b), l))).bind (fun x => zev sc (60, 214, [some (.ref 1), some (.ref 11), some (.int v2), w3], [x.1], x.2)) := by
  refine (ze_aload_n 210 zm60 dX8_tell_209 rfl rfl).trans ?_
  refine (ze_aload_n 211 zm60 dX8_tell_210 rfl rfl).trans ?_
  exact ze_virtI (as := [.ref 11]) (rest := []) 214 zm60 dX8_tell_211 r8_62 zm65 rfl rfl k1_8 rfl rfl rfl rfl
theorem b60_214 (sc : zScr) (v2 : Int32) (w3 : Option Value) (s0 : Int32) (i : Nat → Nat → Int32) (b : Bool) (l : Nat → Nat → Int64) : zev sc (60, 214, [some (.ref 1), some (.ref 11), some (.int v2), w3], [.int s0], (197, i, (zRF b), l)) = if s0 = 0 then zev sc (60, 221, [some (.ref 1), some (.ref 11), some (.int v2), w3], [], (197, i, (zRF b), l)) else zev sc (60, 217, [some (.ref 1), some (.ref 11), some (.int v2), w3], [], (197, i, (zRF b), l)) := by
  exact ze_if_eq 221 217 zm60 dX8_tell_214 (by decide) rfl
theorem b60_217 (sc : zScr) (v2 : Int32) (w3 : Option Value) (i : Nat → Nat → Int32) (b : Bool) (l : Nat → Nat → Int64) : zev sc (60, 217, [some (.ref 1), some (.ref 11), some (.int v2), w3], [], (197, i, (zRF b), l)) = zev sc (60, 222, [some (.ref 1), some (.ref 11), some (.int v2), w3], [.int (1 : Int32)], (197, i, (zRF b), l)) := by
  refine (ze_iconst 218 zm60 dX8_tell_217 ci_1 rfl).trans ?_
  exact ze_goto 222 zm60 dX8_tell_218 (by decide)
theorem b60_221 (sc : zScr) (v2 : Int32) (w3 : Option Value) (i : Nat → Nat → Int32) (b : Bool) (l : Nat → Nat → Int64) : zev sc (60, 221, [some (.ref 1), some (.ref 11), some (.int v2), w3], [], (197, i, (zRF b), l)) = zev sc (60, 222, [some (.ref 1), some (.ref 11), some (.int v2), w3], [.int (0 : Int32)], (197, i, (zRF b), l)) := by
  refine (ze_iconst 222 zm60 dX8_tell_221 ci_0 rfl).trans ?_
  rfl
theorem b60_222 (sc : zScr) (v2 : Int32) (w3 : Option Value) (s0 : Int32) (i : Nat → Nat → Int32) (b : Bool) (l : Nat → Nat → Int64) : zev sc (60, 222, [some (.ref 1), some (.ref 11), some (.int v2), w3], [.int s0], (197, i, (zRF b), l)) = zev sc (60, 228, [some (.ref 1), some (.ref 11), some (.int v2), some (.int s0)], [], (197, i, (zRF b), l)) := by
  refine (ze_istore_n (A := 99) (ls' := [some (.ref 1), some (.ref 11), some (.int v2), some (.int s0)]) 223 zm60 dX8_tell_222 za60 rfl rfl rfl rfl rfl).trans ?_
  exact ze_goto 228 zm60 dX8_tell_223 (by decide)
theorem b60_226 (sc : zScr) (v2 : Int32) (w3 : Option Value) (i : Nat → Nat → Int32) (b : Bool) (l : Nat → Nat → Int64) : zev sc (60, 226, [some (.ref 1), some (.ref 11), some (.int v2), w3], [], (197, i, (zRF b), l)) = zev sc (60, 228, [some (.ref 1), some (.ref 11), some (.int v2), some (.int (0 : Int32))], [], (197, i, (zRF b), l)) := by
  refine (ze_iconst 227 zm60 dX8_tell_226 ci_0 rfl).trans ?_
  refine (ze_istore_n (A := 99) (ls' := [some (.ref 1), some (.ref 11), some (.int v2), some (.int (0 : Int32))]) 228 zm60 dX8_tell_227 za60 rfl rfl rfl rfl rfl).trans ?_
  rfl
theorem b60_228 (sc : zScr) (v2 : Int32) (v3 : Int32) (i : Nat → Nat → Int32) (b : Bool) (l : Nat → Nat → Int64) : zev sc (60, 228, [some (.ref 1), some (.ref 11), some (.int v2), some (.int v3)], [], (197, i, (zRF b), l)) = if v3 = 0 then zev sc (60, 239, [some (.ref 1), some (.ref 11), some (.int v2), some (.int v3)], [], (197, i, (zRF b), l)) else zev sc (60, 232, [some (.ref 1), some (.ref 11), some (.int v2), some (.int v3)], [], (197, i, (zRF b), l)) := by
  refine (ze_iload_n 229 zm60 dX8_tell_228 rfl rfl).trans ?_
  exact ze_if_eq 239 232 zm60 dX8_tell_229 (by decide) rfl
theorem b60_232 (sc : zScr) (v2 : Int32) (v3 : Int32) (i : Nat → Nat → Int32) (b : Bool) (l : Nat → Nat → Int64) : zev sc (60, 232, [some (.ref 1), some (.ref 11), some (.int v2), some (.int v3)], [], (197, i, (zRF b), l)) = (zev sc (67, 0, [some (.ref 1)], [], (197, i, (zRF b), l))).bind (fun x => zev sc (60, 236, [some (.ref 1), some (.ref 11), some (.int v2), some (.int v3)], [x.1], x.2)) := by
  refine (ze_aload_n 233 zm60 dX8_tell_232 rfl rfl).trans ?_
  exact ze_virtI (as := []) (rest := []) 236 zm60 dX8_tell_233 r8_65 zm67 rfl rfl k1_8 rfl rfl rfl rfl
theorem b60_236 (sc : zScr) (v2 : Int32) (v3 : Int32) (s0 : Int32) (i : Nat → Nat → Int32) (b : Bool) (l : Nat → Nat → Int64) : zev sc (60, 236, [some (.ref 1), some (.ref 11), some (.int v2), some (.int v3)], [.int s0], (197, i, (zRF b), l)) = if s0 = 0 then zev sc (60, 239, [some (.ref 1), some (.ref 11), some (.int v2), some (.int v3)], [], (197, i, (zRF b), l)) else zev sc (60, 247, [some (.ref 1), some (.ref 11), some (.int v2), some (.int v3)], [], (197, i, (zRF b), l)) := by
  exact ze_if_ne 247 239 zm60 dX8_tell_236 (by decide) rfl
theorem b60_239 (sc : zScr) (v2 : Int32) (v3 : Int32) (i : Nat → Nat → Int32) (b : Bool) (l : Nat → Nat → Int64) : zev sc (60, 239, [some (.ref 1), some (.ref 11), some (.int v2), some (.int v3)], [], (197, i, (zRF b), l)) = some (.int ((-10 : Int32) - (i 1 4)), (197, i, (zRF b), l)) := by
  refine (ze_bipush 241 zm60 dX8_tell_239 cb_m10 rfl).trans ?_
  refine (ze_aload_n 242 zm60 dX8_tell_241 rfl rfl).trans ?_
  refine (ze_getI 245 zm60 dX8_tell_242 f8_69 k1_8 (Or.inl t8_4) rfl).trans ?_
  refine (ze_isub 246 zm60 dX8_tell_245 rfl).trans ?_
  exact ze_ireturn zm60 dX8_tell_246 rfl
theorem b60_247 (sc : zScr) (v2 : Int32) (v3 : Int32) (i : Nat → Nat → Int32) (b : Bool) (l : Nat → Nat → Int64) : zev sc (60, 247, [some (.ref 1), some (.ref 11), some (.int v2), some (.int v3)], [], (197, i, (zRF b), l)) = zev sc (60, 16, [some (.ref 1), some (.ref 11), some (.int (v2 + 1)), some (.int v3)], [], (197, i, (zRF b), l)) := by
  refine (ze_iinc (v := (1 : Int32)) (A := 99) (ls' := [some (.ref 1), some (.ref 11), some (.int (v2 + 1)), some (.int v3)]) 250 zm60 dX8_tell_247 rfl ci_1 za60 rfl rfl rfl rfl rfl).trans ?_
  exact ze_goto 16 zm60 dX8_tell_250 (by decide)
theorem b60_253 (sc : zScr) (v2 : Int32) (w3 : Option Value) (i : Nat → Nat → Int32) (b : Bool) (l : Nat → Nat → Int64) : zev sc (60, 253, [some (.ref 1), some (.ref 11), some (.int v2), w3], [], (197, i, (zRF b), l)) = some (.int ((-10 : Int32) - (i 1 4)), (197, i, (zRF b), l)) := by
  refine (ze_bipush 255 zm60 dX8_tell_253 cb_m10 rfl).trans ?_
  refine (ze_aload_n 256 zm60 dX8_tell_255 rfl rfl).trans ?_
  refine (ze_getI 259 zm60 dX8_tell_256 f8_69 k1_8 (Or.inl t8_4) rfl).trans ?_
  refine (ze_isub 260 zm60 dX8_tell_259 rfl).trans ?_
  exact ze_ireturn zm60 dX8_tell_260 rfl
/-! HarpFences$Text.tellsFields (LHarpFences$Land;)Z: method 61 -/
theorem b61_0 (sc : zScr) (i : Nat → Nat → Int32) (b : Bool) (l : Nat → Nat → Int64) : zev sc (61, 0, [some (.ref 1), some (.ref 11)], [], (197, i, (zRF b), l)) = (zev sc (66, 0, [some (.ref 1), some (.int (1 : Int32)), some (.int (8 : Int32))], [], (197, i, (zRF b), l))).bind (fun x => zev sc (61, 7, [some (.ref 1), some (.ref 11)], [x.1], x.2)) := by
  refine (ze_aload_n 1 zm61 dX8_tellsFields_0 rfl rfl).trans ?_
  refine (ze_iconst 2 zm61 dX8_tellsFields_1 ci_1 rfl).trans ?_
  refine (ze_bipush 4 zm61 dX8_tellsFields_2 cb_8 rfl).trans ?_
  exact ze_virtI (as := [.int (1 : Int32), .int (8 : Int32)]) (rest := []) 7 zm61 dX8_tellsFields_4 r8_72 zm66 rfl rfl k1_8 rfl rfl rfl rfl
theorem b61_7 (sc : zScr) (s0 : Int32) (i : Nat → Nat → Int32) (b : Bool) (l : Nat → Nat → Int64) : zev sc (61, 7, [some (.ref 1), some (.ref 11)], [.int s0], (197, i, (zRF b), l)) = if s0 = 0 then zev sc (61, 10, [some (.ref 1), some (.ref 11)], [], (197, i, (zRF b), l)) else zev sc (61, 12, [some (.ref 1), some (.ref 11)], [], (197, i, (zRF b), l)) := by
  exact ze_if_ne 12 10 zm61 dX8_tellsFields_7 (by decide) rfl
theorem b61_10 (sc : zScr) (i : Nat → Nat → Int32) (b : Bool) (l : Nat → Nat → Int64) : zev sc (61, 10, [some (.ref 1), some (.ref 11)], [], (197, i, (zRF b), l)) = some (.int (0 : Int32), (197, i, (zRF b), l)) := by
  refine (ze_iconst 11 zm61 dX8_tellsFields_10 ci_0 rfl).trans ?_
  exact ze_zreturn zm61 dX8_tellsFields_11 rfl (Or.inl rfl)
theorem b61_12 (sc : zScr) (i : Nat → Nat → Int32) (b : Bool) (l : Nat → Nat → Int64) : zev sc (61, 12, [some (.ref 1), some (.ref 11)], [], (197, i, (zRF b), l)) = some (.int (1 : Int32), (197, (zU i 11 0 (i 1 5)), (zRF b), l)) := by
  refine (ze_aload_n 13 zm61 dX8_tellsFields_12 rfl rfl).trans ?_
  refine (ze_aload_n 14 zm61 dX8_tellsFields_13 rfl rfl).trans ?_
  refine (ze_getI 17 zm61 dX8_tellsFields_14 f8_37 k1_8 (Or.inl t8_5) rfl).trans ?_
  refine (ze_putI 20 zm61 dX8_tellsFields_17 f8_76 k11_4 (Or.inl fn4_0) t4_0 rfl).trans ?_
  refine (ze_iconst 21 zm61 dX8_tellsFields_20 ci_1 rfl).trans ?_
  exact ze_zreturn zm61 dX8_tellsFields_21 rfl (Or.inr rfl)
/-! HarpFences$Text.tellsFence (LHarpFences$Land;)Z: method 62 -/
theorem b62_0 (sc : zScr) (i : Nat → Nat → Int32) (b : Bool) (l : Nat → Nat → Int64) : zev sc (62, 0, [some (.ref 1), some (.ref 11), none], [], (197, i, (zRF b), l)) = (zev sc (66, 0, [some (.ref 1), some (.int (0 : Int32)), some (.int ((i 11 0) - (1 : Int32)))], [], (197, i, (zRF b), l))).bind (fun x => zev sc (62, 16, [some (.ref 1), some (.ref 11), some (.int (i 11 1))], [x.1], x.2)) := by
  refine (ze_aload_n 1 zm62 dX8_tellsFence_0 rfl rfl).trans ?_
  refine (ze_getI 4 zm62 dX8_tellsFence_1 f8_44 k11_4 (Or.inl t4_1) rfl).trans ?_
  refine (ze_istore_n (A := 99) (ls' := [some (.ref 1), some (.ref 11), some (.int (i 11 1))]) 5 zm62 dX8_tellsFence_4 za62 rfl rfl rfl rfl rfl).trans ?_
  refine (ze_aload_n 6 zm62 dX8_tellsFence_5 rfl rfl).trans ?_
  refine (ze_iconst 7 zm62 dX8_tellsFence_6 ci_0 rfl).trans ?_
  refine (ze_aload_n 8 zm62 dX8_tellsFence_7 rfl rfl).trans ?_
  refine (ze_getI 11 zm62 dX8_tellsFence_8 f8_76 k11_4 (Or.inl t4_0) rfl).trans ?_
  refine (ze_iconst 12 zm62 dX8_tellsFence_11 ci_1 rfl).trans ?_
  refine (ze_isub 13 zm62 dX8_tellsFence_12 rfl).trans ?_
  exact ze_virtI (as := [.int (0 : Int32), .int ((i 11 0) - (1 : Int32))]) (rest := []) 16 zm62 dX8_tellsFence_13 r8_72 zm66 rfl rfl k1_8 rfl rfl rfl rfl
theorem b62_16 (sc : zScr) (v2 : Int32) (s0 : Int32) (i : Nat → Nat → Int32) (b : Bool) (l : Nat → Nat → Int64) : zev sc (62, 16, [some (.ref 1), some (.ref 11), some (.int v2)], [.int s0], (197, i, (zRF b), l)) = if s0 = 0 then zev sc (62, 19, [some (.ref 1), some (.ref 11), some (.int v2)], [], (197, i, (zRF b), l)) else zev sc (62, 21, [some (.ref 1), some (.ref 11), some (.int v2)], [], (197, i, (zRF b), l)) := by
  exact ze_if_ne 21 19 zm62 dX8_tellsFence_16 (by decide) rfl
theorem b62_19 (sc : zScr) (v2 : Int32) (i : Nat → Nat → Int32) (b : Bool) (l : Nat → Nat → Int64) : zev sc (62, 19, [some (.ref 1), some (.ref 11), some (.int v2)], [], (197, i, (zRF b), l)) = some (.int (0 : Int32), (197, i, (zRF b), l)) := by
  refine (ze_iconst 20 zm62 dX8_tellsFence_19 ci_0 rfl).trans ?_
  exact ze_zreturn zm62 dX8_tellsFence_20 rfl (Or.inl rfl)
theorem b62_21 (sc : zScr) (v2 : Int32) (i : Nat → Nat → Int32) (b : Bool) (l : Nat → Nat → Int64) (h1 : vp_in v2 8) : zev sc (62, 21, [some (.ref 1), some (.ref 11), some (.int v2)], [], (197, i, (zRF b), l)) = (zev sc (66, 0, [some (.ref 1), some (.int (0 : Int32)), some (.int (((zU i 12 v2.toNatClampNeg (i 1 5)) 11 0) - (1 : Int32)))], [], (197, (zU i 12 v2.toNatClampNeg (i 1 5)), (zRF b), l))).bind (fun x => zev sc (62, 42, [some (.ref 1), some (.ref 11), some (.int v2)], [x.1], x.2)) := by
  refine (ze_aload_n 22 zm62 dX8_tellsFence_21 rfl rfl).trans ?_
  refine (ze_getR 25 zm62 dX8_tellsFence_22 f8_79 k11_4 t4_2 (rr11_2 b) rfl).trans ?_
  refine (ze_iload_n 26 zm62 dX8_tellsFence_25 rfl rfl).trans ?_
  refine (ze_aload_n 27 zm62 dX8_tellsFence_26 rfl rfl).trans ?_
  refine (ze_getI 30 zm62 dX8_tellsFence_27 f8_37 k1_8 (Or.inl t8_5) rfl).trans ?_
  refine (ze_iastore (t := v2.toNatClampNeg) 31 zm62 dX8_tellsFence_30 k12_100 n12 h1 rfl rfl).trans ?_
  refine (ze_aload_n 32 zm62 dX8_tellsFence_31 rfl rfl).trans ?_
  refine (ze_iconst 33 zm62 dX8_tellsFence_32 ci_0 rfl).trans ?_
  refine (ze_aload_n 34 zm62 dX8_tellsFence_33 rfl rfl).trans ?_
  refine (ze_getI 37 zm62 dX8_tellsFence_34 f8_76 k11_4 (Or.inl t4_0) rfl).trans ?_
  refine (ze_iconst 38 zm62 dX8_tellsFence_37 ci_1 rfl).trans ?_
  refine (ze_isub 39 zm62 dX8_tellsFence_38 rfl).trans ?_
  exact ze_virtI (as := [.int (0 : Int32), .int (((zU i 12 v2.toNatClampNeg (i 1 5)) 11 0) - (1 : Int32))]) (rest := []) 42 zm62 dX8_tellsFence_39 r8_72 zm66 rfl rfl k1_8 rfl rfl rfl rfl
theorem b62_42 (sc : zScr) (v2 : Int32) (s0 : Int32) (i : Nat → Nat → Int32) (b : Bool) (l : Nat → Nat → Int64) : zev sc (62, 42, [some (.ref 1), some (.ref 11), some (.int v2)], [.int s0], (197, i, (zRF b), l)) = if s0 = 0 then zev sc (62, 58, [some (.ref 1), some (.ref 11), some (.int v2)], [], (197, i, (zRF b), l)) else zev sc (62, 45, [some (.ref 1), some (.ref 11), some (.int v2)], [], (197, i, (zRF b), l)) := by
  exact ze_if_eq 58 45 zm62 dX8_tellsFence_42 (by decide) rfl
theorem b62_45 (sc : zScr) (v2 : Int32) (i : Nat → Nat → Int32) (b : Bool) (l : Nat → Nat → Int64) (h1 : vp_in v2 8) : zev sc (62, 45, [some (.ref 1), some (.ref 11), some (.int v2)], [], (197, i, (zRF b), l)) = if (i 1 5) = (i 12 v2.toNatClampNeg) then zev sc (62, 58, [some (.ref 1), some (.ref 11), some (.int v2)], [], (197, i, (zRF b), l)) else zev sc (62, 60, [some (.ref 1), some (.ref 11), some (.int v2)], [], (197, i, (zRF b), l)) := by
  refine (ze_aload_n 46 zm62 dX8_tellsFence_45 rfl rfl).trans ?_
  refine (ze_getI 49 zm62 dX8_tellsFence_46 f8_37 k1_8 (Or.inl t8_5) rfl).trans ?_
  refine (ze_aload_n 50 zm62 dX8_tellsFence_49 rfl rfl).trans ?_
  refine (ze_getR 53 zm62 dX8_tellsFence_50 f8_79 k11_4 t4_2 (rr11_2 b) rfl).trans ?_
  refine (ze_iload_n 54 zm62 dX8_tellsFence_53 rfl rfl).trans ?_
  refine (ze_iaload (t := v2.toNatClampNeg) 55 zm62 dX8_tellsFence_54 k12_100 n12 h1 rfl rfl).trans ?_
  exact ze_icmp_ne 60 58 zm62 dX8_tellsFence_55 (by decide) rfl
theorem b62_58 (sc : zScr) (v2 : Int32) (i : Nat → Nat → Int32) (b : Bool) (l : Nat → Nat → Int64) : zev sc (62, 58, [some (.ref 1), some (.ref 11), some (.int v2)], [], (197, i, (zRF b), l)) = some (.int (0 : Int32), (197, i, (zRF b), l)) := by
  refine (ze_iconst 59 zm62 dX8_tellsFence_58 ci_0 rfl).trans ?_
  exact ze_zreturn zm62 dX8_tellsFence_59 rfl (Or.inl rfl)
theorem b62_60 (sc : zScr) (v2 : Int32) (i : Nat → Nat → Int32) (b : Bool) (l : Nat → Nat → Int64) (h1 : vp_in v2 8) : zev sc (62, 60, [some (.ref 1), some (.ref 11), some (.int v2)], [], (197, i, (zRF b), l)) = (zev sc (66, 0, [some (.ref 1), some (.int (0 : Int32)), some (.int (40 : Int32))], [], (197, (zU i 13 v2.toNatClampNeg (i 1 5)), (zRF b), l))).bind (fun x => zev sc (62, 77, [some (.ref 1), some (.ref 11), some (.int v2)], [x.1], x.2)) := by
  refine (ze_aload_n 61 zm62 dX8_tellsFence_60 rfl rfl).trans ?_
  refine (ze_getR 64 zm62 dX8_tellsFence_61 f8_82 k11_4 t4_3 (rr11_3 b) rfl).trans ?_
  refine (ze_iload_n 65 zm62 dX8_tellsFence_64 rfl rfl).trans ?_
  refine (ze_aload_n 66 zm62 dX8_tellsFence_65 rfl rfl).trans ?_
  refine (ze_getI 69 zm62 dX8_tellsFence_66 f8_37 k1_8 (Or.inl t8_5) rfl).trans ?_
  refine (ze_iastore (t := v2.toNatClampNeg) 70 zm62 dX8_tellsFence_69 k13_100 n13 h1 rfl rfl).trans ?_
  refine (ze_aload_n 71 zm62 dX8_tellsFence_70 rfl rfl).trans ?_
  refine (ze_iconst 72 zm62 dX8_tellsFence_71 ci_0 rfl).trans ?_
  refine (ze_bipush 74 zm62 dX8_tellsFence_72 cb_40 rfl).trans ?_
  exact ze_virtI (as := [.int (0 : Int32), .int (40 : Int32)]) (rest := []) 77 zm62 dX8_tellsFence_74 r8_72 zm66 rfl rfl k1_8 rfl rfl rfl rfl
theorem b62_77 (sc : zScr) (v2 : Int32) (s0 : Int32) (i : Nat → Nat → Int32) (b : Bool) (l : Nat → Nat → Int64) : zev sc (62, 77, [some (.ref 1), some (.ref 11), some (.int v2)], [.int s0], (197, i, (zRF b), l)) = if s0 = 0 then zev sc (62, 80, [some (.ref 1), some (.ref 11), some (.int v2)], [], (197, i, (zRF b), l)) else zev sc (62, 82, [some (.ref 1), some (.ref 11), some (.int v2)], [], (197, i, (zRF b), l)) := by
  exact ze_if_ne 82 80 zm62 dX8_tellsFence_77 (by decide) rfl
theorem b62_80 (sc : zScr) (v2 : Int32) (i : Nat → Nat → Int32) (b : Bool) (l : Nat → Nat → Int64) : zev sc (62, 80, [some (.ref 1), some (.ref 11), some (.int v2)], [], (197, i, (zRF b), l)) = some (.int (0 : Int32), (197, i, (zRF b), l)) := by
  refine (ze_iconst 81 zm62 dX8_tellsFence_80 ci_0 rfl).trans ?_
  exact ze_zreturn zm62 dX8_tellsFence_81 rfl (Or.inl rfl)
theorem b62_82 (sc : zScr) (v2 : Int32) (i : Nat → Nat → Int32) (b : Bool) (l : Nat → Nat → Int64) (h1 : vp_in v2 8) : zev sc (62, 82, [some (.ref 1), some (.ref 11), some (.int v2)], [], (197, i, (zRF b), l)) = some (.int (1 : Int32), (197, (zU (zU i 14 v2.toNatClampNeg (i 1 5)) 11 1 (((zU i 14 v2.toNatClampNeg (i 1 5)) 11 1) + (1 : Int32))), (zRF b), l)) := by
  refine (ze_aload_n 83 zm62 dX8_tellsFence_82 rfl rfl).trans ?_
  refine (ze_getR 86 zm62 dX8_tellsFence_83 f8_85 k11_4 t4_4 (rr11_4 b) rfl).trans ?_
  refine (ze_iload_n 87 zm62 dX8_tellsFence_86 rfl rfl).trans ?_
  refine (ze_aload_n 88 zm62 dX8_tellsFence_87 rfl rfl).trans ?_
  refine (ze_getI 91 zm62 dX8_tellsFence_88 f8_37 k1_8 (Or.inl t8_5) rfl).trans ?_
  refine (ze_iastore (t := v2.toNatClampNeg) 92 zm62 dX8_tellsFence_91 k14_100 n14 h1 rfl rfl).trans ?_
  refine (ze_aload_n 93 zm62 dX8_tellsFence_92 rfl rfl).trans ?_
  refine (ze_dup 94 zm62 dX8_tellsFence_93 rfl rfl).trans ?_
  refine (ze_getI 97 zm62 dX8_tellsFence_94 f8_44 k11_4 (Or.inl t4_1) rfl).trans ?_
  refine (ze_iconst 98 zm62 dX8_tellsFence_97 ci_1 rfl).trans ?_
  refine (ze_iadd 99 zm62 dX8_tellsFence_98 rfl).trans ?_
  refine (ze_putI 102 zm62 dX8_tellsFence_99 f8_44 k11_4 (Or.inl fn4_1) t4_1 rfl).trans ?_
  refine (ze_iconst 103 zm62 dX8_tellsFence_102 ci_1 rfl).trans ?_
  exact ze_zreturn zm62 dX8_tellsFence_103 rfl (Or.inr rfl)
/-! HarpFences$Text.tellsKind (LHarpFences$Land;)Z: method 63 -/
theorem b63_0 (sc : zScr) (i : Nat → Nat → Int32) (b : Bool) (l : Nat → Nat → Int64) : zev sc (63, 0, [some (.ref 1), some (.ref 11), none], [], (197, i, (zRF b), l)) = (zev sc (66, 0, [some (.ref 1), some (.int (0 : Int32)), some (.int (6 : Int32))], [], (197, i, (zRF b), l))).bind (fun x => zev sc (63, 12, [some (.ref 1), some (.ref 11), some (.int (i 11 5))], [x.1], x.2)) := by
  refine (ze_aload_n 1 zm63 dX8_tellsKind_0 rfl rfl).trans ?_
  refine (ze_getI 4 zm63 dX8_tellsKind_1 f8_50 k11_4 (Or.inl t4_5) rfl).trans ?_
  refine (ze_istore_n (A := 99) (ls' := [some (.ref 1), some (.ref 11), some (.int (i 11 5))]) 5 zm63 dX8_tellsKind_4 za63 rfl rfl rfl rfl rfl).trans ?_
  refine (ze_aload_n 6 zm63 dX8_tellsKind_5 rfl rfl).trans ?_
  refine (ze_iconst 7 zm63 dX8_tellsKind_6 ci_0 rfl).trans ?_
  refine (ze_bipush 9 zm63 dX8_tellsKind_7 cb_6 rfl).trans ?_
  exact ze_virtI (as := [.int (0 : Int32), .int (6 : Int32)]) (rest := []) 12 zm63 dX8_tellsKind_9 r8_72 zm66 rfl rfl k1_8 rfl rfl rfl rfl
theorem b63_12 (sc : zScr) (v2 : Int32) (s0 : Int32) (i : Nat → Nat → Int32) (b : Bool) (l : Nat → Nat → Int64) : zev sc (63, 12, [some (.ref 1), some (.ref 11), some (.int v2)], [.int s0], (197, i, (zRF b), l)) = if s0 = 0 then zev sc (63, 15, [some (.ref 1), some (.ref 11), some (.int v2)], [], (197, i, (zRF b), l)) else zev sc (63, 17, [some (.ref 1), some (.ref 11), some (.int v2)], [], (197, i, (zRF b), l)) := by
  exact ze_if_ne 17 15 zm63 dX8_tellsKind_12 (by decide) rfl
theorem b63_15 (sc : zScr) (v2 : Int32) (i : Nat → Nat → Int32) (b : Bool) (l : Nat → Nat → Int64) : zev sc (63, 15, [some (.ref 1), some (.ref 11), some (.int v2)], [], (197, i, (zRF b), l)) = some (.int (0 : Int32), (197, i, (zRF b), l)) := by
  refine (ze_iconst 16 zm63 dX8_tellsKind_15 ci_0 rfl).trans ?_
  exact ze_zreturn zm63 dX8_tellsKind_16 rfl (Or.inl rfl)
theorem b63_17 (sc : zScr) (v2 : Int32) (i : Nat → Nat → Int32) (b : Bool) (l : Nat → Nat → Int64) (h1 : vp_in v2 4) : zev sc (63, 17, [some (.ref 1), some (.ref 11), some (.int v2)], [], (197, i, (zRF b), l)) = (zev sc (66, 0, [some (.ref 1), some (.int (0 : Int32)), some (.int (9 : Int32))], [], (197, (zU i 15 v2.toNatClampNeg ((i 1 5) - (3 : Int32))), (zRF b), l))).bind (fun x => zev sc (63, 36, [some (.ref 1), some (.ref 11), some (.int v2)], [x.1], x.2)) := by
  refine (ze_aload_n 18 zm63 dX8_tellsKind_17 rfl rfl).trans ?_
  refine (ze_getR 21 zm63 dX8_tellsKind_18 f8_88 k11_4 t4_6 (rr11_6 b) rfl).trans ?_
  refine (ze_iload_n 22 zm63 dX8_tellsKind_21 rfl rfl).trans ?_
  refine (ze_aload_n 23 zm63 dX8_tellsKind_22 rfl rfl).trans ?_
  refine (ze_getI 26 zm63 dX8_tellsKind_23 f8_37 k1_8 (Or.inl t8_5) rfl).trans ?_
  refine (ze_iconst 27 zm63 dX8_tellsKind_26 ci_3 rfl).trans ?_
  refine (ze_isub 28 zm63 dX8_tellsKind_27 rfl).trans ?_
  refine (ze_iastore (t := v2.toNatClampNeg) 29 zm63 dX8_tellsKind_28 k15_100 n15 h1 rfl rfl).trans ?_
  refine (ze_aload_n 30 zm63 dX8_tellsKind_29 rfl rfl).trans ?_
  refine (ze_iconst 31 zm63 dX8_tellsKind_30 ci_0 rfl).trans ?_
  refine (ze_bipush 33 zm63 dX8_tellsKind_31 cb_9 rfl).trans ?_
  exact ze_virtI (as := [.int (0 : Int32), .int (9 : Int32)]) (rest := []) 36 zm63 dX8_tellsKind_33 r8_72 zm66 rfl rfl k1_8 rfl rfl rfl rfl
theorem b63_36 (sc : zScr) (v2 : Int32) (s0 : Int32) (i : Nat → Nat → Int32) (b : Bool) (l : Nat → Nat → Int64) : zev sc (63, 36, [some (.ref 1), some (.ref 11), some (.int v2)], [.int s0], (197, i, (zRF b), l)) = if s0 = 0 then zev sc (63, 39, [some (.ref 1), some (.ref 11), some (.int v2)], [], (197, i, (zRF b), l)) else zev sc (63, 41, [some (.ref 1), some (.ref 11), some (.int v2)], [], (197, i, (zRF b), l)) := by
  exact ze_if_ne 41 39 zm63 dX8_tellsKind_36 (by decide) rfl
theorem b63_39 (sc : zScr) (v2 : Int32) (i : Nat → Nat → Int32) (b : Bool) (l : Nat → Nat → Int64) : zev sc (63, 39, [some (.ref 1), some (.ref 11), some (.int v2)], [], (197, i, (zRF b), l)) = some (.int (0 : Int32), (197, i, (zRF b), l)) := by
  refine (ze_iconst 40 zm63 dX8_tellsKind_39 ci_0 rfl).trans ?_
  exact ze_zreturn zm63 dX8_tellsKind_40 rfl (Or.inl rfl)
theorem b63_41 (sc : zScr) (v2 : Int32) (i : Nat → Nat → Int32) (b : Bool) (l : Nat → Nat → Int64) (h1 : vp_in v2 4) : zev sc (63, 41, [some (.ref 1), some (.ref 11), some (.int v2)], [], (197, i, (zRF b), l)) = some (.int (1 : Int32), (197, (zU (zU i 16 v2.toNatClampNeg (i 1 5)) 11 5 (((zU i 16 v2.toNatClampNeg (i 1 5)) 11 5) + (1 : Int32))), (zRF b), l)) := by
  refine (ze_aload_n 42 zm63 dX8_tellsKind_41 rfl rfl).trans ?_
  refine (ze_getR 45 zm63 dX8_tellsKind_42 f8_91 k11_4 t4_7 (rr11_7 b) rfl).trans ?_
  refine (ze_iload_n 46 zm63 dX8_tellsKind_45 rfl rfl).trans ?_
  refine (ze_aload_n 47 zm63 dX8_tellsKind_46 rfl rfl).trans ?_
  refine (ze_getI 50 zm63 dX8_tellsKind_47 f8_37 k1_8 (Or.inl t8_5) rfl).trans ?_
  refine (ze_iastore (t := v2.toNatClampNeg) 51 zm63 dX8_tellsKind_50 k16_100 n16 h1 rfl rfl).trans ?_
  refine (ze_aload_n 52 zm63 dX8_tellsKind_51 rfl rfl).trans ?_
  refine (ze_dup 53 zm63 dX8_tellsKind_52 rfl rfl).trans ?_
  refine (ze_getI 56 zm63 dX8_tellsKind_53 f8_50 k11_4 (Or.inl t4_5) rfl).trans ?_
  refine (ze_iconst 57 zm63 dX8_tellsKind_56 ci_1 rfl).trans ?_
  refine (ze_iadd 58 zm63 dX8_tellsKind_57 rfl).trans ?_
  refine (ze_putI 61 zm63 dX8_tellsKind_58 f8_50 k11_4 (Or.inl fn4_5) t4_5 rfl).trans ?_
  refine (ze_iconst 62 zm63 dX8_tellsKind_61 ci_1 rfl).trans ?_
  exact ze_zreturn zm63 dX8_tellsKind_62 rfl (Or.inr rfl)
/-! HarpFences$Text.tellsBeast (LHarpFences$Land;)Z: method 64 -/
theorem b64_0 (sc : zScr) (i : Nat → Nat → Int32) (b : Bool) (l : Nat → Nat → Int64) : zev sc (64, 0, [some (.ref 1), some (.ref 11), none], [], (197, i, (zRF b), l)) = (zev sc (66, 0, [some (.ref 1), some (.int (0 : Int32)), some (.int ((i 11 5) - (1 : Int32)))], [], (197, i, (zRF b), l))).bind (fun x => zev sc (64, 16, [some (.ref 1), some (.ref 11), some (.int (i 11 8))], [x.1], x.2)) := by
  refine (ze_aload_n 1 zm64 dX8_tellsBeast_0 rfl rfl).trans ?_
  refine (ze_getI 4 zm64 dX8_tellsBeast_1 f8_56 k11_4 (Or.inl t4_8) rfl).trans ?_
  refine (ze_istore_n (A := 99) (ls' := [some (.ref 1), some (.ref 11), some (.int (i 11 8))]) 5 zm64 dX8_tellsBeast_4 za64 rfl rfl rfl rfl rfl).trans ?_
  refine (ze_aload_n 6 zm64 dX8_tellsBeast_5 rfl rfl).trans ?_
  refine (ze_iconst 7 zm64 dX8_tellsBeast_6 ci_0 rfl).trans ?_
  refine (ze_aload_n 8 zm64 dX8_tellsBeast_7 rfl rfl).trans ?_
  refine (ze_getI 11 zm64 dX8_tellsBeast_8 f8_50 k11_4 (Or.inl t4_5) rfl).trans ?_
  refine (ze_iconst 12 zm64 dX8_tellsBeast_11 ci_1 rfl).trans ?_
  refine (ze_isub 13 zm64 dX8_tellsBeast_12 rfl).trans ?_
  exact ze_virtI (as := [.int (0 : Int32), .int ((i 11 5) - (1 : Int32))]) (rest := []) 16 zm64 dX8_tellsBeast_13 r8_72 zm66 rfl rfl k1_8 rfl rfl rfl rfl
theorem b64_16 (sc : zScr) (v2 : Int32) (s0 : Int32) (i : Nat → Nat → Int32) (b : Bool) (l : Nat → Nat → Int64) : zev sc (64, 16, [some (.ref 1), some (.ref 11), some (.int v2)], [.int s0], (197, i, (zRF b), l)) = if s0 = 0 then zev sc (64, 19, [some (.ref 1), some (.ref 11), some (.int v2)], [], (197, i, (zRF b), l)) else zev sc (64, 21, [some (.ref 1), some (.ref 11), some (.int v2)], [], (197, i, (zRF b), l)) := by
  exact ze_if_ne 21 19 zm64 dX8_tellsBeast_16 (by decide) rfl
theorem b64_19 (sc : zScr) (v2 : Int32) (i : Nat → Nat → Int32) (b : Bool) (l : Nat → Nat → Int64) : zev sc (64, 19, [some (.ref 1), some (.ref 11), some (.int v2)], [], (197, i, (zRF b), l)) = some (.int (0 : Int32), (197, i, (zRF b), l)) := by
  refine (ze_iconst 20 zm64 dX8_tellsBeast_19 ci_0 rfl).trans ?_
  exact ze_zreturn zm64 dX8_tellsBeast_20 rfl (Or.inl rfl)
theorem b64_21 (sc : zScr) (v2 : Int32) (i : Nat → Nat → Int32) (b : Bool) (l : Nat → Nat → Int64) (h1 : vp_in v2 6) : zev sc (64, 21, [some (.ref 1), some (.ref 11), some (.int v2)], [], (197, i, (zRF b), l)) = (zev sc (66, 0, [some (.ref 1), some (.int (0 : Int32)), some (.int (((zU i 17 v2.toNatClampNeg (i 1 5)) 11 0) - (1 : Int32)))], [], (197, (zU i 17 v2.toNatClampNeg (i 1 5)), (zRF b), l))).bind (fun x => zev sc (64, 42, [some (.ref 1), some (.ref 11), some (.int v2)], [x.1], x.2)) := by
  refine (ze_aload_n 22 zm64 dX8_tellsBeast_21 rfl rfl).trans ?_
  refine (ze_getR 25 zm64 dX8_tellsBeast_22 f8_94 k11_4 t4_9 (rr11_9 b) rfl).trans ?_
  refine (ze_iload_n 26 zm64 dX8_tellsBeast_25 rfl rfl).trans ?_
  refine (ze_aload_n 27 zm64 dX8_tellsBeast_26 rfl rfl).trans ?_
  refine (ze_getI 30 zm64 dX8_tellsBeast_27 f8_37 k1_8 (Or.inl t8_5) rfl).trans ?_
  refine (ze_iastore (t := v2.toNatClampNeg) 31 zm64 dX8_tellsBeast_30 k17_100 n17 h1 rfl rfl).trans ?_
  refine (ze_aload_n 32 zm64 dX8_tellsBeast_31 rfl rfl).trans ?_
  refine (ze_iconst 33 zm64 dX8_tellsBeast_32 ci_0 rfl).trans ?_
  refine (ze_aload_n 34 zm64 dX8_tellsBeast_33 rfl rfl).trans ?_
  refine (ze_getI 37 zm64 dX8_tellsBeast_34 f8_76 k11_4 (Or.inl t4_0) rfl).trans ?_
  refine (ze_iconst 38 zm64 dX8_tellsBeast_37 ci_1 rfl).trans ?_
  refine (ze_isub 39 zm64 dX8_tellsBeast_38 rfl).trans ?_
  exact ze_virtI (as := [.int (0 : Int32), .int (((zU i 17 v2.toNatClampNeg (i 1 5)) 11 0) - (1 : Int32))]) (rest := []) 42 zm64 dX8_tellsBeast_39 r8_72 zm66 rfl rfl k1_8 rfl rfl rfl rfl
theorem b64_42 (sc : zScr) (v2 : Int32) (s0 : Int32) (i : Nat → Nat → Int32) (b : Bool) (l : Nat → Nat → Int64) : zev sc (64, 42, [some (.ref 1), some (.ref 11), some (.int v2)], [.int s0], (197, i, (zRF b), l)) = if s0 = 0 then zev sc (64, 45, [some (.ref 1), some (.ref 11), some (.int v2)], [], (197, i, (zRF b), l)) else zev sc (64, 47, [some (.ref 1), some (.ref 11), some (.int v2)], [], (197, i, (zRF b), l)) := by
  exact ze_if_ne 47 45 zm64 dX8_tellsBeast_42 (by decide) rfl
theorem b64_45 (sc : zScr) (v2 : Int32) (i : Nat → Nat → Int32) (b : Bool) (l : Nat → Nat → Int64) : zev sc (64, 45, [some (.ref 1), some (.ref 11), some (.int v2)], [], (197, i, (zRF b), l)) = some (.int (0 : Int32), (197, i, (zRF b), l)) := by
  refine (ze_iconst 46 zm64 dX8_tellsBeast_45 ci_0 rfl).trans ?_
  exact ze_zreturn zm64 dX8_tellsBeast_46 rfl (Or.inl rfl)
theorem b64_47 (sc : zScr) (v2 : Int32) (i : Nat → Nat → Int32) (b : Bool) (l : Nat → Nat → Int64) (h1 : vp_in v2 6) : zev sc (64, 47, [some (.ref 1), some (.ref 11), some (.int v2)], [], (197, i, (zRF b), l)) = some (.int (1 : Int32), (197, (zU (zU i 18 v2.toNatClampNeg (i 1 5)) 11 8 (((zU i 18 v2.toNatClampNeg (i 1 5)) 11 8) + (1 : Int32))), (zRF b), l)) := by
  refine (ze_aload_n 48 zm64 dX8_tellsBeast_47 rfl rfl).trans ?_
  refine (ze_getR 51 zm64 dX8_tellsBeast_48 f8_97 k11_4 t4_10 (rr11_10 b) rfl).trans ?_
  refine (ze_iload_n 52 zm64 dX8_tellsBeast_51 rfl rfl).trans ?_
  refine (ze_aload_n 53 zm64 dX8_tellsBeast_52 rfl rfl).trans ?_
  refine (ze_getI 56 zm64 dX8_tellsBeast_53 f8_37 k1_8 (Or.inl t8_5) rfl).trans ?_
  refine (ze_iastore (t := v2.toNatClampNeg) 57 zm64 dX8_tellsBeast_56 k18_100 n18 h1 rfl rfl).trans ?_
  refine (ze_aload_n 58 zm64 dX8_tellsBeast_57 rfl rfl).trans ?_
  refine (ze_dup 59 zm64 dX8_tellsBeast_58 rfl rfl).trans ?_
  refine (ze_getI 62 zm64 dX8_tellsBeast_59 f8_56 k11_4 (Or.inl t4_8) rfl).trans ?_
  refine (ze_iconst 63 zm64 dX8_tellsBeast_62 ci_1 rfl).trans ?_
  refine (ze_iadd 64 zm64 dX8_tellsBeast_63 rfl).trans ?_
  refine (ze_putI 67 zm64 dX8_tellsBeast_64 f8_56 k11_4 (Or.inl fn4_8) t4_8 rfl).trans ?_
  refine (ze_iconst 68 zm64 dX8_tellsBeast_67 ci_1 rfl).trans ?_
  exact ze_zreturn zm64 dX8_tellsBeast_68 rfl (Or.inr rfl)
/-! HarpFences$Text.tellsWet (LHarpFences$Land;)Z: method 65 -/
theorem b65_0 (sc : zScr) (i : Nat → Nat → Int32) (b : Bool) (l : Nat → Nat → Int64) : zev sc (65, 0, [some (.ref 1), some (.ref 11)], [], (197, i, (zRF b), l)) = (zev sc (66, 0, [some (.ref 1), some (.int (0 : Int32)), some (.int (9 : Int32))], [], (197, (zU i 1 6 (1 : Int32)), (zRF b), l))).bind (fun x => zev sc (65, 12, [some (.ref 1), some (.ref 11)], [x.1], x.2)) := by
  refine (ze_aload_n 1 zm65 dX8_tellsWet_0 rfl rfl).trans ?_
  refine (ze_iconst 2 zm65 dX8_tellsWet_1 ci_1 rfl).trans ?_
  refine (ze_putZ 5 zm65 dX8_tellsWet_2 f8_27 k1_8 (Or.inl fn8_6) t8_6 (Or.inr rfl) rfl).trans ?_
  refine (ze_aload_n 6 zm65 dX8_tellsWet_5 rfl rfl).trans ?_
  refine (ze_iconst 7 zm65 dX8_tellsWet_6 ci_0 rfl).trans ?_
  refine (ze_bipush 9 zm65 dX8_tellsWet_7 cb_9 rfl).trans ?_
  exact ze_virtI (as := [.int (0 : Int32), .int (9 : Int32)]) (rest := []) 12 zm65 dX8_tellsWet_9 r8_72 zm66 rfl rfl k1_8 rfl rfl rfl rfl
theorem b65_12 (sc : zScr) (s0 : Int32) (i : Nat → Nat → Int32) (b : Bool) (l : Nat → Nat → Int64) : zev sc (65, 12, [some (.ref 1), some (.ref 11)], [.int s0], (197, i, (zRF b), l)) = if s0 = 0 then zev sc (65, 15, [some (.ref 1), some (.ref 11)], [], (197, i, (zRF b), l)) else zev sc (65, 17, [some (.ref 1), some (.ref 11)], [], (197, i, (zRF b), l)) := by
  exact ze_if_ne 17 15 zm65 dX8_tellsWet_12 (by decide) rfl
theorem b65_15 (sc : zScr) (i : Nat → Nat → Int32) (b : Bool) (l : Nat → Nat → Int64) : zev sc (65, 15, [some (.ref 1), some (.ref 11)], [], (197, i, (zRF b), l)) = some (.int (0 : Int32), (197, i, (zRF b), l)) := by
  refine (ze_iconst 16 zm65 dX8_tellsWet_15 ci_0 rfl).trans ?_
  exact ze_zreturn zm65 dX8_tellsWet_16 rfl (Or.inl rfl)
theorem b65_17 (sc : zScr) (i : Nat → Nat → Int32) (b : Bool) (l : Nat → Nat → Int64) : zev sc (65, 17, [some (.ref 1), some (.ref 11)], [], (197, i, (zRF b), l)) = some (.int (1 : Int32), (197, (zU i 11 11 (i 1 5)), (zRF b), l)) := by
  refine (ze_aload_n 18 zm65 dX8_tellsWet_17 rfl rfl).trans ?_
  refine (ze_aload_n 19 zm65 dX8_tellsWet_18 rfl rfl).trans ?_
  refine (ze_getI 22 zm65 dX8_tellsWet_19 f8_37 k1_8 (Or.inl t8_5) rfl).trans ?_
  refine (ze_putI 25 zm65 dX8_tellsWet_22 f8_100 k11_4 (Or.inl fn4_11) t4_11 rfl).trans ?_
  refine (ze_iconst 26 zm65 dX8_tellsWet_25 ci_1 rfl).trans ?_
  exact ze_zreturn zm65 dX8_tellsWet_26 rfl (Or.inr rfl)
/-! HarpFences$Text.number (II)Z: method 66 -/
theorem b66_0 (sc : zScr) (v1 : Int32) (v2 : Int32) (i : Nat → Nat → Int32) (b : Bool) (l : Nat → Nat → Int64) : zev sc (66, 0, [some (.ref 1), some (.int v1), some (.int v2)], [], (197, i, (zRF b), l)) = (zev sc (68, 0, [some (.ref 1)], [], (197, i, (zRF b), l))).bind (fun x => zev sc (66, 4, [some (.ref 1), some (.int v1), some (.int v2)], [], x.2)) := by
  refine (ze_aload_n 1 zm66 dX8_number_0 rfl rfl).trans ?_
  exact ze_virtV (as := []) (rest := []) 4 zm66 dX8_number_1 r8_31 zm68 rfl rfl k1_8 rfl rfl rfl rfl
theorem b66_4 (sc : zScr) (v1 : Int32) (v2 : Int32) (i : Nat → Nat → Int32) (b : Bool) (l : Nat → Nat → Int64) : zev sc (66, 4, [some (.ref 1), some (.int v1), some (.int v2)], [], (197, i, (zRF b), l)) = if (i 1 3) = (2 : Int32) then zev sc (66, 12, [some (.ref 1), some (.int v1), some (.int v2)], [], (197, i, (zRF b), l)) else zev sc (66, 32, [some (.ref 1), some (.int v1), some (.int v2)], [], (197, i, (zRF b), l)) := by
  refine (ze_aload_n 5 zm66 dX8_number_4 rfl rfl).trans ?_
  refine (ze_getI 8 zm66 dX8_number_5 f8_34 k1_8 (Or.inl t8_3) rfl).trans ?_
  refine (ze_iconst 9 zm66 dX8_number_8 ci_2 rfl).trans ?_
  exact ze_icmp_ne 32 12 zm66 dX8_number_9 (by decide) rfl
theorem b66_12 (sc : zScr) (v1 : Int32) (v2 : Int32) (i : Nat → Nat → Int32) (b : Bool) (l : Nat → Nat → Int64) : zev sc (66, 12, [some (.ref 1), some (.int v1), some (.int v2)], [], (197, i, (zRF b), l)) = if (i 1 5) < v1 then zev sc (66, 32, [some (.ref 1), some (.int v1), some (.int v2)], [], (197, i, (zRF b), l)) else zev sc (66, 20, [some (.ref 1), some (.int v1), some (.int v2)], [], (197, i, (zRF b), l)) := by
  refine (ze_aload_n 13 zm66 dX8_number_12 rfl rfl).trans ?_
  refine (ze_getI 16 zm66 dX8_number_13 f8_37 k1_8 (Or.inl t8_5) rfl).trans ?_
  refine (ze_iload_n 17 zm66 dX8_number_16 rfl rfl).trans ?_
  exact ze_icmp_lt 32 20 zm66 dX8_number_17 (by decide) rfl
theorem b66_20 (sc : zScr) (v1 : Int32) (v2 : Int32) (i : Nat → Nat → Int32) (b : Bool) (l : Nat → Nat → Int64) : zev sc (66, 20, [some (.ref 1), some (.int v1), some (.int v2)], [], (197, i, (zRF b), l)) = if v2 < (i 1 5) then zev sc (66, 32, [some (.ref 1), some (.int v1), some (.int v2)], [], (197, i, (zRF b), l)) else zev sc (66, 28, [some (.ref 1), some (.int v1), some (.int v2)], [], (197, i, (zRF b), l)) := by
  refine (ze_aload_n 21 zm66 dX8_number_20 rfl rfl).trans ?_
  refine (ze_getI 24 zm66 dX8_number_21 f8_37 k1_8 (Or.inl t8_5) rfl).trans ?_
  refine (ze_iload_n 25 zm66 dX8_number_24 rfl rfl).trans ?_
  exact ze_icmp_gt 32 28 zm66 dX8_number_25 (by decide) rfl
theorem b66_28 (sc : zScr) (v1 : Int32) (v2 : Int32) (i : Nat → Nat → Int32) (b : Bool) (l : Nat → Nat → Int64) : zev sc (66, 28, [some (.ref 1), some (.int v1), some (.int v2)], [], (197, i, (zRF b), l)) = zev sc (66, 33, [some (.ref 1), some (.int v1), some (.int v2)], [.int (1 : Int32)], (197, i, (zRF b), l)) := by
  refine (ze_iconst 29 zm66 dX8_number_28 ci_1 rfl).trans ?_
  exact ze_goto 33 zm66 dX8_number_29 (by decide)
theorem b66_32 (sc : zScr) (v1 : Int32) (v2 : Int32) (i : Nat → Nat → Int32) (b : Bool) (l : Nat → Nat → Int64) : zev sc (66, 32, [some (.ref 1), some (.int v1), some (.int v2)], [], (197, i, (zRF b), l)) = zev sc (66, 33, [some (.ref 1), some (.int v1), some (.int v2)], [.int (0 : Int32)], (197, i, (zRF b), l)) := by
  refine (ze_iconst 33 zm66 dX8_number_32 ci_0 rfl).trans ?_
  rfl
theorem b66_33 (sc : zScr) (v1 : Int32) (v2 : Int32) (s0 : Int32) (i : Nat → Nat → Int32) (b : Bool) (l : Nat → Nat → Int64) (h1 : s0 = 0 ∨ s0 = 1) : zev sc (66, 33, [some (.ref 1), some (.int v1), some (.int v2)], [.int s0], (197, i, (zRF b), l)) = some (.int s0, (197, i, (zRF b), l)) := by
  exact ze_zreturn zm66 dX8_number_33 rfl h1
/-! HarpFences$Text.stops ()Z: method 67 -/
theorem b67_0 (sc : zScr) (i : Nat → Nat → Int32) (b : Bool) (l : Nat → Nat → Int64) : zev sc (67, 0, [some (.ref 1)], [], (197, i, (zRF b), l)) = (zev sc (68, 0, [some (.ref 1)], [], (197, i, (zRF b), l))).bind (fun x => zev sc (67, 4, [some (.ref 1)], [], x.2)) := by
  refine (ze_aload_n 1 zm67 dX8_stops_0 rfl rfl).trans ?_
  exact ze_virtV (as := []) (rest := []) 4 zm67 dX8_stops_1 r8_31 zm68 rfl rfl k1_8 rfl rfl rfl rfl
theorem b67_4 (sc : zScr) (i : Nat → Nat → Int32) (b : Bool) (l : Nat → Nat → Int64) : zev sc (67, 4, [some (.ref 1)], [], (197, i, (zRF b), l)) = if (i 1 3) = (3 : Int32) then zev sc (67, 12, [some (.ref 1)], [], (197, i, (zRF b), l)) else zev sc (67, 16, [some (.ref 1)], [], (197, i, (zRF b), l)) := by
  refine (ze_aload_n 5 zm67 dX8_stops_4 rfl rfl).trans ?_
  refine (ze_getI 8 zm67 dX8_stops_5 f8_34 k1_8 (Or.inl t8_3) rfl).trans ?_
  refine (ze_iconst 9 zm67 dX8_stops_8 ci_3 rfl).trans ?_
  exact ze_icmp_ne 16 12 zm67 dX8_stops_9 (by decide) rfl
theorem b67_12 (sc : zScr) (i : Nat → Nat → Int32) (b : Bool) (l : Nat → Nat → Int64) : zev sc (67, 12, [some (.ref 1)], [], (197, i, (zRF b), l)) = zev sc (67, 17, [some (.ref 1)], [.int (1 : Int32)], (197, i, (zRF b), l)) := by
  refine (ze_iconst 13 zm67 dX8_stops_12 ci_1 rfl).trans ?_
  exact ze_goto 17 zm67 dX8_stops_13 (by decide)
theorem b67_16 (sc : zScr) (i : Nat → Nat → Int32) (b : Bool) (l : Nat → Nat → Int64) : zev sc (67, 16, [some (.ref 1)], [], (197, i, (zRF b), l)) = zev sc (67, 17, [some (.ref 1)], [.int (0 : Int32)], (197, i, (zRF b), l)) := by
  refine (ze_iconst 17 zm67 dX8_stops_16 ci_0 rfl).trans ?_
  rfl
theorem b67_17 (sc : zScr) (s0 : Int32) (i : Nat → Nat → Int32) (b : Bool) (l : Nat → Nat → Int64) (h1 : s0 = 0 ∨ s0 = 1) : zev sc (67, 17, [some (.ref 1)], [.int s0], (197, i, (zRF b), l)) = some (.int s0, (197, i, (zRF b), l)) := by
  exact ze_zreturn zm67 dX8_stops_17 rfl h1
/-! HarpFences$Text.step ()V: method 68 -/
theorem b68_0 (sc : zScr) (i : Nat → Nat → Int32) (b : Bool) (l : Nat → Nat → Int64) : zev sc (68, 0, [some (.ref 1)], [], (197, i, (zRF b), l)) = if (i 1 1) ≤ (i 1 2) then zev sc (68, 38, [some (.ref 1)], [], (197, i, (zRF b), l)) else zev sc (68, 11, [some (.ref 1)], [], (197, i, (zRF b), l)) := by
  refine (ze_aload_n 1 zm68 dX8_step_0 rfl rfl).trans ?_
  refine (ze_getI 4 zm68 dX8_step_1 f8_24 k1_8 (Or.inl t8_2) rfl).trans ?_
  refine (ze_aload_n 5 zm68 dX8_step_4 rfl rfl).trans ?_
  refine (ze_getI 8 zm68 dX8_step_5 f8_15 k1_8 (Or.inl t8_1) rfl).trans ?_
  exact ze_icmp_ge 38 11 zm68 dX8_step_8 (by decide) rfl
theorem b68_11 (sc : zScr) (i : Nat → Nat → Int32) (b : Bool) (l : Nat → Nat → Int64) (h1 : vp_in (i 1 2) 150) : zev sc (68, 11, [some (.ref 1)], [], (197, i, (zRF b), l)) = if (i 2 ((i 1 2)).toNatClampNeg) = (32 : Int32) then zev sc (68, 25, [some (.ref 1)], [], (197, i, (zRF b), l)) else zev sc (68, 38, [some (.ref 1)], [], (197, i, (zRF b), l)) := by
  refine (ze_aload_n 12 zm68 dX8_step_11 rfl rfl).trans ?_
  refine (ze_getR 15 zm68 dX8_step_12 f8_9 k1_8 t8_0 (rr1_0 b) rfl).trans ?_
  refine (ze_aload_n 16 zm68 dX8_step_15 rfl rfl).trans ?_
  refine (ze_getI 19 zm68 dX8_step_16 f8_24 k1_8 (Or.inl t8_2) rfl).trans ?_
  refine (ze_iaload (t := ((i 1 2)).toNatClampNeg) 20 zm68 dX8_step_19 k2_100 n2 h1 rfl rfl).trans ?_
  refine (ze_bipush 22 zm68 dX8_step_20 cb_32 rfl).trans ?_
  exact ze_icmp_ne 38 25 zm68 dX8_step_22 (by decide) rfl
theorem b68_25 (sc : zScr) (i : Nat → Nat → Int32) (b : Bool) (l : Nat → Nat → Int64) : zev sc (68, 25, [some (.ref 1)], [], (197, i, (zRF b), l)) = zev sc (68, 0, [some (.ref 1)], [], (197, (zU i 1 2 ((i 1 2) + (1 : Int32))), (zRF b), l)) := by
  refine (ze_aload_n 26 zm68 dX8_step_25 rfl rfl).trans ?_
  refine (ze_dup 27 zm68 dX8_step_26 rfl rfl).trans ?_
  refine (ze_getI 30 zm68 dX8_step_27 f8_24 k1_8 (Or.inl t8_2) rfl).trans ?_
  refine (ze_iconst 31 zm68 dX8_step_30 ci_1 rfl).trans ?_
  refine (ze_iadd 32 zm68 dX8_step_31 rfl).trans ?_
  refine (ze_putI 35 zm68 dX8_step_32 f8_24 k1_8 (Or.inl fn8_2) t8_2 rfl).trans ?_
  exact ze_goto 0 zm68 dX8_step_35 (by decide)
theorem b68_38 (sc : zScr) (i : Nat → Nat → Int32) (b : Bool) (l : Nat → Nat → Int64) : zev sc (68, 38, [some (.ref 1)], [], (197, i, (zRF b), l)) = if ((zU i 1 4 (i 1 2)) 1 2) < ((zU i 1 4 (i 1 2)) 1 1) then zev sc (68, 65, [some (.ref 1)], [], (197, (zU i 1 4 (i 1 2)), (zRF b), l)) else zev sc (68, 57, [some (.ref 1)], [], (197, (zU i 1 4 (i 1 2)), (zRF b), l)) := by
  refine (ze_aload_n 39 zm68 dX8_step_38 rfl rfl).trans ?_
  refine (ze_aload_n 40 zm68 dX8_step_39 rfl rfl).trans ?_
  refine (ze_getI 43 zm68 dX8_step_40 f8_24 k1_8 (Or.inl t8_2) rfl).trans ?_
  refine (ze_putI 46 zm68 dX8_step_43 f8_69 k1_8 (Or.inl fn8_4) t8_4 rfl).trans ?_
  refine (ze_aload_n 47 zm68 dX8_step_46 rfl rfl).trans ?_
  refine (ze_getI 50 zm68 dX8_step_47 f8_24 k1_8 (Or.inl t8_2) rfl).trans ?_
  refine (ze_aload_n 51 zm68 dX8_step_50 rfl rfl).trans ?_
  refine (ze_getI 54 zm68 dX8_step_51 f8_15 k1_8 (Or.inl t8_1) rfl).trans ?_
  exact ze_icmp_lt 65 57 zm68 dX8_step_54 (by decide) rfl
theorem b68_57 (sc : zScr) (i : Nat → Nat → Int32) (b : Bool) (l : Nat → Nat → Int64) : zev sc (68, 57, [some (.ref 1)], [], (197, i, (zRF b), l)) = zev sc (68, 142, [some (.ref 1)], [], (197, (zU i 1 3 (0 : Int32)), (zRF b), l)) := by
  refine (ze_aload_n 58 zm68 dX8_step_57 rfl rfl).trans ?_
  refine (ze_iconst 59 zm68 dX8_step_58 ci_0 rfl).trans ?_
  refine (ze_putI 62 zm68 dX8_step_59 f8_34 k1_8 (Or.inl fn8_3) t8_3 rfl).trans ?_
  exact ze_goto 142 zm68 dX8_step_62 (by decide)
theorem b68_65 (sc : zScr) (i : Nat → Nat → Int32) (b : Bool) (l : Nat → Nat → Int64) (h1 : vp_in (i 1 2) 150) : zev sc (68, 65, [some (.ref 1)], [], (197, i, (zRF b), l)) = (zev sc (71, 0, [some (.int (i 2 ((i 1 2)).toNatClampNeg))], [], (197, i, (zRF b), l))).bind (fun x => zev sc (68, 77, [some (.ref 1)], [x.1], x.2)) := by
  refine (ze_aload_n 66 zm68 dX8_step_65 rfl rfl).trans ?_
  refine (ze_getR 69 zm68 dX8_step_66 f8_9 k1_8 t8_0 (rr1_0 b) rfl).trans ?_
  refine (ze_aload_n 70 zm68 dX8_step_69 rfl rfl).trans ?_
  refine (ze_getI 73 zm68 dX8_step_70 f8_24 k1_8 (Or.inl t8_2) rfl).trans ?_
  refine (ze_iaload (t := ((i 1 2)).toNatClampNeg) 74 zm68 dX8_step_73 k2_100 n2 h1 rfl rfl).trans ?_
  exact ze_statI (as := [.int (i 2 ((i 1 2)).toNatClampNeg)]) (rest := []) 77 zm68 dX8_step_74 r8_103 zm71 rfl rfl rfl rfl rfl rfl
theorem b68_77 (sc : zScr) (s0 : Int32) (i : Nat → Nat → Int32) (b : Bool) (l : Nat → Nat → Int64) : zev sc (68, 77, [some (.ref 1)], [.int s0], (197, i, (zRF b), l)) = if s0 = 0 then zev sc (68, 87, [some (.ref 1)], [], (197, i, (zRF b), l)) else zev sc (68, 80, [some (.ref 1)], [], (197, i, (zRF b), l)) := by
  exact ze_if_eq 87 80 zm68 dX8_step_77 (by decide) rfl
theorem b68_80 (sc : zScr) (i : Nat → Nat → Int32) (b : Bool) (l : Nat → Nat → Int64) : zev sc (68, 80, [some (.ref 1)], [], (197, i, (zRF b), l)) = (zev sc (69, 0, [some (.ref 1)], [], (197, i, (zRF b), l))).bind (fun x => zev sc (68, 84, [some (.ref 1)], [], x.2)) := by
  refine (ze_aload_n 81 zm68 dX8_step_80 rfl rfl).trans ?_
  exact ze_virtV (as := []) (rest := []) 84 zm68 dX8_step_81 r8_107 zm69 rfl rfl k1_8 rfl rfl rfl rfl
theorem b68_84 (sc : zScr) (i : Nat → Nat → Int32) (b : Bool) (l : Nat → Nat → Int64) : zev sc (68, 84, [some (.ref 1)], [], (197, i, (zRF b), l)) = zev sc (68, 142, [some (.ref 1)], [], (197, i, (zRF b), l)) := by
  exact ze_goto 142 zm68 dX8_step_84 (by decide)
theorem b68_87 (sc : zScr) (i : Nat → Nat → Int32) (b : Bool) (l : Nat → Nat → Int64) (h1 : vp_in (i 1 2) 150) : zev sc (68, 87, [some (.ref 1)], [], (197, i, (zRF b), l)) = (zev sc (72, 0, [some (.int (i 2 ((i 1 2)).toNatClampNeg))], [], (197, i, (zRF b), l))).bind (fun x => zev sc (68, 99, [some (.ref 1)], [x.1], x.2)) := by
  refine (ze_aload_n 88 zm68 dX8_step_87 rfl rfl).trans ?_
  refine (ze_getR 91 zm68 dX8_step_88 f8_9 k1_8 t8_0 (rr1_0 b) rfl).trans ?_
  refine (ze_aload_n 92 zm68 dX8_step_91 rfl rfl).trans ?_
  refine (ze_getI 95 zm68 dX8_step_92 f8_24 k1_8 (Or.inl t8_2) rfl).trans ?_
  refine (ze_iaload (t := ((i 1 2)).toNatClampNeg) 96 zm68 dX8_step_95 k2_100 n2 h1 rfl rfl).trans ?_
  exact ze_statI (as := [.int (i 2 ((i 1 2)).toNatClampNeg)]) (rest := []) 99 zm68 dX8_step_96 r8_110 zm72 rfl rfl rfl rfl rfl rfl
theorem b68_99 (sc : zScr) (s0 : Int32) (i : Nat → Nat → Int32) (b : Bool) (l : Nat → Nat → Int64) : zev sc (68, 99, [some (.ref 1)], [.int s0], (197, i, (zRF b), l)) = if s0 = 0 then zev sc (68, 109, [some (.ref 1)], [], (197, i, (zRF b), l)) else zev sc (68, 102, [some (.ref 1)], [], (197, i, (zRF b), l)) := by
  exact ze_if_eq 109 102 zm68 dX8_step_99 (by decide) rfl
theorem b68_102 (sc : zScr) (i : Nat → Nat → Int32) (b : Bool) (l : Nat → Nat → Int64) : zev sc (68, 102, [some (.ref 1)], [], (197, i, (zRF b), l)) = (zev sc (70, 0, [some (.ref 1), none], [], (197, i, (zRF b), l))).bind (fun x => zev sc (68, 106, [some (.ref 1)], [], x.2)) := by
  refine (ze_aload_n 103 zm68 dX8_step_102 rfl rfl).trans ?_
  exact ze_virtV (as := []) (rest := []) 106 zm68 dX8_step_103 r8_113 zm70 rfl rfl k1_8 rfl rfl rfl rfl
theorem b68_106 (sc : zScr) (i : Nat → Nat → Int32) (b : Bool) (l : Nat → Nat → Int64) : zev sc (68, 106, [some (.ref 1)], [], (197, i, (zRF b), l)) = zev sc (68, 142, [some (.ref 1)], [], (197, i, (zRF b), l)) := by
  exact ze_goto 142 zm68 dX8_step_106 (by decide)
theorem b68_109 (sc : zScr) (i : Nat → Nat → Int32) (b : Bool) (l : Nat → Nat → Int64) (h1 : vp_in (i 1 2) 150) : zev sc (68, 109, [some (.ref 1)], [], (197, i, (zRF b), l)) = if (i 2 ((i 1 2)).toNatClampNeg) = (59 : Int32) then zev sc (68, 124, [some (.ref 1)], [.ref 1], (197, i, (zRF b), l)) else zev sc (68, 128, [some (.ref 1)], [.ref 1], (197, i, (zRF b), l)) := by
  refine (ze_aload_n 110 zm68 dX8_step_109 rfl rfl).trans ?_
  refine (ze_aload_n 111 zm68 dX8_step_110 rfl rfl).trans ?_
  refine (ze_getR 114 zm68 dX8_step_111 f8_9 k1_8 t8_0 (rr1_0 b) rfl).trans ?_
  refine (ze_aload_n 115 zm68 dX8_step_114 rfl rfl).trans ?_
  refine (ze_getI 118 zm68 dX8_step_115 f8_24 k1_8 (Or.inl t8_2) rfl).trans ?_
  refine (ze_iaload (t := ((i 1 2)).toNatClampNeg) 119 zm68 dX8_step_118 k2_100 n2 h1 rfl rfl).trans ?_
  refine (ze_bipush 121 zm68 dX8_step_119 cb_59 rfl).trans ?_
  exact ze_icmp_ne 128 124 zm68 dX8_step_121 (by decide) rfl
theorem b68_124 (sc : zScr) (i : Nat → Nat → Int32) (b : Bool) (l : Nat → Nat → Int64) : zev sc (68, 124, [some (.ref 1)], [.ref 1], (197, i, (zRF b), l)) = zev sc (68, 129, [some (.ref 1)], [.int (3 : Int32), .ref 1], (197, i, (zRF b), l)) := by
  refine (ze_iconst 125 zm68 dX8_step_124 ci_3 rfl).trans ?_
  exact ze_goto 129 zm68 dX8_step_125 (by decide)
theorem b68_128 (sc : zScr) (i : Nat → Nat → Int32) (b : Bool) (l : Nat → Nat → Int64) : zev sc (68, 128, [some (.ref 1)], [.ref 1], (197, i, (zRF b), l)) = zev sc (68, 129, [some (.ref 1)], [.int (4 : Int32), .ref 1], (197, i, (zRF b), l)) := by
  refine (ze_iconst 129 zm68 dX8_step_128 ci_4 rfl).trans ?_
  rfl
theorem b68_129 (sc : zScr) (s0 : Int32) (i : Nat → Nat → Int32) (b : Bool) (l : Nat → Nat → Int64) : zev sc (68, 129, [some (.ref 1)], [.int s0, .ref 1], (197, i, (zRF b), l)) = zev sc (68, 142, [some (.ref 1)], [], (197, (zU (zU i 1 3 s0) 1 2 (((zU i 1 3 s0) 1 2) + (1 : Int32))), (zRF b), l)) := by
  refine (ze_putI 132 zm68 dX8_step_129 f8_34 k1_8 (Or.inl fn8_3) t8_3 rfl).trans ?_
  refine (ze_aload_n 133 zm68 dX8_step_132 rfl rfl).trans ?_
  refine (ze_dup 134 zm68 dX8_step_133 rfl rfl).trans ?_
  refine (ze_getI 137 zm68 dX8_step_134 f8_24 k1_8 (Or.inl t8_2) rfl).trans ?_
  refine (ze_iconst 138 zm68 dX8_step_137 ci_1 rfl).trans ?_
  refine (ze_iadd 139 zm68 dX8_step_138 rfl).trans ?_
  refine (ze_putI 142 zm68 dX8_step_139 f8_24 k1_8 (Or.inl fn8_2) t8_2 rfl).trans ?_
  rfl
theorem b68_142 (sc : zScr) (i : Nat → Nat → Int32) (b : Bool) (l : Nat → Nat → Int64) : zev sc (68, 142, [some (.ref 1)], [], (197, i, (zRF b), l)) = some (.null, (197, i, (zRF b), l)) := by
  exact ze_return zm68 dX8_step_142 rfl
/-! HarpFences$Text.stepLetters ()V: method 69 -/
theorem b69_0 (sc : zScr) (i : Nat → Nat → Int32) (b : Bool) (l : Nat → Nat → Int64) (h1 : vp_in ((zU i 1 3 (1 : Int32)) 1 4) 150) : zev sc (69, 0, [some (.ref 1)], [], (197, i, (zRF b), l)) = zev sc (69, 28, [some (.ref 1)], [], (197, (zU (zU (zU i 1 3 (1 : Int32)) 1 5 ((zU i 1 3 (1 : Int32)) 2 (((zU i 1 3 (1 : Int32)) 1 4)).toNatClampNeg)) 1 2 (((zU (zU i 1 3 (1 : Int32)) 1 5 ((zU i 1 3 (1 : Int32)) 2 (((zU i 1 3 (1 : Int32)) 1 4)).toNatClampNeg)) 1 2) + (1 : Int32))), (zRF b), l)) := by
  refine (ze_aload_n 1 zm69 dX8_stepLetters_0 rfl rfl).trans ?_
  refine (ze_iconst 2 zm69 dX8_stepLetters_1 ci_1 rfl).trans ?_
  refine (ze_putI 5 zm69 dX8_stepLetters_2 f8_34 k1_8 (Or.inl fn8_3) t8_3 rfl).trans ?_
  refine (ze_aload_n 6 zm69 dX8_stepLetters_5 rfl rfl).trans ?_
  refine (ze_aload_n 7 zm69 dX8_stepLetters_6 rfl rfl).trans ?_
  refine (ze_getR 10 zm69 dX8_stepLetters_7 f8_9 k1_8 t8_0 (rr1_0 b) rfl).trans ?_
  refine (ze_aload_n 11 zm69 dX8_stepLetters_10 rfl rfl).trans ?_
  refine (ze_getI 14 zm69 dX8_stepLetters_11 f8_69 k1_8 (Or.inl t8_4) rfl).trans ?_
  refine (ze_iaload (t := (((zU i 1 3 (1 : Int32)) 1 4)).toNatClampNeg) 15 zm69 dX8_stepLetters_14 k2_100 n2 h1 rfl rfl).trans ?_
  refine (ze_putI 18 zm69 dX8_stepLetters_15 f8_37 k1_8 (Or.inl fn8_5) t8_5 rfl).trans ?_
  refine (ze_aload_n 19 zm69 dX8_stepLetters_18 rfl rfl).trans ?_
  refine (ze_dup 20 zm69 dX8_stepLetters_19 rfl rfl).trans ?_
  refine (ze_getI 23 zm69 dX8_stepLetters_20 f8_24 k1_8 (Or.inl t8_2) rfl).trans ?_
  refine (ze_iconst 24 zm69 dX8_stepLetters_23 ci_1 rfl).trans ?_
  refine (ze_iadd 25 zm69 dX8_stepLetters_24 rfl).trans ?_
  refine (ze_putI 28 zm69 dX8_stepLetters_25 f8_24 k1_8 (Or.inl fn8_2) t8_2 rfl).trans ?_
  rfl
theorem b69_28 (sc : zScr) (i : Nat → Nat → Int32) (b : Bool) (l : Nat → Nat → Int64) : zev sc (69, 28, [some (.ref 1)], [], (197, i, (zRF b), l)) = if (i 1 1) ≤ (i 1 2) then zev sc (69, 72, [some (.ref 1)], [], (197, i, (zRF b), l)) else zev sc (69, 39, [some (.ref 1)], [], (197, i, (zRF b), l)) := by
  refine (ze_aload_n 29 zm69 dX8_stepLetters_28 rfl rfl).trans ?_
  refine (ze_getI 32 zm69 dX8_stepLetters_29 f8_24 k1_8 (Or.inl t8_2) rfl).trans ?_
  refine (ze_aload_n 33 zm69 dX8_stepLetters_32 rfl rfl).trans ?_
  refine (ze_getI 36 zm69 dX8_stepLetters_33 f8_15 k1_8 (Or.inl t8_1) rfl).trans ?_
  exact ze_icmp_ge 72 39 zm69 dX8_stepLetters_36 (by decide) rfl
theorem b69_39 (sc : zScr) (i : Nat → Nat → Int32) (b : Bool) (l : Nat → Nat → Int64) (h1 : vp_in (i 1 2) 150) : zev sc (69, 39, [some (.ref 1)], [], (197, i, (zRF b), l)) = (zev sc (71, 0, [some (.int (i 2 ((i 1 2)).toNatClampNeg))], [], (197, i, (zRF b), l))).bind (fun x => zev sc (69, 51, [some (.ref 1)], [x.1], x.2)) := by
  refine (ze_aload_n 40 zm69 dX8_stepLetters_39 rfl rfl).trans ?_
  refine (ze_getR 43 zm69 dX8_stepLetters_40 f8_9 k1_8 t8_0 (rr1_0 b) rfl).trans ?_
  refine (ze_aload_n 44 zm69 dX8_stepLetters_43 rfl rfl).trans ?_
  refine (ze_getI 47 zm69 dX8_stepLetters_44 f8_24 k1_8 (Or.inl t8_2) rfl).trans ?_
  refine (ze_iaload (t := ((i 1 2)).toNatClampNeg) 48 zm69 dX8_stepLetters_47 k2_100 n2 h1 rfl rfl).trans ?_
  exact ze_statI (as := [.int (i 2 ((i 1 2)).toNatClampNeg)]) (rest := []) 51 zm69 dX8_stepLetters_48 r8_103 zm71 rfl rfl rfl rfl rfl rfl
theorem b69_51 (sc : zScr) (s0 : Int32) (i : Nat → Nat → Int32) (b : Bool) (l : Nat → Nat → Int64) : zev sc (69, 51, [some (.ref 1)], [.int s0], (197, i, (zRF b), l)) = if s0 = 0 then zev sc (69, 72, [some (.ref 1)], [], (197, i, (zRF b), l)) else zev sc (69, 54, [some (.ref 1)], [], (197, i, (zRF b), l)) := by
  exact ze_if_eq 72 54 zm69 dX8_stepLetters_51 (by decide) rfl
theorem b69_54 (sc : zScr) (i : Nat → Nat → Int32) (b : Bool) (l : Nat → Nat → Int64) : zev sc (69, 54, [some (.ref 1)], [], (197, i, (zRF b), l)) = zev sc (69, 28, [some (.ref 1)], [], (197, (zU (zU i 1 5 (0 : Int32)) 1 2 (((zU i 1 5 (0 : Int32)) 1 2) + (1 : Int32))), (zRF b), l)) := by
  refine (ze_aload_n 55 zm69 dX8_stepLetters_54 rfl rfl).trans ?_
  refine (ze_iconst 56 zm69 dX8_stepLetters_55 ci_0 rfl).trans ?_
  refine (ze_putI 59 zm69 dX8_stepLetters_56 f8_37 k1_8 (Or.inl fn8_5) t8_5 rfl).trans ?_
  refine (ze_aload_n 60 zm69 dX8_stepLetters_59 rfl rfl).trans ?_
  refine (ze_dup 61 zm69 dX8_stepLetters_60 rfl rfl).trans ?_
  refine (ze_getI 64 zm69 dX8_stepLetters_61 f8_24 k1_8 (Or.inl t8_2) rfl).trans ?_
  refine (ze_iconst 65 zm69 dX8_stepLetters_64 ci_1 rfl).trans ?_
  refine (ze_iadd 66 zm69 dX8_stepLetters_65 rfl).trans ?_
  refine (ze_putI 69 zm69 dX8_stepLetters_66 f8_24 k1_8 (Or.inl fn8_2) t8_2 rfl).trans ?_
  exact ze_goto 28 zm69 dX8_stepLetters_69 (by decide)
theorem b69_72 (sc : zScr) (i : Nat → Nat → Int32) (b : Bool) (l : Nat → Nat → Int64) : zev sc (69, 72, [some (.ref 1)], [], (197, i, (zRF b), l)) = some (.null, (197, i, (zRF b), l)) := by
  exact ze_return zm69 dX8_stepLetters_72 rfl
/-! HarpFences$Text.stepNumber ()V: method 70 -/
theorem b70_0 (sc : zScr) (i : Nat → Nat → Int32) (b : Bool) (l : Nat → Nat → Int64) : zev sc (70, 0, [some (.ref 1), none], [], (197, i, (zRF b), l)) = zev sc (70, 5, [some (.ref 1), none], [], (197, (zU i 1 5 (0 : Int32)), (zRF b), l)) := by
  refine (ze_aload_n 1 zm70 dX8_stepNumber_0 rfl rfl).trans ?_
  refine (ze_iconst 2 zm70 dX8_stepNumber_1 ci_0 rfl).trans ?_
  refine (ze_putI 5 zm70 dX8_stepNumber_2 f8_37 k1_8 (Or.inl fn8_5) t8_5 rfl).trans ?_
  rfl
theorem b70_5 (sc : zScr) (i : Nat → Nat → Int32) (b : Bool) (l : Nat → Nat → Int64) : zev sc (70, 5, [some (.ref 1), none], [], (197, i, (zRF b), l)) = if (i 1 1) ≤ (i 1 2) then zev sc (70, 73, [some (.ref 1), none], [], (197, i, (zRF b), l)) else zev sc (70, 16, [some (.ref 1), none], [], (197, i, (zRF b), l)) := by
  refine (ze_aload_n 6 zm70 dX8_stepNumber_5 rfl rfl).trans ?_
  refine (ze_getI 9 zm70 dX8_stepNumber_6 f8_24 k1_8 (Or.inl t8_2) rfl).trans ?_
  refine (ze_aload_n 10 zm70 dX8_stepNumber_9 rfl rfl).trans ?_
  refine (ze_getI 13 zm70 dX8_stepNumber_10 f8_15 k1_8 (Or.inl t8_1) rfl).trans ?_
  exact ze_icmp_ge 73 16 zm70 dX8_stepNumber_13 (by decide) rfl
theorem b70_16 (sc : zScr) (i : Nat → Nat → Int32) (b : Bool) (l : Nat → Nat → Int64) (h1 : vp_in (i 1 2) 150) : zev sc (70, 16, [some (.ref 1), none], [], (197, i, (zRF b), l)) = (zev sc (72, 0, [some (.int (i 2 ((i 1 2)).toNatClampNeg))], [], (197, i, (zRF b), l))).bind (fun x => zev sc (70, 28, [some (.ref 1), none], [x.1], x.2)) := by
  refine (ze_aload_n 17 zm70 dX8_stepNumber_16 rfl rfl).trans ?_
  refine (ze_getR 20 zm70 dX8_stepNumber_17 f8_9 k1_8 t8_0 (rr1_0 b) rfl).trans ?_
  refine (ze_aload_n 21 zm70 dX8_stepNumber_20 rfl rfl).trans ?_
  refine (ze_getI 24 zm70 dX8_stepNumber_21 f8_24 k1_8 (Or.inl t8_2) rfl).trans ?_
  refine (ze_iaload (t := ((i 1 2)).toNatClampNeg) 25 zm70 dX8_stepNumber_24 k2_100 n2 h1 rfl rfl).trans ?_
  exact ze_statI (as := [.int (i 2 ((i 1 2)).toNatClampNeg)]) (rest := []) 28 zm70 dX8_stepNumber_25 r8_110 zm72 rfl rfl rfl rfl rfl rfl
theorem b70_28 (sc : zScr) (s0 : Int32) (i : Nat → Nat → Int32) (b : Bool) (l : Nat → Nat → Int64) : zev sc (70, 28, [some (.ref 1), none], [.int s0], (197, i, (zRF b), l)) = if s0 = 0 then zev sc (70, 73, [some (.ref 1), none], [], (197, i, (zRF b), l)) else zev sc (70, 31, [some (.ref 1), none], [], (197, i, (zRF b), l)) := by
  exact ze_if_eq 73 31 zm70 dX8_stepNumber_28 (by decide) rfl
theorem b70_31 (sc : zScr) (i : Nat → Nat → Int32) (b : Bool) (l : Nat → Nat → Int64) (h1 : vp_in (i 1 2) 150) : zev sc (70, 31, [some (.ref 1), none], [], (197, i, (zRF b), l)) = zev sc (70, 5, [some (.ref 1), none], [], (197, (zU (zU i 1 5 (if ((((i 1 5) * (10 : Int32)) + (i 2 ((i 1 2)).toNatClampNeg)) - (48 : Int32)) < (100 : Int32) then ((((i 1 5) * (10 : Int32)) + (i 2 ((i 1 2)).toNatClampNeg)) - (48 : Int32)) else (100 : Int32))) 1 2 (((zU i 1 5 (if ((((i 1 5) * (10 : Int32)) + (i 2 ((i 1 2)).toNatClampNeg)) - (48 : Int32)) < (100 : Int32) then ((((i 1 5) * (10 : Int32)) + (i 2 ((i 1 2)).toNatClampNeg)) - (48 : Int32)) else (100 : Int32))) 1 2) + (1 : Int32))), (zRF b), l)) := by
  refine (ze_aload_n 32 zm70 dX8_stepNumber_31 rfl rfl).trans ?_
  refine (ze_bipush 34 zm70 dX8_stepNumber_32 cb_100 rfl).trans ?_
  refine (ze_aload_n 35 zm70 dX8_stepNumber_34 rfl rfl).trans ?_
  refine (ze_getI 38 zm70 dX8_stepNumber_35 f8_37 k1_8 (Or.inl t8_5) rfl).trans ?_
  refine (ze_bipush 40 zm70 dX8_stepNumber_38 cb_10 rfl).trans ?_
  refine (ze_imul 41 zm70 dX8_stepNumber_40 rfl).trans ?_
  refine (ze_aload_n 42 zm70 dX8_stepNumber_41 rfl rfl).trans ?_
  refine (ze_getR 45 zm70 dX8_stepNumber_42 f8_9 k1_8 t8_0 (rr1_0 b) rfl).trans ?_
  refine (ze_aload_n 46 zm70 dX8_stepNumber_45 rfl rfl).trans ?_
  refine (ze_getI 49 zm70 dX8_stepNumber_46 f8_24 k1_8 (Or.inl t8_2) rfl).trans ?_
  refine (ze_iaload (t := ((i 1 2)).toNatClampNeg) 50 zm70 dX8_stepNumber_49 k2_100 n2 h1 rfl rfl).trans ?_
  refine (ze_iadd 51 zm70 dX8_stepNumber_50 rfl).trans ?_
  refine (ze_bipush 53 zm70 dX8_stepNumber_51 cb_48 rfl).trans ?_
  refine (ze_isub 54 zm70 dX8_stepNumber_53 rfl).trans ?_
  refine (ze_min 57 zm70 dX8_stepNumber_54 r8_116 rfl rfl).trans ?_
  refine (ze_putI 60 zm70 dX8_stepNumber_57 f8_37 k1_8 (Or.inl fn8_5) t8_5 rfl).trans ?_
  refine (ze_aload_n 61 zm70 dX8_stepNumber_60 rfl rfl).trans ?_
  refine (ze_dup 62 zm70 dX8_stepNumber_61 rfl rfl).trans ?_
  refine (ze_getI 65 zm70 dX8_stepNumber_62 f8_24 k1_8 (Or.inl t8_2) rfl).trans ?_
  refine (ze_iconst 66 zm70 dX8_stepNumber_65 ci_1 rfl).trans ?_
  refine (ze_iadd 67 zm70 dX8_stepNumber_66 rfl).trans ?_
  refine (ze_putI 70 zm70 dX8_stepNumber_67 f8_24 k1_8 (Or.inl fn8_2) t8_2 rfl).trans ?_
  exact ze_goto 5 zm70 dX8_stepNumber_70 (by decide)
theorem b70_73 (sc : zScr) (i : Nat → Nat → Int32) (b : Bool) (l : Nat → Nat → Int64) (h1 : vp_in (i 1 4) 150) : zev sc (70, 73, [some (.ref 1), none], [], (197, i, (zRF b), l)) = if (i 2 ((i 1 4)).toNatClampNeg) = (48 : Int32) then zev sc (70, 87, [some (.ref 1), none], [], (197, i, (zRF b), l)) else zev sc (70, 104, [some (.ref 1), none], [], (197, i, (zRF b), l)) := by
  refine (ze_aload_n 74 zm70 dX8_stepNumber_73 rfl rfl).trans ?_
  refine (ze_getR 77 zm70 dX8_stepNumber_74 f8_9 k1_8 t8_0 (rr1_0 b) rfl).trans ?_
  refine (ze_aload_n 78 zm70 dX8_stepNumber_77 rfl rfl).trans ?_
  refine (ze_getI 81 zm70 dX8_stepNumber_78 f8_69 k1_8 (Or.inl t8_4) rfl).trans ?_
  refine (ze_iaload (t := ((i 1 4)).toNatClampNeg) 82 zm70 dX8_stepNumber_81 k2_100 n2 h1 rfl rfl).trans ?_
  refine (ze_bipush 84 zm70 dX8_stepNumber_82 cb_48 rfl).trans ?_
  exact ze_icmp_ne 104 87 zm70 dX8_stepNumber_84 (by decide) rfl
theorem b70_87 (sc : zScr) (i : Nat → Nat → Int32) (b : Bool) (l : Nat → Nat → Int64) : zev sc (70, 87, [some (.ref 1), none], [], (197, i, (zRF b), l)) = if ((i 1 2) - (i 1 4)) ≤ (1 : Int32) then zev sc (70, 104, [some (.ref 1), none], [], (197, i, (zRF b), l)) else zev sc (70, 100, [some (.ref 1), none], [], (197, i, (zRF b), l)) := by
  refine (ze_aload_n 88 zm70 dX8_stepNumber_87 rfl rfl).trans ?_
  refine (ze_getI 91 zm70 dX8_stepNumber_88 f8_24 k1_8 (Or.inl t8_2) rfl).trans ?_
  refine (ze_aload_n 92 zm70 dX8_stepNumber_91 rfl rfl).trans ?_
  refine (ze_getI 95 zm70 dX8_stepNumber_92 f8_69 k1_8 (Or.inl t8_4) rfl).trans ?_
  refine (ze_isub 96 zm70 dX8_stepNumber_95 rfl).trans ?_
  refine (ze_iconst 97 zm70 dX8_stepNumber_96 ci_1 rfl).trans ?_
  exact ze_icmp_le 104 100 zm70 dX8_stepNumber_97 (by decide) rfl
theorem b70_100 (sc : zScr) (i : Nat → Nat → Int32) (b : Bool) (l : Nat → Nat → Int64) : zev sc (70, 100, [some (.ref 1), none], [], (197, i, (zRF b), l)) = zev sc (70, 105, [some (.ref 1), none], [.int (1 : Int32)], (197, i, (zRF b), l)) := by
  refine (ze_iconst 101 zm70 dX8_stepNumber_100 ci_1 rfl).trans ?_
  exact ze_goto 105 zm70 dX8_stepNumber_101 (by decide)
theorem b70_104 (sc : zScr) (i : Nat → Nat → Int32) (b : Bool) (l : Nat → Nat → Int64) : zev sc (70, 104, [some (.ref 1), none], [], (197, i, (zRF b), l)) = zev sc (70, 105, [some (.ref 1), none], [.int (0 : Int32)], (197, i, (zRF b), l)) := by
  refine (ze_iconst 105 zm70 dX8_stepNumber_104 ci_0 rfl).trans ?_
  rfl
theorem b70_105 (sc : zScr) (s0 : Int32) (i : Nat → Nat → Int32) (b : Bool) (l : Nat → Nat → Int64) : zev sc (70, 105, [some (.ref 1), none], [.int s0], (197, i, (zRF b), l)) = if s0 = 0 then zev sc (70, 111, [some (.ref 1), some (.int s0)], [.ref 1], (197, i, (zRF b), l)) else zev sc (70, 120, [some (.ref 1), some (.int s0)], [.ref 1], (197, i, (zRF b), l)) := by
  refine (ze_istore_n (A := 99) (ls' := [some (.ref 1), some (.int s0)]) 106 zm70 dX8_stepNumber_105 za70 rfl rfl rfl rfl rfl).trans ?_
  refine (ze_aload_n 107 zm70 dX8_stepNumber_106 rfl rfl).trans ?_
  refine (ze_iload_n 108 zm70 dX8_stepNumber_107 rfl rfl).trans ?_
  exact ze_if_ne 120 111 zm70 dX8_stepNumber_108 (by decide) rfl
theorem b70_111 (sc : zScr) (v1 : Int32) (i : Nat → Nat → Int32) (b : Bool) (l : Nat → Nat → Int64) : zev sc (70, 111, [some (.ref 1), some (.int v1)], [.ref 1], (197, i, (zRF b), l)) = if (i 1 5) ≤ (99 : Int32) then zev sc (70, 124, [some (.ref 1), some (.int v1)], [.ref 1], (197, i, (zRF b), l)) else zev sc (70, 120, [some (.ref 1), some (.int v1)], [.ref 1], (197, i, (zRF b), l)) := by
  refine (ze_aload_n 112 zm70 dX8_stepNumber_111 rfl rfl).trans ?_
  refine (ze_getI 115 zm70 dX8_stepNumber_112 f8_37 k1_8 (Or.inl t8_5) rfl).trans ?_
  refine (ze_bipush 117 zm70 dX8_stepNumber_115 cb_99 rfl).trans ?_
  exact ze_icmp_le 124 120 zm70 dX8_stepNumber_117 (by decide) rfl
theorem b70_120 (sc : zScr) (v1 : Int32) (i : Nat → Nat → Int32) (b : Bool) (l : Nat → Nat → Int64) : zev sc (70, 120, [some (.ref 1), some (.int v1)], [.ref 1], (197, i, (zRF b), l)) = zev sc (70, 125, [some (.ref 1), some (.int v1)], [.int (4 : Int32), .ref 1], (197, i, (zRF b), l)) := by
  refine (ze_iconst 121 zm70 dX8_stepNumber_120 ci_4 rfl).trans ?_
  exact ze_goto 125 zm70 dX8_stepNumber_121 (by decide)
theorem b70_124 (sc : zScr) (v1 : Int32) (i : Nat → Nat → Int32) (b : Bool) (l : Nat → Nat → Int64) : zev sc (70, 124, [some (.ref 1), some (.int v1)], [.ref 1], (197, i, (zRF b), l)) = zev sc (70, 125, [some (.ref 1), some (.int v1)], [.int (2 : Int32), .ref 1], (197, i, (zRF b), l)) := by
  refine (ze_iconst 125 zm70 dX8_stepNumber_124 ci_2 rfl).trans ?_
  rfl
theorem b70_125 (sc : zScr) (v1 : Int32) (s0 : Int32) (i : Nat → Nat → Int32) (b : Bool) (l : Nat → Nat → Int64) : zev sc (70, 125, [some (.ref 1), some (.int v1)], [.int s0, .ref 1], (197, i, (zRF b), l)) = some (.null, (197, (zU i 1 3 s0), (zRF b), l)) := by
  refine (ze_putI 128 zm70 dX8_stepNumber_125 f8_34 k1_8 (Or.inl fn8_3) t8_3 rfl).trans ?_
  exact ze_return zm70 dX8_stepNumber_128 rfl
/-! HarpFences$Text.isLetter (I)Z: method 71 -/
theorem b71_0 (sc : zScr) (v0 : Int32) (i : Nat → Nat → Int32) (b : Bool) (l : Nat → Nat → Int64) : zev sc (71, 0, [some (.int v0)], [], (197, i, (zRF b), l)) = if v0 < (97 : Int32) then zev sc (71, 16, [some (.int v0)], [], (197, i, (zRF b), l)) else zev sc (71, 6, [some (.int v0)], [], (197, i, (zRF b), l)) := by
  refine (ze_iload_n 1 zm71 dX8_isLetter_0 rfl rfl).trans ?_
  refine (ze_bipush 3 zm71 dX8_isLetter_1 cb_97 rfl).trans ?_
  exact ze_icmp_lt 16 6 zm71 dX8_isLetter_3 (by decide) rfl
theorem b71_6 (sc : zScr) (v0 : Int32) (i : Nat → Nat → Int32) (b : Bool) (l : Nat → Nat → Int64) : zev sc (71, 6, [some (.int v0)], [], (197, i, (zRF b), l)) = if (122 : Int32) < v0 then zev sc (71, 16, [some (.int v0)], [], (197, i, (zRF b), l)) else zev sc (71, 12, [some (.int v0)], [], (197, i, (zRF b), l)) := by
  refine (ze_iload_n 7 zm71 dX8_isLetter_6 rfl rfl).trans ?_
  refine (ze_bipush 9 zm71 dX8_isLetter_7 cb_122 rfl).trans ?_
  exact ze_icmp_gt 16 12 zm71 dX8_isLetter_9 (by decide) rfl
theorem b71_12 (sc : zScr) (v0 : Int32) (i : Nat → Nat → Int32) (b : Bool) (l : Nat → Nat → Int64) : zev sc (71, 12, [some (.int v0)], [], (197, i, (zRF b), l)) = zev sc (71, 17, [some (.int v0)], [.int (1 : Int32)], (197, i, (zRF b), l)) := by
  refine (ze_iconst 13 zm71 dX8_isLetter_12 ci_1 rfl).trans ?_
  exact ze_goto 17 zm71 dX8_isLetter_13 (by decide)
theorem b71_16 (sc : zScr) (v0 : Int32) (i : Nat → Nat → Int32) (b : Bool) (l : Nat → Nat → Int64) : zev sc (71, 16, [some (.int v0)], [], (197, i, (zRF b), l)) = zev sc (71, 17, [some (.int v0)], [.int (0 : Int32)], (197, i, (zRF b), l)) := by
  refine (ze_iconst 17 zm71 dX8_isLetter_16 ci_0 rfl).trans ?_
  rfl
theorem b71_17 (sc : zScr) (v0 : Int32) (s0 : Int32) (i : Nat → Nat → Int32) (b : Bool) (l : Nat → Nat → Int64) (h1 : s0 = 0 ∨ s0 = 1) : zev sc (71, 17, [some (.int v0)], [.int s0], (197, i, (zRF b), l)) = some (.int s0, (197, i, (zRF b), l)) := by
  exact ze_zreturn zm71 dX8_isLetter_17 rfl h1
/-! HarpFences$Text.isDigit (I)Z: method 72 -/
theorem b72_0 (sc : zScr) (v0 : Int32) (i : Nat → Nat → Int32) (b : Bool) (l : Nat → Nat → Int64) : zev sc (72, 0, [some (.int v0)], [], (197, i, (zRF b), l)) = if v0 < (48 : Int32) then zev sc (72, 16, [some (.int v0)], [], (197, i, (zRF b), l)) else zev sc (72, 6, [some (.int v0)], [], (197, i, (zRF b), l)) := by
  refine (ze_iload_n 1 zm72 dX8_isDigit_0 rfl rfl).trans ?_
  refine (ze_bipush 3 zm72 dX8_isDigit_1 cb_48 rfl).trans ?_
  exact ze_icmp_lt 16 6 zm72 dX8_isDigit_3 (by decide) rfl
theorem b72_6 (sc : zScr) (v0 : Int32) (i : Nat → Nat → Int32) (b : Bool) (l : Nat → Nat → Int64) : zev sc (72, 6, [some (.int v0)], [], (197, i, (zRF b), l)) = if (57 : Int32) < v0 then zev sc (72, 16, [some (.int v0)], [], (197, i, (zRF b), l)) else zev sc (72, 12, [some (.int v0)], [], (197, i, (zRF b), l)) := by
  refine (ze_iload_n 7 zm72 dX8_isDigit_6 rfl rfl).trans ?_
  refine (ze_bipush 9 zm72 dX8_isDigit_7 cb_57 rfl).trans ?_
  exact ze_icmp_gt 16 12 zm72 dX8_isDigit_9 (by decide) rfl
theorem b72_12 (sc : zScr) (v0 : Int32) (i : Nat → Nat → Int32) (b : Bool) (l : Nat → Nat → Int64) : zev sc (72, 12, [some (.int v0)], [], (197, i, (zRF b), l)) = zev sc (72, 17, [some (.int v0)], [.int (1 : Int32)], (197, i, (zRF b), l)) := by
  refine (ze_iconst 13 zm72 dX8_isDigit_12 ci_1 rfl).trans ?_
  exact ze_goto 17 zm72 dX8_isDigit_13 (by decide)
theorem b72_16 (sc : zScr) (v0 : Int32) (i : Nat → Nat → Int32) (b : Bool) (l : Nat → Nat → Int64) : zev sc (72, 16, [some (.int v0)], [], (197, i, (zRF b), l)) = zev sc (72, 17, [some (.int v0)], [.int (0 : Int32)], (197, i, (zRF b), l)) := by
  refine (ze_iconst 17 zm72 dX8_isDigit_16 ci_0 rfl).trans ?_
  rfl
theorem b72_17 (sc : zScr) (v0 : Int32) (s0 : Int32) (i : Nat → Nat → Int32) (b : Bool) (l : Nat → Nat → Int64) (h1 : s0 = 0 ∨ s0 = 1) : zev sc (72, 17, [some (.int v0)], [.int s0], (197, i, (zRF b), l)) = some (.int s0, (197, i, (zRF b), l)) := by
  exact ze_zreturn zm72 dX8_isDigit_17 rfl h1
