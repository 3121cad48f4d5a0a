/-! HarpFencesLaw.law ([I)Z: method 185 -/
theorem b185_18 (sc : zScr) (v3 : Int32) (i : Nat → Nat → Int32) (b : Bool) (l : Nat → Nat → Int64) : zev sc (185, 18, [some (.retAddr 0), some (.ref 0), some (.ref 173), some (.int v3)], [], (197, i, (zRF b), l)) = if ((Int32.ofNat sc.1) - (7 : Int32)) < v3 then zev sc (185, 994, [some (.retAddr 0), some (.ref 0), some (.ref 173), some (.int v3)], [], (197, i, (zRF b), l)) else zev sc (185, 27, [some (.retAddr 0), some (.ref 0), some (.ref 173), some (.int v3)], [], (197, i, (zRF b), l)) := by
  refine (ze_iload_n 19 zm185 dL_law_18 rfl rfl).trans ?_
  refine (ze_aload_s 20 zm185 dL_law_19 rfl rfl).trans ?_
  refine (ze_slen 21 zm185 dL_law_20 rfl).trans ?_
  refine (ze_bipush 23 zm185 dL_law_21 cb_7 rfl).trans ?_
  refine (ze_isub 24 zm185 dL_law_23 rfl).trans ?_
  exact ze_icmp_gt 994 27 zm185 dL_law_24 (by decide) rfl
theorem b185_27 (sc : zScr) (v3 : Int32) (i : Nat → Nat → Int32) (b : Bool) (l : Nat → Nat → Int64) (h1 : vp_in v3 sc.1) : zev sc (185, 27, [some (.retAddr 0), some (.ref 0), some (.ref 173), some (.int v3)], [], (197, i, (zRF b), l)) = zev sc (185, zcs ((sc.2 (v3).toNatClampNeg) &&& (31 : Int32)) 988 [((0 : Int32), 172), ((1 : Int32), 195), ((2 : Int32), 208), ((3 : Int32), 221), ((4 : Int32), 254), ((5 : Int32), 287), ((6 : Int32), 320), ((7 : Int32), 353), ((8 : Int32), 386), ((9 : Int32), 419), ((10 : Int32), 452), ((11 : Int32), 475), ((12 : Int32), 498), ((13 : Int32), 511), ((14 : Int32), 534), ((15 : Int32), 557), ((16 : Int32), 580), ((17 : Int32), 603), ((18 : Int32), 616), ((19 : Int32), 649), ((20 : Int32), 672), ((21 : Int32), 685), ((22 : Int32), 698), ((23 : Int32), 751), ((24 : Int32), 774), ((25 : Int32), 797), ((26 : Int32), 872), ((27 : Int32), 905), ((28 : Int32), 928), ((29 : Int32), 951), ((30 : Int32), 974)], [some (.retAddr 0), some (.ref 0), some (.ref 173), some (.int v3)], [], (197, i, (zRF b), l)) := by
  refine (ze_aload_s 28 zm185 dL_law_27 rfl rfl).trans ?_
  refine (ze_iload_n 29 zm185 dL_law_28 rfl rfl).trans ?_
  refine (ze_saload 30 zm185 dL_law_29 h1 rfl).trans ?_
  refine (ze_bipush 32 zm185 dL_law_30 cb_31 rfl).trans ?_
  refine (ze_iand 33 zm185 dL_law_32 rfl).trans ?_
  exact ze_table zm185 dL_law_33 (sw_185_33 _)
theorem b185_172 (sc : zScr) (v3 : Int32) (i : Nat → Nat → Int32) (b : Bool) (l : Nat → Nat → Int64) (h1 : vp_in (v3 + (1 : Int32)) sc.1) : zev sc (185, 172, [some (.retAddr 0), some (.ref 0), some (.ref 173), some (.int v3)], [], (197, i, (zRF b), l)) = (zev sc (74, 0, [some (.ref 0), some (.int (sc.2 ((v3 + (1 : Int32))).toNatClampNeg))], [], (197, i, (zRF b), l))).bind (fun x => zev sc (185, 181, [some (.retAddr 0), some (.ref 0), some (.ref 173), some (.int v3)], [x.1], x.2)) := by
  refine (ze_aload_n 173 zm185 dL_law_172 rfl rfl).trans ?_
  refine (ze_aload_s 174 zm185 dL_law_173 rfl rfl).trans ?_
  refine (ze_iload_n 175 zm185 dL_law_174 rfl rfl).trans ?_
  refine (ze_iconst 176 zm185 dL_law_175 ci_1 rfl).trans ?_
  refine (ze_iadd 177 zm185 dL_law_176 rfl).trans ?_
  refine (ze_saload 178 zm185 dL_law_177 h1 rfl).trans ?_
  exact ze_virtI (as := [.int (sc.2 ((v3 + (1 : Int32))).toNatClampNeg)]) (rest := []) 181 zm185 dL_law_178 r12_13 zm74 rfl rfl k0_9 rfl rfl rfl rfl
theorem b185_181 (sc : zScr) (v3 : Int32) (s0 : Int32) (i : Nat → Nat → Int32) (b : Bool) (l : Nat → Nat → Int64) (h1 : vp_in (v3 + (1 : Int32)) sc.1) : zev sc (185, 181, [some (.retAddr 0), some (.ref 0), some (.ref 173), some (.int v3)], [.int s0], (197, i, (zRF b), l)) = (zev sc (121, 0, [some (.ref 173), some (.int (sc.2 ((v3 + (1 : Int32))).toNatClampNeg))], [], (197, i, (zRF b), l))).bind (fun x => zev sc (185, 190, [some (.retAddr 0), some (.ref 0), some (.ref 173), some (.int v3)], [x.1, .int s0], x.2)) := by
  refine (ze_aload_n 182 zm185 dL_law_181 rfl rfl).trans ?_
  refine (ze_aload_s 183 zm185 dL_law_182 rfl rfl).trans ?_
  refine (ze_iload_n 184 zm185 dL_law_183 rfl rfl).trans ?_
  refine (ze_iconst 185 zm185 dL_law_184 ci_1 rfl).trans ?_
  refine (ze_iadd 186 zm185 dL_law_185 rfl).trans ?_
  refine (ze_saload 187 zm185 dL_law_186 h1 rfl).trans ?_
  exact ze_virtI (as := [.int (sc.2 ((v3 + (1 : Int32))).toNatClampNeg)]) (rest := [.int s0]) 190 zm185 dL_law_187 r12_17 zm121 rfl rfl k173_10 rfl rfl rfl rfl
theorem b185_190 (sc : zScr) (v3 : Int32) (s0 : Int32) (s1 : Int32) (i : Nat → Nat → Int32) (b : Bool) (l : Nat → Nat → Int64) : zev sc (185, 190, [some (.retAddr 0), some (.ref 0), some (.ref 173), some (.int v3)], [.int s0, .int s1], (197, i, (zRF b), l)) = if s1 = s0 then zev sc (185, 988, [some (.retAddr 0), some (.ref 0), some (.ref 173), some (.int v3)], [], (197, i, (zRF b), l)) else zev sc (185, 193, [some (.retAddr 0), some (.ref 0), some (.ref 173), some (.int v3)], [], (197, i, (zRF b), l)) := by
  exact ze_icmp_eq 988 193 zm185 dL_law_190 (by decide) rfl
theorem b185_193 (sc : zScr) (v3 : Int32) (i : Nat → Nat → Int32) (b : Bool) (l : Nat → Nat → Int64) : zev sc (185, 193, [some (.retAddr 0), some (.ref 0), some (.ref 173), some (.int v3)], [], (197, i, (zRF b), l)) = some (.int (0 : Int32), (197, i, (zRF b), l)) := by
  refine (ze_iconst 194 zm185 dL_law_193 ci_0 rfl).trans ?_
  exact ze_zreturn zm185 dL_law_194 rfl (Or.inl rfl)
theorem b185_195 (sc : zScr) (v3 : Int32) (i : Nat → Nat → Int32) (b : Bool) (l : Nat → Nat → Int64) : zev sc (185, 195, [some (.retAddr 0), some (.ref 0), some (.ref 173), some (.int v3)], [], (197, i, (zRF b), l)) = (zev sc (75, 0, [some (.ref 0), none], [], (197, i, (zRF b), l))).bind (fun x => zev sc (185, 199, [some (.retAddr 0), some (.ref 0), some (.ref 173), some (.int v3)], [x.1], x.2)) := by
  refine (ze_aload_n 196 zm185 dL_law_195 rfl rfl).trans ?_
  exact ze_virtI (as := []) (rest := []) 199 zm185 dL_law_196 r12_18 zm75 rfl rfl k0_9 rfl rfl rfl rfl
theorem b185_199 (sc : zScr) (v3 : Int32) (s0 : Int32) (i : Nat → Nat → Int32) (b : Bool) (l : Nat → Nat → Int64) : zev sc (185, 199, [some (.retAddr 0), some (.ref 0), some (.ref 173), some (.int v3)], [.int s0], (197, i, (zRF b), l)) = (zev sc (122, 0, [some (.ref 173), none], [], (197, i, (zRF b), l))).bind (fun x => zev sc (185, 203, [some (.retAddr 0), some (.ref 0), some (.ref 173), some (.int v3)], [x.1, .int s0], x.2)) := by
  refine (ze_aload_n 200 zm185 dL_law_199 rfl rfl).trans ?_
  exact ze_virtI (as := []) (rest := [.int s0]) 203 zm185 dL_law_200 r12_22 zm122 rfl rfl k173_10 rfl rfl rfl rfl
theorem b185_203 (sc : zScr) (v3 : Int32) (s0 : Int32) (s1 : Int32) (i : Nat → Nat → Int32) (b : Bool) (l : Nat → Nat → Int64) : zev sc (185, 203, [some (.retAddr 0), some (.ref 0), some (.ref 173), some (.int v3)], [.int s0, .int s1], (197, i, (zRF b), l)) = if s1 = s0 then zev sc (185, 988, [some (.retAddr 0), some (.ref 0), some (.ref 173), some (.int v3)], [], (197, i, (zRF b), l)) else zev sc (185, 206, [some (.retAddr 0), some (.ref 0), some (.ref 173), some (.int v3)], [], (197, i, (zRF b), l)) := by
  exact ze_icmp_eq 988 206 zm185 dL_law_203 (by decide) rfl
theorem b185_206 (sc : zScr) (v3 : Int32) (i : Nat → Nat → Int32) (b : Bool) (l : Nat → Nat → Int64) : zev sc (185, 206, [some (.retAddr 0), some (.ref 0), some (.ref 173), some (.int v3)], [], (197, i, (zRF b), l)) = some (.int (0 : Int32), (197, i, (zRF b), l)) := by
  refine (ze_iconst 207 zm185 dL_law_206 ci_0 rfl).trans ?_
  exact ze_zreturn zm185 dL_law_207 rfl (Or.inl rfl)
theorem b185_208 (sc : zScr) (v3 : Int32) (i : Nat → Nat → Int32) (b : Bool) (l : Nat → Nat → Int64) : zev sc (185, 208, [some (.retAddr 0), some (.ref 0), some (.ref 173), some (.int v3)], [], (197, i, (zRF b), l)) = (zev sc (76, 0, [some (.ref 0), none], [], (197, i, (zRF b), l))).bind (fun x => zev sc (185, 212, [some (.retAddr 0), some (.ref 0), some (.ref 173), some (.int v3)], [x.1], x.2)) := by
  refine (ze_aload_n 209 zm185 dL_law_208 rfl rfl).trans ?_
  exact ze_virtI (as := []) (rest := []) 212 zm185 dL_law_209 r12_23 zm76 rfl rfl k0_9 rfl rfl rfl rfl
theorem b185_212 (sc : zScr) (v3 : Int32) (s0 : Int32) (i : Nat → Nat → Int32) (b : Bool) (l : Nat → Nat → Int64) : zev sc (185, 212, [some (.retAddr 0), some (.ref 0), some (.ref 173), some (.int v3)], [.int s0], (197, i, (zRF b), l)) = (zev sc (130, 0, [some (.ref 173), none], [], (197, i, (zRF b), l))).bind (fun x => zev sc (185, 216, [some (.retAddr 0), some (.ref 0), some (.ref 173), some (.int v3)], [x.1, .int s0], x.2)) := by
  refine (ze_aload_n 213 zm185 dL_law_212 rfl rfl).trans ?_
  exact ze_virtI (as := []) (rest := [.int s0]) 216 zm185 dL_law_213 r12_26 zm130 rfl rfl k173_10 rfl rfl rfl rfl
theorem b185_216 (sc : zScr) (v3 : Int32) (s0 : Int32) (s1 : Int32) (i : Nat → Nat → Int32) (b : Bool) (l : Nat → Nat → Int64) : zev sc (185, 216, [some (.retAddr 0), some (.ref 0), some (.ref 173), some (.int v3)], [.int s0, .int s1], (197, i, (zRF b), l)) = if s1 = s0 then zev sc (185, 988, [some (.retAddr 0), some (.ref 0), some (.ref 173), some (.int v3)], [], (197, i, (zRF b), l)) else zev sc (185, 219, [some (.retAddr 0), some (.ref 0), some (.ref 173), some (.int v3)], [], (197, i, (zRF b), l)) := by
  exact ze_icmp_eq 988 219 zm185 dL_law_216 (by decide) rfl
theorem b185_219 (sc : zScr) (v3 : Int32) (i : Nat → Nat → Int32) (b : Bool) (l : Nat → Nat → Int64) : zev sc (185, 219, [some (.retAddr 0), some (.ref 0), some (.ref 173), some (.int v3)], [], (197, i, (zRF b), l)) = some (.int (0 : Int32), (197, i, (zRF b), l)) := by
  refine (ze_iconst 220 zm185 dL_law_219 ci_0 rfl).trans ?_
  exact ze_zreturn zm185 dL_law_220 rfl (Or.inl rfl)
theorem b185_221 (sc : zScr) (v3 : Int32) (i : Nat → Nat → Int32) (b : Bool) (l : Nat → Nat → Int64) (h1 : vp_in (v3 + (1 : Int32)) sc.1) (h2 : vp_in (v3 + (2 : Int32)) sc.1) : zev sc (185, 221, [some (.retAddr 0), some (.ref 0), some (.ref 173), some (.int v3)], [], (197, i, (zRF b), l)) = (zev sc (77, 0, [some (.ref 0), some (.int (sc.2 ((v3 + (1 : Int32))).toNatClampNeg)), some (.int (sc.2 ((v3 + (2 : Int32))).toNatClampNeg))], [], (197, i, (zRF b), l))).bind (fun x => zev sc (185, 235, [some (.retAddr 0), some (.ref 0), some (.ref 173), some (.int v3)], [x.1], x.2)) := by
  refine (ze_aload_n 222 zm185 dL_law_221 rfl rfl).trans ?_
  refine (ze_aload_s 223 zm185 dL_law_222 rfl rfl).trans ?_
  refine (ze_iload_n 224 zm185 dL_law_223 rfl rfl).trans ?_
  refine (ze_iconst 225 zm185 dL_law_224 ci_1 rfl).trans ?_
  refine (ze_iadd 226 zm185 dL_law_225 rfl).trans ?_
  refine (ze_saload 227 zm185 dL_law_226 h1 rfl).trans ?_
  refine (ze_aload_s 228 zm185 dL_law_227 rfl rfl).trans ?_
  refine (ze_iload_n 229 zm185 dL_law_228 rfl rfl).trans ?_
  refine (ze_iconst 230 zm185 dL_law_229 ci_2 rfl).trans ?_
  refine (ze_iadd 231 zm185 dL_law_230 rfl).trans ?_
  refine (ze_saload 232 zm185 dL_law_231 h2 rfl).trans ?_
  exact ze_virtI (as := [.int (sc.2 ((v3 + (1 : Int32))).toNatClampNeg), .int (sc.2 ((v3 + (2 : Int32))).toNatClampNeg)]) (rest := []) 235 zm185 dL_law_232 r12_27 zm77 rfl rfl k0_9 rfl rfl rfl rfl
theorem b185_235 (sc : zScr) (v3 : Int32) (s0 : Int32) (i : Nat → Nat → Int32) (b : Bool) (l : Nat → Nat → Int64) (h1 : vp_in (v3 + (1 : Int32)) sc.1) (h2 : vp_in (v3 + (2 : Int32)) sc.1) : zev sc (185, 235, [some (.retAddr 0), some (.ref 0), some (.ref 173), some (.int v3)], [.int s0], (197, i, (zRF b), l)) = (zev sc (141, 0, [some (.ref 173), some (.int (sc.2 ((v3 + (1 : Int32))).toNatClampNeg)), some (.int (sc.2 ((v3 + (2 : Int32))).toNatClampNeg))], [], (197, i, (zRF b), l))).bind (fun x => zev sc (185, 249, [some (.retAddr 0), some (.ref 0), some (.ref 173), some (.int v3)], [x.1, .int s0], x.2)) := by
  refine (ze_aload_n 236 zm185 dL_law_235 rfl rfl).trans ?_
  refine (ze_aload_s 237 zm185 dL_law_236 rfl rfl).trans ?_
  refine (ze_iload_n 238 zm185 dL_law_237 rfl rfl).trans ?_
  refine (ze_iconst 239 zm185 dL_law_238 ci_1 rfl).trans ?_
  refine (ze_iadd 240 zm185 dL_law_239 rfl).trans ?_
  refine (ze_saload 241 zm185 dL_law_240 h1 rfl).trans ?_
  refine (ze_aload_s 242 zm185 dL_law_241 rfl rfl).trans ?_
  refine (ze_iload_n 243 zm185 dL_law_242 rfl rfl).trans ?_
  refine (ze_iconst 244 zm185 dL_law_243 ci_2 rfl).trans ?_
  refine (ze_iadd 245 zm185 dL_law_244 rfl).trans ?_
  refine (ze_saload 246 zm185 dL_law_245 h2 rfl).trans ?_
  exact ze_virtI (as := [.int (sc.2 ((v3 + (1 : Int32))).toNatClampNeg), .int (sc.2 ((v3 + (2 : Int32))).toNatClampNeg)]) (rest := [.int s0]) 249 zm185 dL_law_246 r12_31 zm141 rfl rfl k173_10 rfl rfl rfl rfl
theorem b185_249 (sc : zScr) (v3 : Int32) (s0 : Int32) (s1 : Int32) (i : Nat → Nat → Int32) (b : Bool) (l : Nat → Nat → Int64) : zev sc (185, 249, [some (.retAddr 0), some (.ref 0), some (.ref 173), some (.int v3)], [.int s0, .int s1], (197, i, (zRF b), l)) = if s1 = s0 then zev sc (185, 988, [some (.retAddr 0), some (.ref 0), some (.ref 173), some (.int v3)], [], (197, i, (zRF b), l)) else zev sc (185, 252, [some (.retAddr 0), some (.ref 0), some (.ref 173), some (.int v3)], [], (197, i, (zRF b), l)) := by
  exact ze_icmp_eq 988 252 zm185 dL_law_249 (by decide) rfl
theorem b185_252 (sc : zScr) (v3 : Int32) (i : Nat → Nat → Int32) (b : Bool) (l : Nat → Nat → Int64) : zev sc (185, 252, [some (.retAddr 0), some (.ref 0), some (.ref 173), some (.int v3)], [], (197, i, (zRF b), l)) = some (.int (0 : Int32), (197, i, (zRF b), l)) := by
  refine (ze_iconst 253 zm185 dL_law_252 ci_0 rfl).trans ?_
  exact ze_zreturn zm185 dL_law_253 rfl (Or.inl rfl)
theorem b185_254 (sc : zScr) (v3 : Int32) (i : Nat → Nat → Int32) (b : Bool) (l : Nat → Nat → Int64) (h1 : vp_in (v3 + (1 : Int32)) sc.1) (h2 : vp_in (v3 + (2 : Int32)) sc.1) : zev sc (185, 254, [some (.retAddr 0), some (.ref 0), some (.ref 173), some (.int v3)], [], (197, i, (zRF b), l)) = (zev sc (78, 0, [some (.ref 0), some (.int (sc.2 ((v3 + (1 : Int32))).toNatClampNeg)), some (.int (sc.2 ((v3 + (2 : Int32))).toNatClampNeg))], [], (197, i, (zRF b), l))).bind (fun x => zev sc (185, 268, [some (.retAddr 0), some (.ref 0), some (.ref 173), some (.int v3)], [x.1], x.2)) := by
  refine (ze_aload_n 255 zm185 dL_law_254 rfl rfl).trans ?_
  refine (ze_aload_s 256 zm185 dL_law_255 rfl rfl).trans ?_
  refine (ze_iload_n 257 zm185 dL_law_256 rfl rfl).trans ?_
  refine (ze_iconst 258 zm185 dL_law_257 ci_1 rfl).trans ?_
  refine (ze_iadd 259 zm185 dL_law_258 rfl).trans ?_
  refine (ze_saload 260 zm185 dL_law_259 h1 rfl).trans ?_
  refine (ze_aload_s 261 zm185 dL_law_260 rfl rfl).trans ?_
  refine (ze_iload_n 262 zm185 dL_law_261 rfl rfl).trans ?_
  refine (ze_iconst 263 zm185 dL_law_262 ci_2 rfl).trans ?_
  refine (ze_iadd 264 zm185 dL_law_263 rfl).trans ?_
  refine (ze_saload 265 zm185 dL_law_264 h2 rfl).trans ?_
  exact ze_virtI (as := [.int (sc.2 ((v3 + (1 : Int32))).toNatClampNeg), .int (sc.2 ((v3 + (2 : Int32))).toNatClampNeg)]) (rest := []) 268 zm185 dL_law_265 r12_32 zm78 rfl rfl k0_9 rfl rfl rfl rfl
theorem b185_268 (sc : zScr) (v3 : Int32) (s0 : Int32) (i : Nat → Nat → Int32) (b : Bool) (l : Nat → Nat → Int64) (h1 : vp_in (v3 + (1 : Int32)) sc.1) (h2 : vp_in (v3 + (2 : Int32)) sc.1) : zev sc (185, 268, [some (.retAddr 0), some (.ref 0), some (.ref 173), some (.int v3)], [.int s0], (197, i, (zRF b), l)) = (zev sc (142, 0, [some (.ref 173), some (.int (sc.2 ((v3 + (1 : Int32))).toNatClampNeg)), some (.int (sc.2 ((v3 + (2 : Int32))).toNatClampNeg))], [], (197, i, (zRF b), l))).bind (fun x => zev sc (185, 282, [some (.retAddr 0), some (.ref 0), some (.ref 173), some (.int v3)], [x.1, .int s0], x.2)) := by
  refine (ze_aload_n 269 zm185 dL_law_268 rfl rfl).trans ?_
  refine (ze_aload_s 270 zm185 dL_law_269 rfl rfl).trans ?_
  refine (ze_iload_n 271 zm185 dL_law_270 rfl rfl).trans ?_
  refine (ze_iconst 272 zm185 dL_law_271 ci_1 rfl).trans ?_
  refine (ze_iadd 273 zm185 dL_law_272 rfl).trans ?_
  refine (ze_saload 274 zm185 dL_law_273 h1 rfl).trans ?_
  refine (ze_aload_s 275 zm185 dL_law_274 rfl rfl).trans ?_
  refine (ze_iload_n 276 zm185 dL_law_275 rfl rfl).trans ?_
  refine (ze_iconst 277 zm185 dL_law_276 ci_2 rfl).trans ?_
  refine (ze_iadd 278 zm185 dL_law_277 rfl).trans ?_
  refine (ze_saload 279 zm185 dL_law_278 h2 rfl).trans ?_
  exact ze_virtI (as := [.int (sc.2 ((v3 + (1 : Int32))).toNatClampNeg), .int (sc.2 ((v3 + (2 : Int32))).toNatClampNeg)]) (rest := [.int s0]) 282 zm185 dL_law_279 r12_35 zm142 rfl rfl k173_10 rfl rfl rfl rfl
theorem b185_282 (sc : zScr) (v3 : Int32) (s0 : Int32) (s1 : Int32) (i : Nat → Nat → Int32) (b : Bool) (l : Nat → Nat → Int64) : zev sc (185, 282, [some (.retAddr 0), some (.ref 0), some (.ref 173), some (.int v3)], [.int s0, .int s1], (197, i, (zRF b), l)) = if s1 = s0 then zev sc (185, 988, [some (.retAddr 0), some (.ref 0), some (.ref 173), some (.int v3)], [], (197, i, (zRF b), l)) else zev sc (185, 285, [some (.retAddr 0), some (.ref 0), some (.ref 173), some (.int v3)], [], (197, i, (zRF b), l)) := by
  exact ze_icmp_eq 988 285 zm185 dL_law_282 (by decide) rfl
theorem b185_285 (sc : zScr) (v3 : Int32) (i : Nat → Nat → Int32) (b : Bool) (l : Nat → Nat → Int64) : zev sc (185, 285, [some (.retAddr 0), some (.ref 0), some (.ref 173), some (.int v3)], [], (197, i, (zRF b), l)) = some (.int (0 : Int32), (197, i, (zRF b), l)) := by
  refine (ze_iconst 286 zm185 dL_law_285 ci_0 rfl).trans ?_
  exact ze_zreturn zm185 dL_law_286 rfl (Or.inl rfl)
theorem b185_287 (sc : zScr) (v3 : Int32) (i : Nat → Nat → Int32) (b : Bool) (l : Nat → Nat → Int64) (h1 : vp_in (v3 + (1 : Int32)) sc.1) (h2 : vp_in (v3 + (2 : Int32)) sc.1) : zev sc (185, 287, [some (.retAddr 0), some (.ref 0), some (.ref 173), some (.int v3)], [], (197, i, (zRF b), l)) = (zev sc (79, 0, [some (.ref 0), some (.int (sc.2 ((v3 + (1 : Int32))).toNatClampNeg)), some (.int (sc.2 ((v3 + (2 : Int32))).toNatClampNeg))], [], (197, i, (zRF b), l))).bind (fun x => zev sc (185, 301, [some (.retAddr 0), some (.ref 0), some (.ref 173), some (.int v3)], [x.1], x.2)) := by
  refine (ze_aload_n 288 zm185 dL_law_287 rfl rfl).trans ?_
  refine (ze_aload_s 289 zm185 dL_law_288 rfl rfl).trans ?_
  refine (ze_iload_n 290 zm185 dL_law_289 rfl rfl).trans ?_
  refine (ze_iconst 291 zm185 dL_law_290 ci_1 rfl).trans ?_
  refine (ze_iadd 292 zm185 dL_law_291 rfl).trans ?_
  refine (ze_saload 293 zm185 dL_law_292 h1 rfl).trans ?_
  refine (ze_aload_s 294 zm185 dL_law_293 rfl rfl).trans ?_
  refine (ze_iload_n 295 zm185 dL_law_294 rfl rfl).trans ?_
  refine (ze_iconst 296 zm185 dL_law_295 ci_2 rfl).trans ?_
  refine (ze_iadd 297 zm185 dL_law_296 rfl).trans ?_
  refine (ze_saload 298 zm185 dL_law_297 h2 rfl).trans ?_
  exact ze_virtI (as := [.int (sc.2 ((v3 + (1 : Int32))).toNatClampNeg), .int (sc.2 ((v3 + (2 : Int32))).toNatClampNeg)]) (rest := []) 301 zm185 dL_law_298 r12_36 zm79 rfl rfl k0_9 rfl rfl rfl rfl
theorem b185_301 (sc : zScr) (v3 : Int32) (s0 : Int32) (i : Nat → Nat → Int32) (b : Bool) (l : Nat → Nat → Int64) (h1 : vp_in (v3 + (1 : Int32)) sc.1) (h2 : vp_in (v3 + (2 : Int32)) sc.1) : zev sc (185, 301, [some (.retAddr 0), some (.ref 0), some (.ref 173), some (.int v3)], [.int s0], (197, i, (zRF b), l)) = (zev sc (143, 0, [some (.ref 173), some (.int (sc.2 ((v3 + (1 : Int32))).toNatClampNeg)), some (.int (sc.2 ((v3 + (2 : Int32))).toNatClampNeg))], [], (197, i, (zRF b), l))).bind (fun x => zev sc (185, 315, [some (.retAddr 0), some (.ref 0), some (.ref 173), some (.int v3)], [x.1, .int s0], x.2)) := by
  refine (ze_aload_n 302 zm185 dL_law_301 rfl rfl).trans ?_
  refine (ze_aload_s 303 zm185 dL_law_302 rfl rfl).trans ?_
  refine (ze_iload_n 304 zm185 dL_law_303 rfl rfl).trans ?_
  refine (ze_iconst 305 zm185 dL_law_304 ci_1 rfl).trans ?_
  refine (ze_iadd 306 zm185 dL_law_305 rfl).trans ?_
  refine (ze_saload 307 zm185 dL_law_306 h1 rfl).trans ?_
  refine (ze_aload_s 308 zm185 dL_law_307 rfl rfl).trans ?_
  refine (ze_iload_n 309 zm185 dL_law_308 rfl rfl).trans ?_
  refine (ze_iconst 310 zm185 dL_law_309 ci_2 rfl).trans ?_
  refine (ze_iadd 311 zm185 dL_law_310 rfl).trans ?_
  refine (ze_saload 312 zm185 dL_law_311 h2 rfl).trans ?_
  exact ze_virtI (as := [.int (sc.2 ((v3 + (1 : Int32))).toNatClampNeg), .int (sc.2 ((v3 + (2 : Int32))).toNatClampNeg)]) (rest := [.int s0]) 315 zm185 dL_law_312 r12_39 zm143 rfl rfl k173_10 rfl rfl rfl rfl
theorem b185_315 (sc : zScr) (v3 : Int32) (s0 : Int32) (s1 : Int32) (i : Nat → Nat → Int32) (b : Bool) (l : Nat → Nat → Int64) : zev sc (185, 315, [some (.retAddr 0), some (.ref 0), some (.ref 173), some (.int v3)], [.int s0, .int s1], (197, i, (zRF b), l)) = if s1 = s0 then zev sc (185, 988, [some (.retAddr 0), some (.ref 0), some (.ref 173), some (.int v3)], [], (197, i, (zRF b), l)) else zev sc (185, 318, [some (.retAddr 0), some (.ref 0), some (.ref 173), some (.int v3)], [], (197, i, (zRF b), l)) := by
  exact ze_icmp_eq 988 318 zm185 dL_law_315 (by decide) rfl
theorem b185_318 (sc : zScr) (v3 : Int32) (i : Nat → Nat → Int32) (b : Bool) (l : Nat → Nat → Int64) : zev sc (185, 318, [some (.retAddr 0), some (.ref 0), some (.ref 173), some (.int v3)], [], (197, i, (zRF b), l)) = some (.int (0 : Int32), (197, i, (zRF b), l)) := by
  refine (ze_iconst 319 zm185 dL_law_318 ci_0 rfl).trans ?_
  exact ze_zreturn zm185 dL_law_319 rfl (Or.inl rfl)
theorem b185_320 (sc : zScr) (v3 : Int32) (i : Nat → Nat → Int32) (b : Bool) (l : Nat → Nat → Int64) (h1 : vp_in (v3 + (1 : Int32)) sc.1) (h2 : vp_in (v3 + (2 : Int32)) sc.1) : zev sc (185, 320, [some (.retAddr 0), some (.ref 0), some (.ref 173), some (.int v3)], [], (197, i, (zRF b), l)) = (zev sc (80, 0, [some (.ref 0), some (.int (sc.2 ((v3 + (1 : Int32))).toNatClampNeg)), some (.int (sc.2 ((v3 + (2 : Int32))).toNatClampNeg))], [], (197, i, (zRF b), l))).bind (fun x => zev sc (185, 334, [some (.retAddr 0), some (.ref 0), some (.ref 173), some (.int v3)], [x.1], x.2)) := by
  refine (ze_aload_n 321 zm185 dL_law_320 rfl rfl).trans ?_
  refine (ze_aload_s 322 zm185 dL_law_321 rfl rfl).trans ?_
  refine (ze_iload_n 323 zm185 dL_law_322 rfl rfl).trans ?_
  refine (ze_iconst 324 zm185 dL_law_323 ci_1 rfl).trans ?_
  refine (ze_iadd 325 zm185 dL_law_324 rfl).trans ?_
  refine (ze_saload 326 zm185 dL_law_325 h1 rfl).trans ?_
  refine (ze_aload_s 327 zm185 dL_law_326 rfl rfl).trans ?_
  refine (ze_iload_n 328 zm185 dL_law_327 rfl rfl).trans ?_
  refine (ze_iconst 329 zm185 dL_law_328 ci_2 rfl).trans ?_
  refine (ze_iadd 330 zm185 dL_law_329 rfl).trans ?_
  refine (ze_saload 331 zm185 dL_law_330 h2 rfl).trans ?_
  exact ze_virtI (as := [.int (sc.2 ((v3 + (1 : Int32))).toNatClampNeg), .int (sc.2 ((v3 + (2 : Int32))).toNatClampNeg)]) (rest := []) 334 zm185 dL_law_331 r12_40 zm80 rfl rfl k0_9 rfl rfl rfl rfl
theorem b185_334 (sc : zScr) (v3 : Int32) (s0 : Int32) (i : Nat → Nat → Int32) (b : Bool) (l : Nat → Nat → Int64) (h1 : vp_in (v3 + (1 : Int32)) sc.1) (h2 : vp_in (v3 + (2 : Int32)) sc.1) : zev sc (185, 334, [some (.retAddr 0), some (.ref 0), some (.ref 173), some (.int v3)], [.int s0], (197, i, (zRF b), l)) = (zev sc (144, 0, [some (.ref 173), some (.int (sc.2 ((v3 + (1 : Int32))).toNatClampNeg)), some (.int (sc.2 ((v3 + (2 : Int32))).toNatClampNeg))], [], (197, i, (zRF b), l))).bind (fun x => zev sc (185, 348, [some (.retAddr 0), some (.ref 0), some (.ref 173), some (.int v3)], [x.1, .int s0], x.2)) := by
  refine (ze_aload_n 335 zm185 dL_law_334 rfl rfl).trans ?_
  refine (ze_aload_s 336 zm185 dL_law_335 rfl rfl).trans ?_
  refine (ze_iload_n 337 zm185 dL_law_336 rfl rfl).trans ?_
  refine (ze_iconst 338 zm185 dL_law_337 ci_1 rfl).trans ?_
  refine (ze_iadd 339 zm185 dL_law_338 rfl).trans ?_
  refine (ze_saload 340 zm185 dL_law_339 h1 rfl).trans ?_
  refine (ze_aload_s 341 zm185 dL_law_340 rfl rfl).trans ?_
  refine (ze_iload_n 342 zm185 dL_law_341 rfl rfl).trans ?_
  refine (ze_iconst 343 zm185 dL_law_342 ci_2 rfl).trans ?_
  refine (ze_iadd 344 zm185 dL_law_343 rfl).trans ?_
  refine (ze_saload 345 zm185 dL_law_344 h2 rfl).trans ?_
  exact ze_virtI (as := [.int (sc.2 ((v3 + (1 : Int32))).toNatClampNeg), .int (sc.2 ((v3 + (2 : Int32))).toNatClampNeg)]) (rest := [.int s0]) 348 zm185 dL_law_345 r12_43 zm144 rfl rfl k173_10 rfl rfl rfl rfl
theorem b185_348 (sc : zScr) (v3 : Int32) (s0 : Int32) (s1 : Int32) (i : Nat → Nat → Int32) (b : Bool) (l : Nat → Nat → Int64) : zev sc (185, 348, [some (.retAddr 0), some (.ref 0), some (.ref 173), some (.int v3)], [.int s0, .int s1], (197, i, (zRF b), l)) = if s1 = s0 then zev sc (185, 988, [some (.retAddr 0), some (.ref 0), some (.ref 173), some (.int v3)], [], (197, i, (zRF b), l)) else zev sc (185, 351, [some (.retAddr 0), some (.ref 0), some (.ref 173), some (.int v3)], [], (197, i, (zRF b), l)) := by
  exact ze_icmp_eq 988 351 zm185 dL_law_348 (by decide) rfl
theorem b185_351 (sc : zScr) (v3 : Int32) (i : Nat → Nat → Int32) (b : Bool) (l : Nat → Nat → Int64) : zev sc (185, 351, [some (.retAddr 0), some (.ref 0), some (.ref 173), some (.int v3)], [], (197, i, (zRF b), l)) = some (.int (0 : Int32), (197, i, (zRF b), l)) := by
  refine (ze_iconst 352 zm185 dL_law_351 ci_0 rfl).trans ?_
  exact ze_zreturn zm185 dL_law_352 rfl (Or.inl rfl)
theorem b185_353 (sc : zScr) (v3 : Int32) (i : Nat → Nat → Int32) (b : Bool) (l : Nat → Nat → Int64) (h1 : vp_in (v3 + (1 : Int32)) sc.1) (h2 : vp_in (v3 + (2 : Int32)) sc.1) : zev sc (185, 353, [some (.retAddr 0), some (.ref 0), some (.ref 173), some (.int v3)], [], (197, i, (zRF b), l)) = (zev sc (81, 0, [some (.ref 0), some (.int (sc.2 ((v3 + (1 : Int32))).toNatClampNeg)), some (.int (sc.2 ((v3 + (2 : Int32))).toNatClampNeg)), none, none], [], (197, i, (zRF b), l))).bind (fun x => zev sc (185, 367, [some (.retAddr 0), some (.ref 0), some (.ref 173), some (.int v3)], [x.1], x.2)) := by
  refine (ze_aload_n 354 zm185 dL_law_353 rfl rfl).trans ?_
  refine (ze_aload_s 355 zm185 dL_law_354 rfl rfl).trans ?_
  refine (ze_iload_n 356 zm185 dL_law_355 rfl rfl).trans ?_
  refine (ze_iconst 357 zm185 dL_law_356 ci_1 rfl).trans ?_
  refine (ze_iadd 358 zm185 dL_law_357 rfl).trans ?_
  refine (ze_saload 359 zm185 dL_law_358 h1 rfl).trans ?_
  refine (ze_aload_s 360 zm185 dL_law_359 rfl rfl).trans ?_
  refine (ze_iload_n 361 zm185 dL_law_360 rfl rfl).trans ?_
  refine (ze_iconst 362 zm185 dL_law_361 ci_2 rfl).trans ?_
  refine (ze_iadd 363 zm185 dL_law_362 rfl).trans ?_
  refine (ze_saload 364 zm185 dL_law_363 h2 rfl).trans ?_
  exact ze_virtI (as := [.int (sc.2 ((v3 + (1 : Int32))).toNatClampNeg), .int (sc.2 ((v3 + (2 : Int32))).toNatClampNeg)]) (rest := []) 367 zm185 dL_law_364 r12_44 zm81 rfl rfl k0_9 rfl rfl rfl rfl
theorem b185_367 (sc : zScr) (v3 : Int32) (s0 : Int32) (i : Nat → Nat → Int32) (b : Bool) (l : Nat → Nat → Int64) (h1 : vp_in (v3 + (1 : Int32)) sc.1) (h2 : vp_in (v3 + (2 : Int32)) sc.1) : zev sc (185, 367, [some (.retAddr 0), some (.ref 0), some (.ref 173), some (.int v3)], [.int s0], (197, i, (zRF b), l)) = (zev sc (147, 0, [some (.ref 173), some (.int (sc.2 ((v3 + (1 : Int32))).toNatClampNeg)), some (.int (sc.2 ((v3 + (2 : Int32))).toNatClampNeg)), none], [], (197, i, (zRF b), l))).bind (fun x => zev sc (185, 381, [some (.retAddr 0), some (.ref 0), some (.ref 173), some (.int v3)], [x.1, .int s0], x.2)) := by
  refine (ze_aload_n 368 zm185 dL_law_367 rfl rfl).trans ?_
  refine (ze_aload_s 369 zm185 dL_law_368 rfl rfl).trans ?_
  refine (ze_iload_n 370 zm185 dL_law_369 rfl rfl).trans ?_
  refine (ze_iconst 371 zm185 dL_law_370 ci_1 rfl).trans ?_
  refine (ze_iadd 372 zm185 dL_law_371 rfl).trans ?_
  refine (ze_saload 373 zm185 dL_law_372 h1 rfl).trans ?_
  refine (ze_aload_s 374 zm185 dL_law_373 rfl rfl).trans ?_
  refine (ze_iload_n 375 zm185 dL_law_374 rfl rfl).trans ?_
  refine (ze_iconst 376 zm185 dL_law_375 ci_2 rfl).trans ?_
  refine (ze_iadd 377 zm185 dL_law_376 rfl).trans ?_
  refine (ze_saload 378 zm185 dL_law_377 h2 rfl).trans ?_
  exact ze_virtI (as := [.int (sc.2 ((v3 + (1 : Int32))).toNatClampNeg), .int (sc.2 ((v3 + (2 : Int32))).toNatClampNeg)]) (rest := [.int s0]) 381 zm185 dL_law_378 r12_47 zm147 rfl rfl k173_10 rfl rfl rfl rfl
theorem b185_381 (sc : zScr) (v3 : Int32) (s0 : Int32) (s1 : Int32) (i : Nat → Nat → Int32) (b : Bool) (l : Nat → Nat → Int64) : zev sc (185, 381, [some (.retAddr 0), some (.ref 0), some (.ref 173), some (.int v3)], [.int s0, .int s1], (197, i, (zRF b), l)) = if s1 = s0 then zev sc (185, 988, [some (.retAddr 0), some (.ref 0), some (.ref 173), some (.int v3)], [], (197, i, (zRF b), l)) else zev sc (185, 384, [some (.retAddr 0), some (.ref 0), some (.ref 173), some (.int v3)], [], (197, i, (zRF b), l)) := by
  exact ze_icmp_eq 988 384 zm185 dL_law_381 (by decide) rfl
theorem b185_384 (sc : zScr) (v3 : Int32) (i : Nat → Nat → Int32) (b : Bool) (l : Nat → Nat → Int64) : zev sc (185, 384, [some (.retAddr 0), some (.ref 0), some (.ref 173), some (.int v3)], [], (197, i, (zRF b), l)) = some (.int (0 : Int32), (197, i, (zRF b), l)) := by
  refine (ze_iconst 385 zm185 dL_law_384 ci_0 rfl).trans ?_
  exact ze_zreturn zm185 dL_law_385 rfl (Or.inl rfl)
theorem b185_386 (sc : zScr) (v3 : Int32) (i : Nat → Nat → Int32) (b : Bool) (l : Nat → Nat → Int64) (h1 : vp_in (v3 + (1 : Int32)) sc.1) (h2 : vp_in (v3 + (2 : Int32)) sc.1) : zev sc (185, 386, [some (.retAddr 0), some (.ref 0), some (.ref 173), some (.int v3)], [], (197, i, (zRF b), l)) = (zev sc (82, 0, [some (.ref 0), some (.int (sc.2 ((v3 + (1 : Int32))).toNatClampNeg)), some (.int (sc.2 ((v3 + (2 : Int32))).toNatClampNeg))], [], (197, i, (zRF b), l))).bind (fun x => zev sc (185, 400, [some (.retAddr 0), some (.ref 0), some (.ref 173), some (.int v3)], [x.1], x.2)) := by
  refine (ze_aload_n 387 zm185 dL_law_386 rfl rfl).trans ?_
  refine (ze_aload_s 388 zm185 dL_law_387 rfl rfl).trans ?_
  refine (ze_iload_n 389 zm185 dL_law_388 rfl rfl).trans ?_
  refine (ze_iconst 390 zm185 dL_law_389 ci_1 rfl).trans ?_
  refine (ze_iadd 391 zm185 dL_law_390 rfl).trans ?_
  refine (ze_saload 392 zm185 dL_law_391 h1 rfl).trans ?_
  refine (ze_aload_s 393 zm185 dL_law_392 rfl rfl).trans ?_
  refine (ze_iload_n 394 zm185 dL_law_393 rfl rfl).trans ?_
  refine (ze_iconst 395 zm185 dL_law_394 ci_2 rfl).trans ?_
  refine (ze_iadd 396 zm185 dL_law_395 rfl).trans ?_
  refine (ze_saload 397 zm185 dL_law_396 h2 rfl).trans ?_
  exact ze_virtI (as := [.int (sc.2 ((v3 + (1 : Int32))).toNatClampNeg), .int (sc.2 ((v3 + (2 : Int32))).toNatClampNeg)]) (rest := []) 400 zm185 dL_law_397 r12_48 zm82 rfl rfl k0_9 rfl rfl rfl rfl
theorem b185_400 (sc : zScr) (v3 : Int32) (s0 : Int32) (i : Nat → Nat → Int32) (b : Bool) (l : Nat → Nat → Int64) (h1 : vp_in (v3 + (1 : Int32)) sc.1) (h2 : vp_in (v3 + (2 : Int32)) sc.1) : zev sc (185, 400, [some (.retAddr 0), some (.ref 0), some (.ref 173), some (.int v3)], [.int s0], (197, i, (zRF b), l)) = (zev sc (148, 0, [some (.ref 173), some (.int (sc.2 ((v3 + (1 : Int32))).toNatClampNeg)), some (.int (sc.2 ((v3 + (2 : Int32))).toNatClampNeg))], [], (197, i, (zRF b), l))).bind (fun x => zev sc (185, 414, [some (.retAddr 0), some (.ref 0), some (.ref 173), some (.int v3)], [x.1, .int s0], x.2)) := by
  refine (ze_aload_n 401 zm185 dL_law_400 rfl rfl).trans ?_
  refine (ze_aload_s 402 zm185 dL_law_401 rfl rfl).trans ?_
  refine (ze_iload_n 403 zm185 dL_law_402 rfl rfl).trans ?_
  refine (ze_iconst 404 zm185 dL_law_403 ci_1 rfl).trans ?_
  refine (ze_iadd 405 zm185 dL_law_404 rfl).trans ?_
  refine (ze_saload 406 zm185 dL_law_405 h1 rfl).trans ?_
  refine (ze_aload_s 407 zm185 dL_law_406 rfl rfl).trans ?_
  refine (ze_iload_n 408 zm185 dL_law_407 rfl rfl).trans ?_
  refine (ze_iconst 409 zm185 dL_law_408 ci_2 rfl).trans ?_
  refine (ze_iadd 410 zm185 dL_law_409 rfl).trans ?_
  refine (ze_saload 411 zm185 dL_law_410 h2 rfl).trans ?_
  exact ze_virtI (as := [.int (sc.2 ((v3 + (1 : Int32))).toNatClampNeg), .int (sc.2 ((v3 + (2 : Int32))).toNatClampNeg)]) (rest := [.int s0]) 414 zm185 dL_law_411 r12_51 zm148 rfl rfl k173_10 rfl rfl rfl rfl
theorem b185_414 (sc : zScr) (v3 : Int32) (s0 : Int32) (s1 : Int32) (i : Nat → Nat → Int32) (b : Bool) (l : Nat → Nat → Int64) : zev sc (185, 414, [some (.retAddr 0), some (.ref 0), some (.ref 173), some (.int v3)], [.int s0, .int s1], (197, i, (zRF b), l)) = if s1 = s0 then zev sc (185, 988, [some (.retAddr 0), some (.ref 0), some (.ref 173), some (.int v3)], [], (197, i, (zRF b), l)) else zev sc (185, 417, [some (.retAddr 0), some (.ref 0), some (.ref 173), some (.int v3)], [], (197, i, (zRF b), l)) := by
  exact ze_icmp_eq 988 417 zm185 dL_law_414 (by decide) rfl
theorem b185_417 (sc : zScr) (v3 : Int32) (i : Nat → Nat → Int32) (b : Bool) (l : Nat → Nat → Int64) : zev sc (185, 417, [some (.retAddr 0), some (.ref 0), some (.ref 173), some (.int v3)], [], (197, i, (zRF b), l)) = some (.int (0 : Int32), (197, i, (zRF b), l)) := by
  refine (ze_iconst 418 zm185 dL_law_417 ci_0 rfl).trans ?_
  exact ze_zreturn zm185 dL_law_418 rfl (Or.inl rfl)
theorem b185_419 (sc : zScr) (v3 : Int32) (i : Nat → Nat → Int32) (b : Bool) (l : Nat → Nat → Int64) (h1 : vp_in (v3 + (1 : Int32)) sc.1) (h2 : vp_in (v3 + (2 : Int32)) sc.1) : zev sc (185, 419, [some (.retAddr 0), some (.ref 0), some (.ref 173), some (.int v3)], [], (197, i, (zRF b), l)) = (zev sc (83, 0, [some (.ref 0), some (.int (sc.2 ((v3 + (1 : Int32))).toNatClampNeg)), some (.int (sc.2 ((v3 + (2 : Int32))).toNatClampNeg)), none], [], (197, i, (zRF b), l))).bind (fun x => zev sc (185, 433, [some (.retAddr 0), some (.ref 0), some (.ref 173), some (.int v3)], [x.1], x.2)) := by
  refine (ze_aload_n 420 zm185 dL_law_419 rfl rfl).trans ?_
  refine (ze_aload_s 421 zm185 dL_law_420 rfl rfl).trans ?_
  refine (ze_iload_n 422 zm185 dL_law_421 rfl rfl).trans ?_
  refine (ze_iconst 423 zm185 dL_law_422 ci_1 rfl).trans ?_
  refine (ze_iadd 424 zm185 dL_law_423 rfl).trans ?_
  refine (ze_saload 425 zm185 dL_law_424 h1 rfl).trans ?_
  refine (ze_aload_s 426 zm185 dL_law_425 rfl rfl).trans ?_
  refine (ze_iload_n 427 zm185 dL_law_426 rfl rfl).trans ?_
  refine (ze_iconst 428 zm185 dL_law_427 ci_2 rfl).trans ?_
  refine (ze_iadd 429 zm185 dL_law_428 rfl).trans ?_
  refine (ze_saload 430 zm185 dL_law_429 h2 rfl).trans ?_
  exact ze_virtI (as := [.int (sc.2 ((v3 + (1 : Int32))).toNatClampNeg), .int (sc.2 ((v3 + (2 : Int32))).toNatClampNeg)]) (rest := []) 433 zm185 dL_law_430 r12_52 zm83 rfl rfl k0_9 rfl rfl rfl rfl
theorem b185_433 (sc : zScr) (v3 : Int32) (s0 : Int32) (i : Nat → Nat → Int32) (b : Bool) (l : Nat → Nat → Int64) (h1 : vp_in (v3 + (1 : Int32)) sc.1) (h2 : vp_in (v3 + (2 : Int32)) sc.1) : zev sc (185, 433, [some (.retAddr 0), some (.ref 0), some (.ref 173), some (.int v3)], [.int s0], (197, i, (zRF b), l)) = (zev sc (149, 0, [some (.ref 173), some (.int (sc.2 ((v3 + (1 : Int32))).toNatClampNeg)), some (.int (sc.2 ((v3 + (2 : Int32))).toNatClampNeg)), none], [], (197, i, (zRF b), l))).bind (fun x => zev sc (185, 447, [some (.retAddr 0), some (.ref 0), some (.ref 173), some (.int v3)], [x.1, .int s0], x.2)) := by
  refine (ze_aload_n 434 zm185 dL_law_433 rfl rfl).trans ?_
  refine (ze_aload_s 435 zm185 dL_law_434 rfl rfl).trans ?_
  refine (ze_iload_n 436 zm185 dL_law_435 rfl rfl).trans ?_
  refine (ze_iconst 437 zm185 dL_law_436 ci_1 rfl).trans ?_
  refine (ze_iadd 438 zm185 dL_law_437 rfl).trans ?_
  refine (ze_saload 439 zm185 dL_law_438 h1 rfl).trans ?_
  refine (ze_aload_s 440 zm185 dL_law_439 rfl rfl).trans ?_
  refine (ze_iload_n 441 zm185 dL_law_440 rfl rfl).trans ?_
  refine (ze_iconst 442 zm185 dL_law_441 ci_2 rfl).trans ?_
  refine (ze_iadd 443 zm185 dL_law_442 rfl).trans ?_
  refine (ze_saload 444 zm185 dL_law_443 h2 rfl).trans ?_
  exact ze_virtI (as := [.int (sc.2 ((v3 + (1 : Int32))).toNatClampNeg), .int (sc.2 ((v3 + (2 : Int32))).toNatClampNeg)]) (rest := [.int s0]) 447 zm185 dL_law_444 r12_55 zm149 rfl rfl k173_10 rfl rfl rfl rfl
theorem b185_447 (sc : zScr) (v3 : Int32) (s0 : Int32) (s1 : Int32) (i : Nat → Nat → Int32) (b : Bool) (l : Nat → Nat → Int64) : zev sc (185, 447, [some (.retAddr 0), some (.ref 0), some (.ref 173), some (.int v3)], [.int s0, .int s1], (197, i, (zRF b), l)) = if s1 = s0 then zev sc (185, 988, [some (.retAddr 0), some (.ref 0), some (.ref 173), some (.int v3)], [], (197, i, (zRF b), l)) else zev sc (185, 450, [some (.retAddr 0), some (.ref 0), some (.ref 173), some (.int v3)], [], (197, i, (zRF b), l)) := by
  exact ze_icmp_eq 988 450 zm185 dL_law_447 (by decide) rfl
theorem b185_450 (sc : zScr) (v3 : Int32) (i : Nat → Nat → Int32) (b : Bool) (l : Nat → Nat → Int64) : zev sc (185, 450, [some (.retAddr 0), some (.ref 0), some (.ref 173), some (.int v3)], [], (197, i, (zRF b), l)) = some (.int (0 : Int32), (197, i, (zRF b), l)) := by
  refine (ze_iconst 451 zm185 dL_law_450 ci_0 rfl).trans ?_
  exact ze_zreturn zm185 dL_law_451 rfl (Or.inl rfl)
theorem b185_452 (sc : zScr) (v3 : Int32) (i : Nat → Nat → Int32) (b : Bool) (l : Nat → Nat → Int64) (h1 : vp_in (v3 + (1 : Int32)) sc.1) : zev sc (185, 452, [some (.retAddr 0), some (.ref 0), some (.ref 173), some (.int v3)], [], (197, i, (zRF b), l)) = (zev sc (84, 0, [some (.ref 0), some (.int (sc.2 ((v3 + (1 : Int32))).toNatClampNeg)), none], [], (197, i, (zRF b), l))).bind (fun x => zev sc (185, 461, [some (.retAddr 0), some (.ref 0), some (.ref 173), some (.int v3)], [x.1], x.2)) := by
  refine (ze_aload_n 453 zm185 dL_law_452 rfl rfl).trans ?_
  refine (ze_aload_s 454 zm185 dL_law_453 rfl rfl).trans ?_
  refine (ze_iload_n 455 zm185 dL_law_454 rfl rfl).trans ?_
  refine (ze_iconst 456 zm185 dL_law_455 ci_1 rfl).trans ?_
  refine (ze_iadd 457 zm185 dL_law_456 rfl).trans ?_
  refine (ze_saload 458 zm185 dL_law_457 h1 rfl).trans ?_
  exact ze_virtI (as := [.int (sc.2 ((v3 + (1 : Int32))).toNatClampNeg)]) (rest := []) 461 zm185 dL_law_458 r12_56 zm84 rfl rfl k0_9 rfl rfl rfl rfl
theorem b185_461 (sc : zScr) (v3 : Int32) (s0 : Int32) (i : Nat → Nat → Int32) (b : Bool) (l : Nat → Nat → Int64) (h1 : vp_in (v3 + (1 : Int32)) sc.1) : zev sc (185, 461, [some (.retAddr 0), some (.ref 0), some (.ref 173), some (.int v3)], [.int s0], (197, i, (zRF b), l)) = (zev sc (150, 0, [some (.ref 173), some (.int (sc.2 ((v3 + (1 : Int32))).toNatClampNeg)), none], [], (197, i, (zRF b), l))).bind (fun x => zev sc (185, 470, [some (.retAddr 0), some (.ref 0), some (.ref 173), some (.int v3)], [x.1, .int s0], x.2)) := by
  refine (ze_aload_n 462 zm185 dL_law_461 rfl rfl).trans ?_
  refine (ze_aload_s 463 zm185 dL_law_462 rfl rfl).trans ?_
  refine (ze_iload_n 464 zm185 dL_law_463 rfl rfl).trans ?_
  refine (ze_iconst 465 zm185 dL_law_464 ci_1 rfl).trans ?_
  refine (ze_iadd 466 zm185 dL_law_465 rfl).trans ?_
  refine (ze_saload 467 zm185 dL_law_466 h1 rfl).trans ?_
  exact ze_virtI (as := [.int (sc.2 ((v3 + (1 : Int32))).toNatClampNeg)]) (rest := [.int s0]) 470 zm185 dL_law_467 r12_59 zm150 rfl rfl k173_10 rfl rfl rfl rfl
theorem b185_470 (sc : zScr) (v3 : Int32) (s0 : Int32) (s1 : Int32) (i : Nat → Nat → Int32) (b : Bool) (l : Nat → Nat → Int64) : zev sc (185, 470, [some (.retAddr 0), some (.ref 0), some (.ref 173), some (.int v3)], [.int s0, .int s1], (197, i, (zRF b), l)) = if s1 = s0 then zev sc (185, 988, [some (.retAddr 0), some (.ref 0), some (.ref 173), some (.int v3)], [], (197, i, (zRF b), l)) else zev sc (185, 473, [some (.retAddr 0), some (.ref 0), some (.ref 173), some (.int v3)], [], (197, i, (zRF b), l)) := by
  exact ze_icmp_eq 988 473 zm185 dL_law_470 (by decide) rfl
theorem b185_473 (sc : zScr) (v3 : Int32) (i : Nat → Nat → Int32) (b : Bool) (l : Nat → Nat → Int64) : zev sc (185, 473, [some (.retAddr 0), some (.ref 0), some (.ref 173), some (.int v3)], [], (197, i, (zRF b), l)) = some (.int (0 : Int32), (197, i, (zRF b), l)) := by
  refine (ze_iconst 474 zm185 dL_law_473 ci_0 rfl).trans ?_
  exact ze_zreturn zm185 dL_law_474 rfl (Or.inl rfl)
theorem b185_475 (sc : zScr) (v3 : Int32) (i : Nat → Nat → Int32) (b : Bool) (l : Nat → Nat → Int64) (h1 : vp_in (v3 + (1 : Int32)) sc.1) : zev sc (185, 475, [some (.retAddr 0), some (.ref 0), some (.ref 173), some (.int v3)], [], (197, i, (zRF b), l)) = (zev sc (85, 0, [some (.ref 0), some (.int (sc.2 ((v3 + (1 : Int32))).toNatClampNeg)), none], [], (197, i, (zRF b), l))).bind (fun x => zev sc (185, 484, [some (.retAddr 0), some (.ref 0), some (.ref 173), some (.int v3)], [x.1], x.2)) := by
  refine (ze_aload_n 476 zm185 dL_law_475 rfl rfl).trans ?_
  refine (ze_aload_s 477 zm185 dL_law_476 rfl rfl).trans ?_
  refine (ze_iload_n 478 zm185 dL_law_477 rfl rfl).trans ?_
  refine (ze_iconst 479 zm185 dL_law_478 ci_1 rfl).trans ?_
  refine (ze_iadd 480 zm185 dL_law_479 rfl).trans ?_
  refine (ze_saload 481 zm185 dL_law_480 h1 rfl).trans ?_
  exact ze_virtI (as := [.int (sc.2 ((v3 + (1 : Int32))).toNatClampNeg)]) (rest := []) 484 zm185 dL_law_481 r12_60 zm85 rfl rfl k0_9 rfl rfl rfl rfl
theorem b185_484 (sc : zScr) (v3 : Int32) (s0 : Int32) (i : Nat → Nat → Int32) (b : Bool) (l : Nat → Nat → Int64) (h1 : vp_in (v3 + (1 : Int32)) sc.1) : zev sc (185, 484, [some (.retAddr 0), some (.ref 0), some (.ref 173), some (.int v3)], [.int s0], (197, i, (zRF b), l)) = (zev sc (151, 0, [some (.ref 173), some (.int (sc.2 ((v3 + (1 : Int32))).toNatClampNeg))], [], (197, i, (zRF b), l))).bind (fun x => zev sc (185, 493, [some (.retAddr 0), some (.ref 0), some (.ref 173), some (.int v3)], [x.1, .int s0], x.2)) := by
  refine (ze_aload_n 485 zm185 dL_law_484 rfl rfl).trans ?_
  refine (ze_aload_s 486 zm185 dL_law_485 rfl rfl).trans ?_
  refine (ze_iload_n 487 zm185 dL_law_486 rfl rfl).trans ?_
  refine (ze_iconst 488 zm185 dL_law_487 ci_1 rfl).trans ?_
  refine (ze_iadd 489 zm185 dL_law_488 rfl).trans ?_
  refine (ze_saload 490 zm185 dL_law_489 h1 rfl).trans ?_
  exact ze_virtI (as := [.int (sc.2 ((v3 + (1 : Int32))).toNatClampNeg)]) (rest := [.int s0]) 493 zm185 dL_law_490 r12_63 zm151 rfl rfl k173_10 rfl rfl rfl rfl
theorem b185_493 (sc : zScr) (v3 : Int32) (s0 : Int32) (s1 : Int32) (i : Nat → Nat → Int32) (b : Bool) (l : Nat → Nat → Int64) : zev sc (185, 493, [some (.retAddr 0), some (.ref 0), some (.ref 173), some (.int v3)], [.int s0, .int s1], (197, i, (zRF b), l)) = if s1 = s0 then zev sc (185, 988, [some (.retAddr 0), some (.ref 0), some (.ref 173), some (.int v3)], [], (197, i, (zRF b), l)) else zev sc (185, 496, [some (.retAddr 0), some (.ref 0), some (.ref 173), some (.int v3)], [], (197, i, (zRF b), l)) := by
  exact ze_icmp_eq 988 496 zm185 dL_law_493 (by decide) rfl
theorem b185_496 (sc : zScr) (v3 : Int32) (i : Nat → Nat → Int32) (b : Bool) (l : Nat → Nat → Int64) : zev sc (185, 496, [some (.retAddr 0), some (.ref 0), some (.ref 173), some (.int v3)], [], (197, i, (zRF b), l)) = some (.int (0 : Int32), (197, i, (zRF b), l)) := by
  refine (ze_iconst 497 zm185 dL_law_496 ci_0 rfl).trans ?_
  exact ze_zreturn zm185 dL_law_497 rfl (Or.inl rfl)
theorem b185_498 (sc : zScr) (v3 : Int32) (i : Nat → Nat → Int32) (b : Bool) (l : Nat → Nat → Int64) : zev sc (185, 498, [some (.retAddr 0), some (.ref 0), some (.ref 173), some (.int v3)], [], (197, i, (zRF b), l)) = (zev sc (86, 0, [some (.ref 0)], [], (197, i, (zRF b), l))).bind (fun x => zev sc (185, 502, [some (.retAddr 0), some (.ref 0), some (.ref 173), some (.int v3)], [x.1], x.2)) := by
  refine (ze_aload_n 499 zm185 dL_law_498 rfl rfl).trans ?_
  exact ze_virtI (as := []) (rest := []) 502 zm185 dL_law_499 r12_64 zm86 rfl rfl k0_9 rfl rfl rfl rfl
theorem b185_502 (sc : zScr) (v3 : Int32) (s0 : Int32) (i : Nat → Nat → Int32) (b : Bool) (l : Nat → Nat → Int64) : zev sc (185, 502, [some (.retAddr 0), some (.ref 0), some (.ref 173), some (.int v3)], [.int s0], (197, i, (zRF b), l)) = (zev sc (152, 0, [some (.ref 173), none], [], (197, i, (zRF b), l))).bind (fun x => zev sc (185, 506, [some (.retAddr 0), some (.ref 0), some (.ref 173), some (.int v3)], [x.1, .int s0], x.2)) := by
  refine (ze_aload_n 503 zm185 dL_law_502 rfl rfl).trans ?_
  exact ze_virtI (as := []) (rest := [.int s0]) 506 zm185 dL_law_503 r12_67 zm152 rfl rfl k173_10 rfl rfl rfl rfl
theorem b185_506 (sc : zScr) (v3 : Int32) (s0 : Int32) (s1 : Int32) (i : Nat → Nat → Int32) (b : Bool) (l : Nat → Nat → Int64) : zev sc (185, 506, [some (.retAddr 0), some (.ref 0), some (.ref 173), some (.int v3)], [.int s0, .int s1], (197, i, (zRF b), l)) = if s1 = s0 then zev sc (185, 988, [some (.retAddr 0), some (.ref 0), some (.ref 173), some (.int v3)], [], (197, i, (zRF b), l)) else zev sc (185, 509, [some (.retAddr 0), some (.ref 0), some (.ref 173), some (.int v3)], [], (197, i, (zRF b), l)) := by
  exact ze_icmp_eq 988 509 zm185 dL_law_506 (by decide) rfl
theorem b185_509 (sc : zScr) (v3 : Int32) (i : Nat → Nat → Int32) (b : Bool) (l : Nat → Nat → Int64) : zev sc (185, 509, [some (.retAddr 0), some (.ref 0), some (.ref 173), some (.int v3)], [], (197, i, (zRF b), l)) = some (.int (0 : Int32), (197, i, (zRF b), l)) := by
  refine (ze_iconst 510 zm185 dL_law_509 ci_0 rfl).trans ?_
  exact ze_zreturn zm185 dL_law_510 rfl (Or.inl rfl)
theorem b185_511 (sc : zScr) (v3 : Int32) (i : Nat → Nat → Int32) (b : Bool) (l : Nat → Nat → Int64) (h1 : vp_in (v3 + (1 : Int32)) sc.1) : zev sc (185, 511, [some (.retAddr 0), some (.ref 0), some (.ref 173), some (.int v3)], [], (197, i, (zRF b), l)) = (zev sc (87, 0, [some (.ref 0), some (.int (sc.2 ((v3 + (1 : Int32))).toNatClampNeg))], [], (197, i, (zRF b), l))).bind (fun x => zev sc (185, 520, [some (.retAddr 0), some (.ref 0), some (.ref 173), some (.int v3)], [x.1], x.2)) := by
  refine (ze_aload_n 512 zm185 dL_law_511 rfl rfl).trans ?_
  refine (ze_aload_s 513 zm185 dL_law_512 rfl rfl).trans ?_
  refine (ze_iload_n 514 zm185 dL_law_513 rfl rfl).trans ?_
  refine (ze_iconst 515 zm185 dL_law_514 ci_1 rfl).trans ?_
  refine (ze_iadd 516 zm185 dL_law_515 rfl).trans ?_
  refine (ze_saload 517 zm185 dL_law_516 h1 rfl).trans ?_
  exact ze_virtI (as := [.int (sc.2 ((v3 + (1 : Int32))).toNatClampNeg)]) (rest := []) 520 zm185 dL_law_517 r12_68 zm87 rfl rfl k0_9 rfl rfl rfl rfl
theorem b185_520 (sc : zScr) (v3 : Int32) (s0 : Int32) (i : Nat → Nat → Int32) (b : Bool) (l : Nat → Nat → Int64) (h1 : vp_in (v3 + (1 : Int32)) sc.1) : zev sc (185, 520, [some (.retAddr 0), some (.ref 0), some (.ref 173), some (.int v3)], [.int s0], (197, i, (zRF b), l)) = (zev sc (158, 0, [some (.ref 173), some (.int (sc.2 ((v3 + (1 : Int32))).toNatClampNeg))], [], (197, i, (zRF b), l))).bind (fun x => zev sc (185, 529, [some (.retAddr 0), some (.ref 0), some (.ref 173), some (.int v3)], [x.1, .int s0], x.2)) := by
  refine (ze_aload_n 521 zm185 dL_law_520 rfl rfl).trans ?_
  refine (ze_aload_s 522 zm185 dL_law_521 rfl rfl).trans ?_
  refine (ze_iload_n 523 zm185 dL_law_522 rfl rfl).trans ?_
  refine (ze_iconst 524 zm185 dL_law_523 ci_1 rfl).trans ?_
  refine (ze_iadd 525 zm185 dL_law_524 rfl).trans ?_
  refine (ze_saload 526 zm185 dL_law_525 h1 rfl).trans ?_
  exact ze_virtI (as := [.int (sc.2 ((v3 + (1 : Int32))).toNatClampNeg)]) (rest := [.int s0]) 529 zm185 dL_law_526 r12_71 zm158 rfl rfl k173_10 rfl rfl rfl rfl
theorem b185_529 (sc : zScr) (v3 : Int32) (s0 : Int32) (s1 : Int32) (i : Nat → Nat → Int32) (b : Bool) (l : Nat → Nat → Int64) : zev sc (185, 529, [some (.retAddr 0), some (.ref 0), some (.ref 173), some (.int v3)], [.int s0, .int s1], (197, i, (zRF b), l)) = if s1 = s0 then zev sc (185, 988, [some (.retAddr 0), some (.ref 0), some (.ref 173), some (.int v3)], [], (197, i, (zRF b), l)) else zev sc (185, 532, [some (.retAddr 0), some (.ref 0), some (.ref 173), some (.int v3)], [], (197, i, (zRF b), l)) := by
  exact ze_icmp_eq 988 532 zm185 dL_law_529 (by decide) rfl
theorem b185_532 (sc : zScr) (v3 : Int32) (i : Nat → Nat → Int32) (b : Bool) (l : Nat → Nat → Int64) : zev sc (185, 532, [some (.retAddr 0), some (.ref 0), some (.ref 173), some (.int v3)], [], (197, i, (zRF b), l)) = some (.int (0 : Int32), (197, i, (zRF b), l)) := by
  refine (ze_iconst 533 zm185 dL_law_532 ci_0 rfl).trans ?_
  exact ze_zreturn zm185 dL_law_533 rfl (Or.inl rfl)
theorem b185_534 (sc : zScr) (v3 : Int32) (i : Nat → Nat → Int32) (b : Bool) (l : Nat → Nat → Int64) (h1 : vp_in (v3 + (1 : Int32)) sc.1) : zev sc (185, 534, [some (.retAddr 0), some (.ref 0), some (.ref 173), some (.int v3)], [], (197, i, (zRF b), l)) = (zev sc (88, 0, [some (.ref 0), some (.int (sc.2 ((v3 + (1 : Int32))).toNatClampNeg))], [], (197, i, (zRF b), l))).bind (fun x => zev sc (185, 543, [some (.retAddr 0), some (.ref 0), some (.ref 173), some (.int v3)], [x.1], x.2)) := by
  refine (ze_aload_n 535 zm185 dL_law_534 rfl rfl).trans ?_
  refine (ze_aload_s 536 zm185 dL_law_535 rfl rfl).trans ?_
  refine (ze_iload_n 537 zm185 dL_law_536 rfl rfl).trans ?_
  refine (ze_iconst 538 zm185 dL_law_537 ci_1 rfl).trans ?_
  refine (ze_iadd 539 zm185 dL_law_538 rfl).trans ?_
  refine (ze_saload 540 zm185 dL_law_539 h1 rfl).trans ?_
  exact ze_virtI (as := [.int (sc.2 ((v3 + (1 : Int32))).toNatClampNeg)]) (rest := []) 543 zm185 dL_law_540 r12_72 zm88 rfl rfl k0_9 rfl rfl rfl rfl
theorem b185_543 (sc : zScr) (v3 : Int32) (s0 : Int32) (i : Nat → Nat → Int32) (b : Bool) (l : Nat → Nat → Int64) (h1 : vp_in (v3 + (1 : Int32)) sc.1) : zev sc (185, 543, [some (.retAddr 0), some (.ref 0), some (.ref 173), some (.int v3)], [.int s0], (197, i, (zRF b), l)) = (zev sc (159, 0, [some (.ref 173), some (.int (sc.2 ((v3 + (1 : Int32))).toNatClampNeg))], [], (197, i, (zRF b), l))).bind (fun x => zev sc (185, 552, [some (.retAddr 0), some (.ref 0), some (.ref 173), some (.int v3)], [x.1, .int s0], x.2)) := by
  refine (ze_aload_n 544 zm185 dL_law_543 rfl rfl).trans ?_
  refine (ze_aload_s 545 zm185 dL_law_544 rfl rfl).trans ?_
  refine (ze_iload_n 546 zm185 dL_law_545 rfl rfl).trans ?_
  refine (ze_iconst 547 zm185 dL_law_546 ci_1 rfl).trans ?_
  refine (ze_iadd 548 zm185 dL_law_547 rfl).trans ?_
  refine (ze_saload 549 zm185 dL_law_548 h1 rfl).trans ?_
  exact ze_virtI (as := [.int (sc.2 ((v3 + (1 : Int32))).toNatClampNeg)]) (rest := [.int s0]) 552 zm185 dL_law_549 r12_75 zm159 rfl rfl k173_10 rfl rfl rfl rfl
theorem b185_552 (sc : zScr) (v3 : Int32) (s0 : Int32) (s1 : Int32) (i : Nat → Nat → Int32) (b : Bool) (l : Nat → Nat → Int64) : zev sc (185, 552, [some (.retAddr 0), some (.ref 0), some (.ref 173), some (.int v3)], [.int s0, .int s1], (197, i, (zRF b), l)) = if s1 = s0 then zev sc (185, 988, [some (.retAddr 0), some (.ref 0), some (.ref 173), some (.int v3)], [], (197, i, (zRF b), l)) else zev sc (185, 555, [some (.retAddr 0), some (.ref 0), some (.ref 173), some (.int v3)], [], (197, i, (zRF b), l)) := by
  exact ze_icmp_eq 988 555 zm185 dL_law_552 (by decide) rfl
theorem b185_555 (sc : zScr) (v3 : Int32) (i : Nat → Nat → Int32) (b : Bool) (l : Nat → Nat → Int64) : zev sc (185, 555, [some (.retAddr 0), some (.ref 0), some (.ref 173), some (.int v3)], [], (197, i, (zRF b), l)) = some (.int (0 : Int32), (197, i, (zRF b), l)) := by
  refine (ze_iconst 556 zm185 dL_law_555 ci_0 rfl).trans ?_
  exact ze_zreturn zm185 dL_law_556 rfl (Or.inl rfl)
theorem b185_557 (sc : zScr) (v3 : Int32) (i : Nat → Nat → Int32) (b : Bool) (l : Nat → Nat → Int64) (h1 : vp_in (v3 + (1 : Int32)) sc.1) : zev sc (185, 557, [some (.retAddr 0), some (.ref 0), some (.ref 173), some (.int v3)], [], (197, i, (zRF b), l)) = (zev sc (89, 0, [some (.ref 0), some (.int (sc.2 ((v3 + (1 : Int32))).toNatClampNeg))], [], (197, i, (zRF b), l))).bind (fun x => zev sc (185, 566, [some (.retAddr 0), some (.ref 0), some (.ref 173), some (.int v3)], [x.1], x.2)) := by
  refine (ze_aload_n 558 zm185 dL_law_557 rfl rfl).trans ?_
  refine (ze_aload_s 559 zm185 dL_law_558 rfl rfl).trans ?_
  refine (ze_iload_n 560 zm185 dL_law_559 rfl rfl).trans ?_
  refine (ze_iconst 561 zm185 dL_law_560 ci_1 rfl).trans ?_
  refine (ze_iadd 562 zm185 dL_law_561 rfl).trans ?_
  refine (ze_saload 563 zm185 dL_law_562 h1 rfl).trans ?_
  exact ze_virtI (as := [.int (sc.2 ((v3 + (1 : Int32))).toNatClampNeg)]) (rest := []) 566 zm185 dL_law_563 r12_76 zm89 rfl rfl k0_9 rfl rfl rfl rfl
theorem b185_566 (sc : zScr) (v3 : Int32) (s0 : Int32) (i : Nat → Nat → Int32) (b : Bool) (l : Nat → Nat → Int64) (h1 : vp_in (v3 + (1 : Int32)) sc.1) : zev sc (185, 566, [some (.retAddr 0), some (.ref 0), some (.ref 173), some (.int v3)], [.int s0], (197, i, (zRF b), l)) = (zev sc (160, 0, [some (.ref 173), some (.int (sc.2 ((v3 + (1 : Int32))).toNatClampNeg)), none, none, none, none], [], (197, i, (zRF b), l))).bind (fun x => zev sc (185, 575, [some (.retAddr 0), some (.ref 0), some (.ref 173), some (.int v3)], [x.1, .int s0], x.2)) := by
  refine (ze_aload_n 567 zm185 dL_law_566 rfl rfl).trans ?_
  refine (ze_aload_s 568 zm185 dL_law_567 rfl rfl).trans ?_
  refine (ze_iload_n 569 zm185 dL_law_568 rfl rfl).trans ?_
  refine (ze_iconst 570 zm185 dL_law_569 ci_1 rfl).trans ?_
  refine (ze_iadd 571 zm185 dL_law_570 rfl).trans ?_
  refine (ze_saload 572 zm185 dL_law_571 h1 rfl).trans ?_
  exact ze_virtI (as := [.int (sc.2 ((v3 + (1 : Int32))).toNatClampNeg)]) (rest := [.int s0]) 575 zm185 dL_law_572 r12_79 zm160 rfl rfl k173_10 rfl rfl rfl rfl
theorem b185_575 (sc : zScr) (v3 : Int32) (s0 : Int32) (s1 : Int32) (i : Nat → Nat → Int32) (b : Bool) (l : Nat → Nat → Int64) : zev sc (185, 575, [some (.retAddr 0), some (.ref 0), some (.ref 173), some (.int v3)], [.int s0, .int s1], (197, i, (zRF b), l)) = if s1 = s0 then zev sc (185, 988, [some (.retAddr 0), some (.ref 0), some (.ref 173), some (.int v3)], [], (197, i, (zRF b), l)) else zev sc (185, 578, [some (.retAddr 0), some (.ref 0), some (.ref 173), some (.int v3)], [], (197, i, (zRF b), l)) := by
  exact ze_icmp_eq 988 578 zm185 dL_law_575 (by decide) rfl
theorem b185_578 (sc : zScr) (v3 : Int32) (i : Nat → Nat → Int32) (b : Bool) (l : Nat → Nat → Int64) : zev sc (185, 578, [some (.retAddr 0), some (.ref 0), some (.ref 173), some (.int v3)], [], (197, i, (zRF b), l)) = some (.int (0 : Int32), (197, i, (zRF b), l)) := by
  refine (ze_iconst 579 zm185 dL_law_578 ci_0 rfl).trans ?_
  exact ze_zreturn zm185 dL_law_579 rfl (Or.inl rfl)
theorem b185_580 (sc : zScr) (v3 : Int32) (i : Nat → Nat → Int32) (b : Bool) (l : Nat → Nat → Int64) (h1 : vp_in (v3 + (1 : Int32)) sc.1) : zev sc (185, 580, [some (.retAddr 0), some (.ref 0), some (.ref 173), some (.int v3)], [], (197, i, (zRF b), l)) = (zev sc (90, 0, [some (.ref 0), some (.int (sc.2 ((v3 + (1 : Int32))).toNatClampNeg))], [], (197, i, (zRF b), l))).bind (fun x => zev sc (185, 589, [some (.retAddr 0), some (.ref 0), some (.ref 173), some (.int v3)], [x.1], x.2)) := by
  refine (ze_aload_n 581 zm185 dL_law_580 rfl rfl).trans ?_
  refine (ze_aload_s 582 zm185 dL_law_581 rfl rfl).trans ?_
  refine (ze_iload_n 583 zm185 dL_law_582 rfl rfl).trans ?_
  refine (ze_iconst 584 zm185 dL_law_583 ci_1 rfl).trans ?_
  refine (ze_iadd 585 zm185 dL_law_584 rfl).trans ?_
  refine (ze_saload 586 zm185 dL_law_585 h1 rfl).trans ?_
  exact ze_virtI (as := [.int (sc.2 ((v3 + (1 : Int32))).toNatClampNeg)]) (rest := []) 589 zm185 dL_law_586 r12_80 zm90 rfl rfl k0_9 rfl rfl rfl rfl
theorem b185_589 (sc : zScr) (v3 : Int32) (s0 : Int32) (i : Nat → Nat → Int32) (b : Bool) (l : Nat → Nat → Int64) (h1 : vp_in (v3 + (1 : Int32)) sc.1) : zev sc (185, 589, [some (.retAddr 0), some (.ref 0), some (.ref 173), some (.int v3)], [.int s0], (197, i, (zRF b), l)) = (zev sc (161, 0, [some (.ref 173), some (.int (sc.2 ((v3 + (1 : Int32))).toNatClampNeg))], [], (197, i, (zRF b), l))).bind (fun x => zev sc (185, 598, [some (.retAddr 0), some (.ref 0), some (.ref 173), some (.int v3)], [x.1, .int s0], x.2)) := by
  refine (ze_aload_n 590 zm185 dL_law_589 rfl rfl).trans ?_
  refine (ze_aload_s 591 zm185 dL_law_590 rfl rfl).trans ?_
  refine (ze_iload_n 592 zm185 dL_law_591 rfl rfl).trans ?_
  refine (ze_iconst 593 zm185 dL_law_592 ci_1 rfl).trans ?_
  refine (ze_iadd 594 zm185 dL_law_593 rfl).trans ?_
  refine (ze_saload 595 zm185 dL_law_594 h1 rfl).trans ?_
  exact ze_virtI (as := [.int (sc.2 ((v3 + (1 : Int32))).toNatClampNeg)]) (rest := [.int s0]) 598 zm185 dL_law_595 r12_83 zm161 rfl rfl k173_10 rfl rfl rfl rfl
theorem b185_598 (sc : zScr) (v3 : Int32) (s0 : Int32) (s1 : Int32) (i : Nat → Nat → Int32) (b : Bool) (l : Nat → Nat → Int64) : zev sc (185, 598, [some (.retAddr 0), some (.ref 0), some (.ref 173), some (.int v3)], [.int s0, .int s1], (197, i, (zRF b), l)) = if s1 = s0 then zev sc (185, 988, [some (.retAddr 0), some (.ref 0), some (.ref 173), some (.int v3)], [], (197, i, (zRF b), l)) else zev sc (185, 601, [some (.retAddr 0), some (.ref 0), some (.ref 173), some (.int v3)], [], (197, i, (zRF b), l)) := by
  exact ze_icmp_eq 988 601 zm185 dL_law_598 (by decide) rfl
theorem b185_601 (sc : zScr) (v3 : Int32) (i : Nat → Nat → Int32) (b : Bool) (l : Nat → Nat → Int64) : zev sc (185, 601, [some (.retAddr 0), some (.ref 0), some (.ref 173), some (.int v3)], [], (197, i, (zRF b), l)) = some (.int (0 : Int32), (197, i, (zRF b), l)) := by
  refine (ze_iconst 602 zm185 dL_law_601 ci_0 rfl).trans ?_
  exact ze_zreturn zm185 dL_law_602 rfl (Or.inl rfl)
theorem b185_603 (sc : zScr) (v3 : Int32) (i : Nat → Nat → Int32) (b : Bool) (l : Nat → Nat → Int64) : zev sc (185, 603, [some (.retAddr 0), some (.ref 0), some (.ref 173), some (.int v3)], [], (197, i, (zRF b), l)) = (zev sc (91, 0, [some (.ref 0), none], [], (197, i, (zRF b), l))).bind (fun x => zev sc (185, 607, [some (.retAddr 0), some (.ref 0), some (.ref 173), some (.int v3)], [x.1], x.2)) := by
  refine (ze_aload_n 604 zm185 dL_law_603 rfl rfl).trans ?_
  exact ze_virtI (as := []) (rest := []) 607 zm185 dL_law_604 r12_84 zm91 rfl rfl k0_9 rfl rfl rfl rfl
theorem b185_607 (sc : zScr) (v3 : Int32) (s0 : Int32) (i : Nat → Nat → Int32) (b : Bool) (l : Nat → Nat → Int64) : zev sc (185, 607, [some (.retAddr 0), some (.ref 0), some (.ref 173), some (.int v3)], [.int s0], (197, i, (zRF b), l)) = (zev sc (162, 0, [some (.ref 173), none], [], (197, i, (zRF b), l))).bind (fun x => zev sc (185, 611, [some (.retAddr 0), some (.ref 0), some (.ref 173), some (.int v3)], [x.1, .int s0], x.2)) := by
  refine (ze_aload_n 608 zm185 dL_law_607 rfl rfl).trans ?_
  exact ze_virtI (as := []) (rest := [.int s0]) 611 zm185 dL_law_608 r12_87 zm162 rfl rfl k173_10 rfl rfl rfl rfl
theorem b185_611 (sc : zScr) (v3 : Int32) (s0 : Int32) (s1 : Int32) (i : Nat → Nat → Int32) (b : Bool) (l : Nat → Nat → Int64) : zev sc (185, 611, [some (.retAddr 0), some (.ref 0), some (.ref 173), some (.int v3)], [.int s0, .int s1], (197, i, (zRF b), l)) = if s1 = s0 then zev sc (185, 988, [some (.retAddr 0), some (.ref 0), some (.ref 173), some (.int v3)], [], (197, i, (zRF b), l)) else zev sc (185, 614, [some (.retAddr 0), some (.ref 0), some (.ref 173), some (.int v3)], [], (197, i, (zRF b), l)) := by
  exact ze_icmp_eq 988 614 zm185 dL_law_611 (by decide) rfl
theorem b185_614 (sc : zScr) (v3 : Int32) (i : Nat → Nat → Int32) (b : Bool) (l : Nat → Nat → Int64) : zev sc (185, 614, [some (.retAddr 0), some (.ref 0), some (.ref 173), some (.int v3)], [], (197, i, (zRF b), l)) = some (.int (0 : Int32), (197, i, (zRF b), l)) := by
  refine (ze_iconst 615 zm185 dL_law_614 ci_0 rfl).trans ?_
  exact ze_zreturn zm185 dL_law_615 rfl (Or.inl rfl)
theorem b185_616 (sc : zScr) (v3 : Int32) (i : Nat → Nat → Int32) (b : Bool) (l : Nat → Nat → Int64) (h1 : vp_in (v3 + (1 : Int32)) sc.1) (h2 : vp_in (v3 + (2 : Int32)) sc.1) : zev sc (185, 616, [some (.retAddr 0), some (.ref 0), some (.ref 173), some (.int v3)], [], (197, i, (zRF b), l)) = (zev sc (92, 0, [some (.ref 0), some (.int (sc.2 ((v3 + (1 : Int32))).toNatClampNeg)), some (.int (sc.2 ((v3 + (2 : Int32))).toNatClampNeg))], [], (197, i, (zRF b), l))).bind (fun x => zev sc (185, 630, [some (.retAddr 0), some (.ref 0), some (.ref 173), some (.int v3)], [x.1], x.2)) := by
  refine (ze_aload_n 617 zm185 dL_law_616 rfl rfl).trans ?_
  refine (ze_aload_s 618 zm185 dL_law_617 rfl rfl).trans ?_
  refine (ze_iload_n 619 zm185 dL_law_618 rfl rfl).trans ?_
  refine (ze_iconst 620 zm185 dL_law_619 ci_1 rfl).trans ?_
  refine (ze_iadd 621 zm185 dL_law_620 rfl).trans ?_
  refine (ze_saload 622 zm185 dL_law_621 h1 rfl).trans ?_
  refine (ze_aload_s 623 zm185 dL_law_622 rfl rfl).trans ?_
  refine (ze_iload_n 624 zm185 dL_law_623 rfl rfl).trans ?_
  refine (ze_iconst 625 zm185 dL_law_624 ci_2 rfl).trans ?_
  refine (ze_iadd 626 zm185 dL_law_625 rfl).trans ?_
  refine (ze_saload 627 zm185 dL_law_626 h2 rfl).trans ?_
  exact ze_virtI (as := [.int (sc.2 ((v3 + (1 : Int32))).toNatClampNeg), .int (sc.2 ((v3 + (2 : Int32))).toNatClampNeg)]) (rest := []) 630 zm185 dL_law_627 r12_88 zm92 rfl rfl k0_9 rfl rfl rfl rfl
theorem b185_630 (sc : zScr) (v3 : Int32) (s0 : Int32) (i : Nat → Nat → Int32) (b : Bool) (l : Nat → Nat → Int64) (h1 : vp_in (v3 + (1 : Int32)) sc.1) (h2 : vp_in (v3 + (2 : Int32)) sc.1) : zev sc (185, 630, [some (.retAddr 0), some (.ref 0), some (.ref 173), some (.int v3)], [.int s0], (197, i, (zRF b), l)) = (zev sc (163, 0, [some (.ref 173), some (.int (sc.2 ((v3 + (1 : Int32))).toNatClampNeg)), some (.int (sc.2 ((v3 + (2 : Int32))).toNatClampNeg)), none, none], [], (197, i, (zRF b), l))).bind (fun x => zev sc (185, 644, [some (.retAddr 0), some (.ref 0), some (.ref 173), some (.int v3)], [x.1, .int s0], x.2)) := by
  refine (ze_aload_n 631 zm185 dL_law_630 rfl rfl).trans ?_
  refine (ze_aload_s 632 zm185 dL_law_631 rfl rfl).trans ?_
  refine (ze_iload_n 633 zm185 dL_law_632 rfl rfl).trans ?_
  refine (ze_iconst 634 zm185 dL_law_633 ci_1 rfl).trans ?_
  refine (ze_iadd 635 zm185 dL_law_634 rfl).trans ?_
  refine (ze_saload 636 zm185 dL_law_635 h1 rfl).trans ?_
  refine (ze_aload_s 637 zm185 dL_law_636 rfl rfl).trans ?_
  refine (ze_iload_n 638 zm185 dL_law_637 rfl rfl).trans ?_
  refine (ze_iconst 639 zm185 dL_law_638 ci_2 rfl).trans ?_
  refine (ze_iadd 640 zm185 dL_law_639 rfl).trans ?_
  refine (ze_saload 641 zm185 dL_law_640 h2 rfl).trans ?_
  exact ze_virtI (as := [.int (sc.2 ((v3 + (1 : Int32))).toNatClampNeg), .int (sc.2 ((v3 + (2 : Int32))).toNatClampNeg)]) (rest := [.int s0]) 644 zm185 dL_law_641 r12_91 zm163 rfl rfl k173_10 rfl rfl rfl rfl
theorem b185_644 (sc : zScr) (v3 : Int32) (s0 : Int32) (s1 : Int32) (i : Nat → Nat → Int32) (b : Bool) (l : Nat → Nat → Int64) : zev sc (185, 644, [some (.retAddr 0), some (.ref 0), some (.ref 173), some (.int v3)], [.int s0, .int s1], (197, i, (zRF b), l)) = if s1 = s0 then zev sc (185, 988, [some (.retAddr 0), some (.ref 0), some (.ref 173), some (.int v3)], [], (197, i, (zRF b), l)) else zev sc (185, 647, [some (.retAddr 0), some (.ref 0), some (.ref 173), some (.int v3)], [], (197, i, (zRF b), l)) := by
  exact ze_icmp_eq 988 647 zm185 dL_law_644 (by decide) rfl
theorem b185_647 (sc : zScr) (v3 : Int32) (i : Nat → Nat → Int32) (b : Bool) (l : Nat → Nat → Int64) : zev sc (185, 647, [some (.retAddr 0), some (.ref 0), some (.ref 173), some (.int v3)], [], (197, i, (zRF b), l)) = some (.int (0 : Int32), (197, i, (zRF b), l)) := by
  refine (ze_iconst 648 zm185 dL_law_647 ci_0 rfl).trans ?_
  exact ze_zreturn zm185 dL_law_648 rfl (Or.inl rfl)
theorem b185_649 (sc : zScr) (v3 : Int32) (i : Nat → Nat → Int32) (b : Bool) (l : Nat → Nat → Int64) (h1 : vp_in (v3 + (1 : Int32)) sc.1) : zev sc (185, 649, [some (.retAddr 0), some (.ref 0), some (.ref 173), some (.int v3)], [], (197, i, (zRF b), l)) = (zev sc (93, 0, [some (.ref 0), some (.int (sc.2 ((v3 + (1 : Int32))).toNatClampNeg))], [], (197, i, (zRF b), l))).bind (fun x => zev sc (185, 658, [some (.retAddr 0), some (.ref 0), some (.ref 173), some (.int v3)], [x.1], x.2)) := by
  refine (ze_aload_n 650 zm185 dL_law_649 rfl rfl).trans ?_
  refine (ze_aload_s 651 zm185 dL_law_650 rfl rfl).trans ?_
  refine (ze_iload_n 652 zm185 dL_law_651 rfl rfl).trans ?_
  refine (ze_iconst 653 zm185 dL_law_652 ci_1 rfl).trans ?_
  refine (ze_iadd 654 zm185 dL_law_653 rfl).trans ?_
  refine (ze_saload 655 zm185 dL_law_654 h1 rfl).trans ?_
  exact ze_virtI (as := [.int (sc.2 ((v3 + (1 : Int32))).toNatClampNeg)]) (rest := []) 658 zm185 dL_law_655 r12_92 zm93 rfl rfl k0_9 rfl rfl rfl rfl
theorem b185_658 (sc : zScr) (v3 : Int32) (s0 : Int32) (i : Nat → Nat → Int32) (b : Bool) (l : Nat → Nat → Int64) (h1 : vp_in (v3 + (1 : Int32)) sc.1) : zev sc (185, 658, [some (.retAddr 0), some (.ref 0), some (.ref 173), some (.int v3)], [.int s0], (197, i, (zRF b), l)) = (zev sc (165, 0, [some (.ref 173), some (.int (sc.2 ((v3 + (1 : Int32))).toNatClampNeg))], [], (197, i, (zRF b), l))).bind (fun x => zev sc (185, 667, [some (.retAddr 0), some (.ref 0), some (.ref 173), some (.int v3)], [x.1, .int s0], x.2)) := by
  refine (ze_aload_n 659 zm185 dL_law_658 rfl rfl).trans ?_
  refine (ze_aload_s 660 zm185 dL_law_659 rfl rfl).trans ?_
  refine (ze_iload_n 661 zm185 dL_law_660 rfl rfl).trans ?_
  refine (ze_iconst 662 zm185 dL_law_661 ci_1 rfl).trans ?_
  refine (ze_iadd 663 zm185 dL_law_662 rfl).trans ?_
  refine (ze_saload 664 zm185 dL_law_663 h1 rfl).trans ?_
  exact ze_virtI (as := [.int (sc.2 ((v3 + (1 : Int32))).toNatClampNeg)]) (rest := [.int s0]) 667 zm185 dL_law_664 r12_95 zm165 rfl rfl k173_10 rfl rfl rfl rfl
theorem b185_667 (sc : zScr) (v3 : Int32) (s0 : Int32) (s1 : Int32) (i : Nat → Nat → Int32) (b : Bool) (l : Nat → Nat → Int64) : zev sc (185, 667, [some (.retAddr 0), some (.ref 0), some (.ref 173), some (.int v3)], [.int s0, .int s1], (197, i, (zRF b), l)) = if s1 = s0 then zev sc (185, 988, [some (.retAddr 0), some (.ref 0), some (.ref 173), some (.int v3)], [], (197, i, (zRF b), l)) else zev sc (185, 670, [some (.retAddr 0), some (.ref 0), some (.ref 173), some (.int v3)], [], (197, i, (zRF b), l)) := by
  exact ze_icmp_eq 988 670 zm185 dL_law_667 (by decide) rfl
theorem b185_670 (sc : zScr) (v3 : Int32) (i : Nat → Nat → Int32) (b : Bool) (l : Nat → Nat → Int64) : zev sc (185, 670, [some (.retAddr 0), some (.ref 0), some (.ref 173), some (.int v3)], [], (197, i, (zRF b), l)) = some (.int (0 : Int32), (197, i, (zRF b), l)) := by
  refine (ze_iconst 671 zm185 dL_law_670 ci_0 rfl).trans ?_
  exact ze_zreturn zm185 dL_law_671 rfl (Or.inl rfl)
theorem b185_672 (sc : zScr) (v3 : Int32) (i : Nat → Nat → Int32) (b : Bool) (l : Nat → Nat → Int64) : zev sc (185, 672, [some (.retAddr 0), some (.ref 0), some (.ref 173), some (.int v3)], [], (197, i, (zRF b), l)) = (zev sc (94, 0, [some (.ref 0)], [], (197, i, (zRF b), l))).bind (fun x => zev sc (185, 676, [some (.retAddr 0), some (.ref 0), some (.ref 173), some (.int v3)], [x.1], x.2)) := by
  refine (ze_aload_n 673 zm185 dL_law_672 rfl rfl).trans ?_
  exact ze_virtI (as := []) (rest := []) 676 zm185 dL_law_673 r12_96 zm94 rfl rfl k0_9 rfl rfl rfl rfl
theorem b185_676 (sc : zScr) (v3 : Int32) (s0 : Int32) (i : Nat → Nat → Int32) (b : Bool) (l : Nat → Nat → Int64) : zev sc (185, 676, [some (.retAddr 0), some (.ref 0), some (.ref 173), some (.int v3)], [.int s0], (197, i, (zRF b), l)) = (zev sc (166, 0, [some (.ref 173), none, none], [], (197, i, (zRF b), l))).bind (fun x => zev sc (185, 680, [some (.retAddr 0), some (.ref 0), some (.ref 173), some (.int v3)], [x.1, .int s0], x.2)) := by
  refine (ze_aload_n 677 zm185 dL_law_676 rfl rfl).trans ?_
  exact ze_virtI (as := []) (rest := [.int s0]) 680 zm185 dL_law_677 r12_99 zm166 rfl rfl k173_10 rfl rfl rfl rfl
theorem b185_680 (sc : zScr) (v3 : Int32) (s0 : Int32) (s1 : Int32) (i : Nat → Nat → Int32) (b : Bool) (l : Nat → Nat → Int64) : zev sc (185, 680, [some (.retAddr 0), some (.ref 0), some (.ref 173), some (.int v3)], [.int s0, .int s1], (197, i, (zRF b), l)) = if s1 = s0 then zev sc (185, 988, [some (.retAddr 0), some (.ref 0), some (.ref 173), some (.int v3)], [], (197, i, (zRF b), l)) else zev sc (185, 683, [some (.retAddr 0), some (.ref 0), some (.ref 173), some (.int v3)], [], (197, i, (zRF b), l)) := by
  exact ze_icmp_eq 988 683 zm185 dL_law_680 (by decide) rfl
theorem b185_683 (sc : zScr) (v3 : Int32) (i : Nat → Nat → Int32) (b : Bool) (l : Nat → Nat → Int64) : zev sc (185, 683, [some (.retAddr 0), some (.ref 0), some (.ref 173), some (.int v3)], [], (197, i, (zRF b), l)) = some (.int (0 : Int32), (197, i, (zRF b), l)) := by
  refine (ze_iconst 684 zm185 dL_law_683 ci_0 rfl).trans ?_
  exact ze_zreturn zm185 dL_law_684 rfl (Or.inl rfl)
theorem b185_685 (sc : zScr) (v3 : Int32) (i : Nat → Nat → Int32) (b : Bool) (l : Nat → Nat → Int64) : zev sc (185, 685, [some (.retAddr 0), some (.ref 0), some (.ref 173), some (.int v3)], [], (197, i, (zRF b), l)) = (zev sc (95, 0, [some (.ref 0)], [], (197, i, (zRF b), l))).bind (fun x => zev sc (185, 689, [some (.retAddr 0), some (.ref 0), some (.ref 173), some (.int v3)], [x.1], x.2)) := by
  refine (ze_aload_n 686 zm185 dL_law_685 rfl rfl).trans ?_
  exact ze_virtI (as := []) (rest := []) 689 zm185 dL_law_686 r12_100 zm95 rfl rfl k0_9 rfl rfl rfl rfl
theorem b185_689 (sc : zScr) (v3 : Int32) (s0 : Int32) (i : Nat → Nat → Int32) (b : Bool) (l : Nat → Nat → Int64) : zev sc (185, 689, [some (.retAddr 0), some (.ref 0), some (.ref 173), some (.int v3)], [.int s0], (197, i, (zRF b), l)) = (zev sc (168, 0, [some (.ref 173), none, none, none, none, none, none, none], [], (197, i, (zRF b), l))).bind (fun x => zev sc (185, 693, [some (.retAddr 0), some (.ref 0), some (.ref 173), some (.int v3)], [x.1, .int s0], x.2)) := by
  refine (ze_aload_n 690 zm185 dL_law_689 rfl rfl).trans ?_
  exact ze_virtI (as := []) (rest := [.int s0]) 693 zm185 dL_law_690 r12_103 zm168 rfl rfl k173_10 rfl rfl rfl rfl
theorem b185_693 (sc : zScr) (v3 : Int32) (s0 : Int32) (s1 : Int32) (i : Nat → Nat → Int32) (b : Bool) (l : Nat → Nat → Int64) : zev sc (185, 693, [some (.retAddr 0), some (.ref 0), some (.ref 173), some (.int v3)], [.int s0, .int s1], (197, i, (zRF b), l)) = if s1 = s0 then zev sc (185, 988, [some (.retAddr 0), some (.ref 0), some (.ref 173), some (.int v3)], [], (197, i, (zRF b), l)) else zev sc (185, 696, [some (.retAddr 0), some (.ref 0), some (.ref 173), some (.int v3)], [], (197, i, (zRF b), l)) := by
  exact ze_icmp_eq 988 696 zm185 dL_law_693 (by decide) rfl
theorem b185_696 (sc : zScr) (v3 : Int32) (i : Nat → Nat → Int32) (b : Bool) (l : Nat → Nat → Int64) : zev sc (185, 696, [some (.retAddr 0), some (.ref 0), some (.ref 173), some (.int v3)], [], (197, i, (zRF b), l)) = some (.int (0 : Int32), (197, i, (zRF b), l)) := by
  refine (ze_iconst 697 zm185 dL_law_696 ci_0 rfl).trans ?_
  exact ze_zreturn zm185 dL_law_697 rfl (Or.inl rfl)
theorem b185_698 (sc : zScr) (v3 : Int32) (i : Nat → Nat → Int32) (b : Bool) (l : Nat → Nat → Int64) (h1 : vp_in (v3 + (1 : Int32)) sc.1) (h2 : vp_in (v3 + (2 : Int32)) sc.1) (h3 : vp_in (v3 + (3 : Int32)) sc.1) (h4 : vp_in (v3 + (4 : Int32)) sc.1) : zev sc (185, 698, [some (.retAddr 0), some (.ref 0), some (.ref 173), some (.int v3)], [], (197, i, (zRF b), l)) = (zev sc (96, 0, [some (.ref 0), some (.int (sc.2 ((v3 + (1 : Int32))).toNatClampNeg)), some (.int (sc.2 ((v3 + (2 : Int32))).toNatClampNeg)), some (.int (sc.2 ((v3 + (3 : Int32))).toNatClampNeg)), some (.int (sc.2 ((v3 + (4 : Int32))).toNatClampNeg))], [], (197, i, (zRF b), l))).bind (fun x => zev sc (185, 722, [some (.retAddr 0), some (.ref 0), some (.ref 173), some (.int v3)], [x.1], x.2)) := by
  refine (ze_aload_n 699 zm185 dL_law_698 rfl rfl).trans ?_
  refine (ze_aload_s 700 zm185 dL_law_699 rfl rfl).trans ?_
  refine (ze_iload_n 701 zm185 dL_law_700 rfl rfl).trans ?_
  refine (ze_iconst 702 zm185 dL_law_701 ci_1 rfl).trans ?_
  refine (ze_iadd 703 zm185 dL_law_702 rfl).trans ?_
  refine (ze_saload 704 zm185 dL_law_703 h1 rfl).trans ?_
  refine (ze_aload_s 705 zm185 dL_law_704 rfl rfl).trans ?_
  refine (ze_iload_n 706 zm185 dL_law_705 rfl rfl).trans ?_
  refine (ze_iconst 707 zm185 dL_law_706 ci_2 rfl).trans ?_
  refine (ze_iadd 708 zm185 dL_law_707 rfl).trans ?_
  refine (ze_saload 709 zm185 dL_law_708 h2 rfl).trans ?_
  refine (ze_aload_s 710 zm185 dL_law_709 rfl rfl).trans ?_
  refine (ze_iload_n 711 zm185 dL_law_710 rfl rfl).trans ?_
  refine (ze_iconst 712 zm185 dL_law_711 ci_3 rfl).trans ?_
  refine (ze_iadd 713 zm185 dL_law_712 rfl).trans ?_
  refine (ze_saload 714 zm185 dL_law_713 h3 rfl).trans ?_
  refine (ze_aload_s 715 zm185 dL_law_714 rfl rfl).trans ?_
  refine (ze_iload_n 716 zm185 dL_law_715 rfl rfl).trans ?_
  refine (ze_iconst 717 zm185 dL_law_716 ci_4 rfl).trans ?_
  refine (ze_iadd 718 zm185 dL_law_717 rfl).trans ?_
  refine (ze_saload 719 zm185 dL_law_718 h4 rfl).trans ?_
  exact ze_virtI (as := [.int (sc.2 ((v3 + (1 : Int32))).toNatClampNeg), .int (sc.2 ((v3 + (2 : Int32))).toNatClampNeg), .int (sc.2 ((v3 + (3 : Int32))).toNatClampNeg), .int (sc.2 ((v3 + (4 : Int32))).toNatClampNeg)]) (rest := []) 722 zm185 dL_law_719 r12_104 zm96 rfl rfl k0_9 rfl rfl rfl rfl
theorem b185_722 (sc : zScr) (v3 : Int32) (s0 : Int32) (i : Nat → Nat → Int32) (b : Bool) (l : Nat → Nat → Int64) (h1 : vp_in (v3 + (1 : Int32)) sc.1) (h2 : vp_in (v3 + (2 : Int32)) sc.1) (h3 : vp_in (v3 + (3 : Int32)) sc.1) (h4 : vp_in (v3 + (4 : Int32)) sc.1) : zev sc (185, 722, [some (.retAddr 0), some (.ref 0), some (.ref 173), some (.int v3)], [.int s0], (197, i, (zRF b), l)) = (zev sc (171, 0, [some (.ref 173), some (.int (sc.2 ((v3 + (1 : Int32))).toNatClampNeg)), some (.int (sc.2 ((v3 + (2 : Int32))).toNatClampNeg)), some (.int (sc.2 ((v3 + (3 : Int32))).toNatClampNeg)), some (.int (sc.2 ((v3 + (4 : Int32))).toNatClampNeg)), none, none, none], [], (197, i, (zRF b), l))).bind (fun x => zev sc (185, 746, [some (.retAddr 0), some (.ref 0), some (.ref 173), some (.int v3)], [x.1, .int s0], x.2)) := by
  refine (ze_aload_n 723 zm185 dL_law_722 rfl rfl).trans ?_
  refine (ze_aload_s 724 zm185 dL_law_723 rfl rfl).trans ?_
  refine (ze_iload_n 725 zm185 dL_law_724 rfl rfl).trans ?_
  refine (ze_iconst 726 zm185 dL_law_725 ci_1 rfl).trans ?_
  refine (ze_iadd 727 zm185 dL_law_726 rfl).trans ?_
  refine (ze_saload 728 zm185 dL_law_727 h1 rfl).trans ?_
  refine (ze_aload_s 729 zm185 dL_law_728 rfl rfl).trans ?_
  refine (ze_iload_n 730 zm185 dL_law_729 rfl rfl).trans ?_
  refine (ze_iconst 731 zm185 dL_law_730 ci_2 rfl).trans ?_
  refine (ze_iadd 732 zm185 dL_law_731 rfl).trans ?_
  refine (ze_saload 733 zm185 dL_law_732 h2 rfl).trans ?_
  refine (ze_aload_s 734 zm185 dL_law_733 rfl rfl).trans ?_
  refine (ze_iload_n 735 zm185 dL_law_734 rfl rfl).trans ?_
  refine (ze_iconst 736 zm185 dL_law_735 ci_3 rfl).trans ?_
  refine (ze_iadd 737 zm185 dL_law_736 rfl).trans ?_
  refine (ze_saload 738 zm185 dL_law_737 h3 rfl).trans ?_
  refine (ze_aload_s 739 zm185 dL_law_738 rfl rfl).trans ?_
  refine (ze_iload_n 740 zm185 dL_law_739 rfl rfl).trans ?_
  refine (ze_iconst 741 zm185 dL_law_740 ci_4 rfl).trans ?_
  refine (ze_iadd 742 zm185 dL_law_741 rfl).trans ?_
  refine (ze_saload 743 zm185 dL_law_742 h4 rfl).trans ?_
  exact ze_virtI (as := [.int (sc.2 ((v3 + (1 : Int32))).toNatClampNeg), .int (sc.2 ((v3 + (2 : Int32))).toNatClampNeg), .int (sc.2 ((v3 + (3 : Int32))).toNatClampNeg), .int (sc.2 ((v3 + (4 : Int32))).toNatClampNeg)]) (rest := [.int s0]) 746 zm185 dL_law_743 r12_108 zm171 rfl rfl k173_10 rfl rfl rfl rfl
theorem b185_746 (sc : zScr) (v3 : Int32) (s0 : Int32) (s1 : Int32) (i : Nat → Nat → Int32) (b : Bool) (l : Nat → Nat → Int64) : zev sc (185, 746, [some (.retAddr 0), some (.ref 0), some (.ref 173), some (.int v3)], [.int s0, .int s1], (197, i, (zRF b), l)) = if s1 = s0 then zev sc (185, 988, [some (.retAddr 0), some (.ref 0), some (.ref 173), some (.int v3)], [], (197, i, (zRF b), l)) else zev sc (185, 749, [some (.retAddr 0), some (.ref 0), some (.ref 173), some (.int v3)], [], (197, i, (zRF b), l)) := by
  exact ze_icmp_eq 988 749 zm185 dL_law_746 (by decide) rfl
theorem b185_749 (sc : zScr) (v3 : Int32) (i : Nat → Nat → Int32) (b : Bool) (l : Nat → Nat → Int64) : zev sc (185, 749, [some (.retAddr 0), some (.ref 0), some (.ref 173), some (.int v3)], [], (197, i, (zRF b), l)) = some (.int (0 : Int32), (197, i, (zRF b), l)) := by
  refine (ze_iconst 750 zm185 dL_law_749 ci_0 rfl).trans ?_
  exact ze_zreturn zm185 dL_law_750 rfl (Or.inl rfl)
theorem b185_751 (sc : zScr) (v3 : Int32) (i : Nat → Nat → Int32) (b : Bool) (l : Nat → Nat → Int64) (h1 : vp_in (v3 + (1 : Int32)) sc.1) : zev sc (185, 751, [some (.retAddr 0), some (.ref 0), some (.ref 173), some (.int v3)], [], (197, i, (zRF b), l)) = (zev sc (97, 0, [some (.ref 0), some (.int (sc.2 ((v3 + (1 : Int32))).toNatClampNeg))], [], (197, i, (zRF b), l))).bind (fun x => zev sc (185, 760, [some (.retAddr 0), some (.ref 0), some (.ref 173), some (.int v3)], [x.1], x.2)) := by
  refine (ze_aload_n 752 zm185 dL_law_751 rfl rfl).trans ?_
  refine (ze_aload_s 753 zm185 dL_law_752 rfl rfl).trans ?_
  refine (ze_iload_n 754 zm185 dL_law_753 rfl rfl).trans ?_
  refine (ze_iconst 755 zm185 dL_law_754 ci_1 rfl).trans ?_
  refine (ze_iadd 756 zm185 dL_law_755 rfl).trans ?_
  refine (ze_saload 757 zm185 dL_law_756 h1 rfl).trans ?_
  exact ze_virtI (as := [.int (sc.2 ((v3 + (1 : Int32))).toNatClampNeg)]) (rest := []) 760 zm185 dL_law_757 r12_109 zm97 rfl rfl k0_9 rfl rfl rfl rfl
theorem b185_760 (sc : zScr) (v3 : Int32) (s0 : Int32) (i : Nat → Nat → Int32) (b : Bool) (l : Nat → Nat → Int64) (h1 : vp_in (v3 + (1 : Int32)) sc.1) : zev sc (185, 760, [some (.retAddr 0), some (.ref 0), some (.ref 173), some (.int v3)], [.int s0], (197, i, (zRF b), l)) = (zev sc (173, 0, [some (.ref 173), some (.int (sc.2 ((v3 + (1 : Int32))).toNatClampNeg))], [], (197, i, (zRF b), l))).bind (fun x => zev sc (185, 769, [some (.retAddr 0), some (.ref 0), some (.ref 173), some (.int v3)], [x.1, .int s0], x.2)) := by
  refine (ze_aload_n 761 zm185 dL_law_760 rfl rfl).trans ?_
  refine (ze_aload_s 762 zm185 dL_law_761 rfl rfl).trans ?_
  refine (ze_iload_n 763 zm185 dL_law_762 rfl rfl).trans ?_
  refine (ze_iconst 764 zm185 dL_law_763 ci_1 rfl).trans ?_
  refine (ze_iadd 765 zm185 dL_law_764 rfl).trans ?_
  refine (ze_saload 766 zm185 dL_law_765 h1 rfl).trans ?_
  exact ze_virtI (as := [.int (sc.2 ((v3 + (1 : Int32))).toNatClampNeg)]) (rest := [.int s0]) 769 zm185 dL_law_766 r12_112 zm173 rfl rfl k173_10 rfl rfl rfl rfl
theorem b185_769 (sc : zScr) (v3 : Int32) (s0 : Int32) (s1 : Int32) (i : Nat → Nat → Int32) (b : Bool) (l : Nat → Nat → Int64) : zev sc (185, 769, [some (.retAddr 0), some (.ref 0), some (.ref 173), some (.int v3)], [.int s0, .int s1], (197, i, (zRF b), l)) = if s1 = s0 then zev sc (185, 988, [some (.retAddr 0), some (.ref 0), some (.ref 173), some (.int v3)], [], (197, i, (zRF b), l)) else zev sc (185, 772, [some (.retAddr 0), some (.ref 0), some (.ref 173), some (.int v3)], [], (197, i, (zRF b), l)) := by
  exact ze_icmp_eq 988 772 zm185 dL_law_769 (by decide) rfl
theorem b185_772 (sc : zScr) (v3 : Int32) (i : Nat → Nat → Int32) (b : Bool) (l : Nat → Nat → Int64) : zev sc (185, 772, [some (.retAddr 0), some (.ref 0), some (.ref 173), some (.int v3)], [], (197, i, (zRF b), l)) = some (.int (0 : Int32), (197, i, (zRF b), l)) := by
  refine (ze_iconst 773 zm185 dL_law_772 ci_0 rfl).trans ?_
  exact ze_zreturn zm185 dL_law_773 rfl (Or.inl rfl)
theorem b185_774 (sc : zScr) (v3 : Int32) (i : Nat → Nat → Int32) (b : Bool) (l : Nat → Nat → Int64) (h1 : vp_in (v3 + (1 : Int32)) sc.1) : zev sc (185, 774, [some (.retAddr 0), some (.ref 0), some (.ref 173), some (.int v3)], [], (197, i, (zRF b), l)) = (zev sc (98, 0, [some (.ref 0), some (.int (sc.2 ((v3 + (1 : Int32))).toNatClampNeg))], [], (197, i, (zRF b), l))).bind (fun x => zev sc (185, 783, [some (.retAddr 0), some (.ref 0), some (.ref 173), some (.int v3)], [x.1], x.2)) := by
  refine (ze_aload_n 775 zm185 dL_law_774 rfl rfl).trans ?_
  refine (ze_aload_s 776 zm185 dL_law_775 rfl rfl).trans ?_
  refine (ze_iload_n 777 zm185 dL_law_776 rfl rfl).trans ?_
  refine (ze_iconst 778 zm185 dL_law_777 ci_1 rfl).trans ?_
  refine (ze_iadd 779 zm185 dL_law_778 rfl).trans ?_
  refine (ze_saload 780 zm185 dL_law_779 h1 rfl).trans ?_
  exact ze_virtI (as := [.int (sc.2 ((v3 + (1 : Int32))).toNatClampNeg)]) (rest := []) 783 zm185 dL_law_780 r12_113 zm98 rfl rfl k0_9 rfl rfl rfl rfl
theorem b185_783 (sc : zScr) (v3 : Int32) (s0 : Int32) (i : Nat → Nat → Int32) (b : Bool) (l : Nat → Nat → Int64) (h1 : vp_in (v3 + (1 : Int32)) sc.1) : zev sc (185, 783, [some (.retAddr 0), some (.ref 0), some (.ref 173), some (.int v3)], [.int s0], (197, i, (zRF b), l)) = (zev sc (175, 0, [some (.ref 173), some (.int (sc.2 ((v3 + (1 : Int32))).toNatClampNeg)), none, none, none, none, none], [], (197, i, (zRF b), l))).bind (fun x => zev sc (185, 792, [some (.retAddr 0), some (.ref 0), some (.ref 173), some (.int v3)], [x.1, .int s0], x.2)) := by
  refine (ze_aload_n 784 zm185 dL_law_783 rfl rfl).trans ?_
  refine (ze_aload_s 785 zm185 dL_law_784 rfl rfl).trans ?_
  refine (ze_iload_n 786 zm185 dL_law_785 rfl rfl).trans ?_
  refine (ze_iconst 787 zm185 dL_law_786 ci_1 rfl).trans ?_
  refine (ze_iadd 788 zm185 dL_law_787 rfl).trans ?_
  refine (ze_saload 789 zm185 dL_law_788 h1 rfl).trans ?_
  exact ze_virtI (as := [.int (sc.2 ((v3 + (1 : Int32))).toNatClampNeg)]) (rest := [.int s0]) 792 zm185 dL_law_789 r12_116 zm175 rfl rfl k173_10 rfl rfl rfl rfl
theorem b185_792 (sc : zScr) (v3 : Int32) (s0 : Int32) (s1 : Int32) (i : Nat → Nat → Int32) (b : Bool) (l : Nat → Nat → Int64) : zev sc (185, 792, [some (.retAddr 0), some (.ref 0), some (.ref 173), some (.int v3)], [.int s0, .int s1], (197, i, (zRF b), l)) = if s1 = s0 then zev sc (185, 988, [some (.retAddr 0), some (.ref 0), some (.ref 173), some (.int v3)], [], (197, i, (zRF b), l)) else zev sc (185, 795, [some (.retAddr 0), some (.ref 0), some (.ref 173), some (.int v3)], [], (197, i, (zRF b), l)) := by
  exact ze_icmp_eq 988 795 zm185 dL_law_792 (by decide) rfl
theorem b185_795 (sc : zScr) (v3 : Int32) (i : Nat → Nat → Int32) (b : Bool) (l : Nat → Nat → Int64) : zev sc (185, 795, [some (.retAddr 0), some (.ref 0), some (.ref 173), some (.int v3)], [], (197, i, (zRF b), l)) = some (.int (0 : Int32), (197, i, (zRF b), l)) := by
  refine (ze_iconst 796 zm185 dL_law_795 ci_0 rfl).trans ?_
  exact ze_zreturn zm185 dL_law_796 rfl (Or.inl rfl)
theorem b185_797 (sc : zScr) (v3 : Int32) (i : Nat → Nat → Int32) (b : Bool) (l : Nat → Nat → Int64) (h1 : vp_in (v3 + (1 : Int32)) sc.1) (h2 : vp_in (v3 + (2 : Int32)) sc.1) (h3 : vp_in (v3 + (3 : Int32)) sc.1) (h4 : vp_in (v3 + (4 : Int32)) sc.1) (h5 : vp_in (v3 + (5 : Int32)) sc.1) (h6 : vp_in (v3 + (6 : Int32)) sc.1) : zev sc (185, 797, [some (.retAddr 0), some (.ref 0), some (.ref 173), some (.int v3)], [], (197, i, (zRF b), l)) = (zev sc (99, 0, [some (.ref 0), some (.int (sc.2 ((v3 + (1 : Int32))).toNatClampNeg)), some (.int (sc.2 ((v3 + (2 : Int32))).toNatClampNeg)), some (.int (sc.2 ((v3 + (3 : Int32))).toNatClampNeg)), some (.int (sc.2 ((v3 + (4 : Int32))).toNatClampNeg)), some (.int (sc.2 ((v3 + (5 : Int32))).toNatClampNeg)), some (.int (sc.2 ((v3 + (6 : Int32))).toNatClampNeg)), none, none, none], [], (197, i, (zRF b), l))).bind (fun x => zev sc (185, 832, [some (.retAddr 0), some (.ref 0), some (.ref 173), some (.int v3)], [x.1], x.2)) := by
  refine (ze_aload_n 798 zm185 dL_law_797 rfl rfl).trans ?_
  refine (ze_aload_s 799 zm185 dL_law_798 rfl rfl).trans ?_
  refine (ze_iload_n 800 zm185 dL_law_799 rfl rfl).trans ?_
  refine (ze_iconst 801 zm185 dL_law_800 ci_1 rfl).trans ?_
  refine (ze_iadd 802 zm185 dL_law_801 rfl).trans ?_
  refine (ze_saload 803 zm185 dL_law_802 h1 rfl).trans ?_
  refine (ze_aload_s 804 zm185 dL_law_803 rfl rfl).trans ?_
  refine (ze_iload_n 805 zm185 dL_law_804 rfl rfl).trans ?_
  refine (ze_iconst 806 zm185 dL_law_805 ci_2 rfl).trans ?_
  refine (ze_iadd 807 zm185 dL_law_806 rfl).trans ?_
  refine (ze_saload 808 zm185 dL_law_807 h2 rfl).trans ?_
  refine (ze_aload_s 809 zm185 dL_law_808 rfl rfl).trans ?_
  refine (ze_iload_n 810 zm185 dL_law_809 rfl rfl).trans ?_
  refine (ze_iconst 811 zm185 dL_law_810 ci_3 rfl).trans ?_
  refine (ze_iadd 812 zm185 dL_law_811 rfl).trans ?_
  refine (ze_saload 813 zm185 dL_law_812 h3 rfl).trans ?_
  refine (ze_aload_s 814 zm185 dL_law_813 rfl rfl).trans ?_
  refine (ze_iload_n 815 zm185 dL_law_814 rfl rfl).trans ?_
  refine (ze_iconst 816 zm185 dL_law_815 ci_4 rfl).trans ?_
  refine (ze_iadd 817 zm185 dL_law_816 rfl).trans ?_
  refine (ze_saload 818 zm185 dL_law_817 h4 rfl).trans ?_
  refine (ze_aload_s 819 zm185 dL_law_818 rfl rfl).trans ?_
  refine (ze_iload_n 820 zm185 dL_law_819 rfl rfl).trans ?_
  refine (ze_iconst 821 zm185 dL_law_820 ci_5 rfl).trans ?_
  refine (ze_iadd 822 zm185 dL_law_821 rfl).trans ?_
  refine (ze_saload 823 zm185 dL_law_822 h5 rfl).trans ?_
  refine (ze_aload_s 824 zm185 dL_law_823 rfl rfl).trans ?_
  refine (ze_iload_n 825 zm185 dL_law_824 rfl rfl).trans ?_
  refine (ze_bipush 827 zm185 dL_law_825 cb_6 rfl).trans ?_
  refine (ze_iadd 828 zm185 dL_law_827 rfl).trans ?_
  refine (ze_saload 829 zm185 dL_law_828 h6 rfl).trans ?_
  exact ze_virtI (as := [.int (sc.2 ((v3 + (1 : Int32))).toNatClampNeg), .int (sc.2 ((v3 + (2 : Int32))).toNatClampNeg), .int (sc.2 ((v3 + (3 : Int32))).toNatClampNeg), .int (sc.2 ((v3 + (4 : Int32))).toNatClampNeg), .int (sc.2 ((v3 + (5 : Int32))).toNatClampNeg), .int (sc.2 ((v3 + (6 : Int32))).toNatClampNeg)]) (rest := []) 832 zm185 dL_law_829 r12_117 zm99 rfl rfl k0_9 rfl rfl rfl rfl
theorem b185_832 (sc : zScr) (v3 : Int32) (s0 : Int32) (i : Nat → Nat → Int32) (b : Bool) (l : Nat → Nat → Int64) (h1 : vp_in (v3 + (1 : Int32)) sc.1) (h2 : vp_in (v3 + (2 : Int32)) sc.1) (h3 : vp_in (v3 + (3 : Int32)) sc.1) (h4 : vp_in (v3 + (4 : Int32)) sc.1) (h5 : vp_in (v3 + (5 : Int32)) sc.1) (h6 : vp_in (v3 + (6 : Int32)) sc.1) : zev sc (185, 832, [some (.retAddr 0), some (.ref 0), some (.ref 173), some (.int v3)], [.int s0], (197, i, (zRF b), l)) = (zev sc (177, 0, [some (.ref 173), some (.int (sc.2 ((v3 + (1 : Int32))).toNatClampNeg)), some (.int (sc.2 ((v3 + (2 : Int32))).toNatClampNeg)), some (.int (sc.2 ((v3 + (3 : Int32))).toNatClampNeg)), some (.int (sc.2 ((v3 + (4 : Int32))).toNatClampNeg)), some (.int (sc.2 ((v3 + (5 : Int32))).toNatClampNeg)), some (.int (sc.2 ((v3 + (6 : Int32))).toNatClampNeg)), none, none, none, none, none, none], [], (197, i, (zRF b), l))).bind (fun x => zev sc (185, 867, [some (.retAddr 0), some (.ref 0), some (.ref 173), some (.int v3)], [x.1, .int s0], x.2)) := by
  refine (ze_aload_n 833 zm185 dL_law_832 rfl rfl).trans ?_
  refine (ze_aload_s 834 zm185 dL_law_833 rfl rfl).trans ?_
  refine (ze_iload_n 835 zm185 dL_law_834 rfl rfl).trans ?_
  refine (ze_iconst 836 zm185 dL_law_835 ci_1 rfl).trans ?_
  refine (ze_iadd 837 zm185 dL_law_836 rfl).trans ?_
  refine (ze_saload 838 zm185 dL_law_837 h1 rfl).trans ?_
  refine (ze_aload_s 839 zm185 dL_law_838 rfl rfl).trans ?_
  refine (ze_iload_n 840 zm185 dL_law_839 rfl rfl).trans ?_
  refine (ze_iconst 841 zm185 dL_law_840 ci_2 rfl).trans ?_
  refine (ze_iadd 842 zm185 dL_law_841 rfl).trans ?_
  refine (ze_saload 843 zm185 dL_law_842 h2 rfl).trans ?_
  refine (ze_aload_s 844 zm185 dL_law_843 rfl rfl).trans ?_
  refine (ze_iload_n 845 zm185 dL_law_844 rfl rfl).trans ?_
  refine (ze_iconst 846 zm185 dL_law_845 ci_3 rfl).trans ?_
  refine (ze_iadd 847 zm185 dL_law_846 rfl).trans ?_
  refine (ze_saload 848 zm185 dL_law_847 h3 rfl).trans ?_
  refine (ze_aload_s 849 zm185 dL_law_848 rfl rfl).trans ?_
  refine (ze_iload_n 850 zm185 dL_law_849 rfl rfl).trans ?_
  refine (ze_iconst 851 zm185 dL_law_850 ci_4 rfl).trans ?_
  refine (ze_iadd 852 zm185 dL_law_851 rfl).trans ?_
  refine (ze_saload 853 zm185 dL_law_852 h4 rfl).trans ?_
  refine (ze_aload_s 854 zm185 dL_law_853 rfl rfl).trans ?_
  refine (ze_iload_n 855 zm185 dL_law_854 rfl rfl).trans ?_
  refine (ze_iconst 856 zm185 dL_law_855 ci_5 rfl).trans ?_
  refine (ze_iadd 857 zm185 dL_law_856 rfl).trans ?_
  refine (ze_saload 858 zm185 dL_law_857 h5 rfl).trans ?_
  refine (ze_aload_s 859 zm185 dL_law_858 rfl rfl).trans ?_
  refine (ze_iload_n 860 zm185 dL_law_859 rfl rfl).trans ?_
  refine (ze_bipush 862 zm185 dL_law_860 cb_6 rfl).trans ?_
  refine (ze_iadd 863 zm185 dL_law_862 rfl).trans ?_
  refine (ze_saload 864 zm185 dL_law_863 h6 rfl).trans ?_
  exact ze_virtI (as := [.int (sc.2 ((v3 + (1 : Int32))).toNatClampNeg), .int (sc.2 ((v3 + (2 : Int32))).toNatClampNeg), .int (sc.2 ((v3 + (3 : Int32))).toNatClampNeg), .int (sc.2 ((v3 + (4 : Int32))).toNatClampNeg), .int (sc.2 ((v3 + (5 : Int32))).toNatClampNeg), .int (sc.2 ((v3 + (6 : Int32))).toNatClampNeg)]) (rest := [.int s0]) 867 zm185 dL_law_864 r12_121 zm177 rfl rfl k173_10 rfl rfl rfl rfl
theorem b185_867 (sc : zScr) (v3 : Int32) (s0 : Int32) (s1 : Int32) (i : Nat → Nat → Int32) (b : Bool) (l : Nat → Nat → Int64) : zev sc (185, 867, [some (.retAddr 0), some (.ref 0), some (.ref 173), some (.int v3)], [.int s0, .int s1], (197, i, (zRF b), l)) = if s1 = s0 then zev sc (185, 988, [some (.retAddr 0), some (.ref 0), some (.ref 173), some (.int v3)], [], (197, i, (zRF b), l)) else zev sc (185, 870, [some (.retAddr 0), some (.ref 0), some (.ref 173), some (.int v3)], [], (197, i, (zRF b), l)) := by
  exact ze_icmp_eq 988 870 zm185 dL_law_867 (by decide) rfl
theorem b185_870 (sc : zScr) (v3 : Int32) (i : Nat → Nat → Int32) (b : Bool) (l : Nat → Nat → Int64) : zev sc (185, 870, [some (.retAddr 0), some (.ref 0), some (.ref 173), some (.int v3)], [], (197, i, (zRF b), l)) = some (.int (0 : Int32), (197, i, (zRF b), l)) := by
  refine (ze_iconst 871 zm185 dL_law_870 ci_0 rfl).trans ?_
  exact ze_zreturn zm185 dL_law_871 rfl (Or.inl rfl)
theorem b185_872 (sc : zScr) (v3 : Int32) (i : Nat → Nat → Int32) (b : Bool) (l : Nat → Nat → Int64) (h1 : vp_in (v3 + (1 : Int32)) sc.1) (h2 : vp_in (v3 + (2 : Int32)) sc.1) : zev sc (185, 872, [some (.retAddr 0), some (.ref 0), some (.ref 173), some (.int v3)], [], (197, i, (zRF b), l)) = (zev sc (100, 0, [some (.ref 0), some (.int (sc.2 ((v3 + (1 : Int32))).toNatClampNeg)), some (.int (sc.2 ((v3 + (2 : Int32))).toNatClampNeg))], [], (197, i, (zRF b), l))).bind (fun x => zev sc (185, 886, [some (.retAddr 0), some (.ref 0), some (.ref 173), some (.int v3)], [x.1], x.2)) := by
  refine (ze_aload_n 873 zm185 dL_law_872 rfl rfl).trans ?_
  refine (ze_aload_s 874 zm185 dL_law_873 rfl rfl).trans ?_
  refine (ze_iload_n 875 zm185 dL_law_874 rfl rfl).trans ?_
  refine (ze_iconst 876 zm185 dL_law_875 ci_1 rfl).trans ?_
  refine (ze_iadd 877 zm185 dL_law_876 rfl).trans ?_
  refine (ze_saload 878 zm185 dL_law_877 h1 rfl).trans ?_
  refine (ze_aload_s 879 zm185 dL_law_878 rfl rfl).trans ?_
  refine (ze_iload_n 880 zm185 dL_law_879 rfl rfl).trans ?_
  refine (ze_iconst 881 zm185 dL_law_880 ci_2 rfl).trans ?_
  refine (ze_iadd 882 zm185 dL_law_881 rfl).trans ?_
  refine (ze_saload 883 zm185 dL_law_882 h2 rfl).trans ?_
  exact ze_virtI (as := [.int (sc.2 ((v3 + (1 : Int32))).toNatClampNeg), .int (sc.2 ((v3 + (2 : Int32))).toNatClampNeg)]) (rest := []) 886 zm185 dL_law_883 r12_122 zm100 rfl rfl k0_9 rfl rfl rfl rfl
theorem b185_886 (sc : zScr) (v3 : Int32) (s0 : Int32) (i : Nat → Nat → Int32) (b : Bool) (l : Nat → Nat → Int64) (h1 : vp_in (v3 + (1 : Int32)) sc.1) (h2 : vp_in (v3 + (2 : Int32)) sc.1) : zev sc (185, 886, [some (.retAddr 0), some (.ref 0), some (.ref 173), some (.int v3)], [.int s0], (197, i, (zRF b), l)) = (zev sc (179, 0, [some (.ref 173), some (.int (sc.2 ((v3 + (1 : Int32))).toNatClampNeg)), some (.int (sc.2 ((v3 + (2 : Int32))).toNatClampNeg)), none, none, none, none], [], (197, i, (zRF b), l))).bind (fun x => zev sc (185, 900, [some (.retAddr 0), some (.ref 0), some (.ref 173), some (.int v3)], [x.1, .int s0], x.2)) := by
  refine (ze_aload_n 887 zm185 dL_law_886 rfl rfl).trans ?_
  refine (ze_aload_s 888 zm185 dL_law_887 rfl rfl).trans ?_
  refine (ze_iload_n 889 zm185 dL_law_888 rfl rfl).trans ?_
  refine (ze_iconst 890 zm185 dL_law_889 ci_1 rfl).trans ?_
  refine (ze_iadd 891 zm185 dL_law_890 rfl).trans ?_
  refine (ze_saload 892 zm185 dL_law_891 h1 rfl).trans ?_
  refine (ze_aload_s 893 zm185 dL_law_892 rfl rfl).trans ?_
  refine (ze_iload_n 894 zm185 dL_law_893 rfl rfl).trans ?_
  refine (ze_iconst 895 zm185 dL_law_894 ci_2 rfl).trans ?_
  refine (ze_iadd 896 zm185 dL_law_895 rfl).trans ?_
  refine (ze_saload 897 zm185 dL_law_896 h2 rfl).trans ?_
  exact ze_virtI (as := [.int (sc.2 ((v3 + (1 : Int32))).toNatClampNeg), .int (sc.2 ((v3 + (2 : Int32))).toNatClampNeg)]) (rest := [.int s0]) 900 zm185 dL_law_897 r12_125 zm179 rfl rfl k173_10 rfl rfl rfl rfl
theorem b185_900 (sc : zScr) (v3 : Int32) (s0 : Int32) (s1 : Int32) (i : Nat → Nat → Int32) (b : Bool) (l : Nat → Nat → Int64) : zev sc (185, 900, [some (.retAddr 0), some (.ref 0), some (.ref 173), some (.int v3)], [.int s0, .int s1], (197, i, (zRF b), l)) = if s1 = s0 then zev sc (185, 988, [some (.retAddr 0), some (.ref 0), some (.ref 173), some (.int v3)], [], (197, i, (zRF b), l)) else zev sc (185, 903, [some (.retAddr 0), some (.ref 0), some (.ref 173), some (.int v3)], [], (197, i, (zRF b), l)) := by
  exact ze_icmp_eq 988 903 zm185 dL_law_900 (by decide) rfl
theorem b185_903 (sc : zScr) (v3 : Int32) (i : Nat → Nat → Int32) (b : Bool) (l : Nat → Nat → Int64) : zev sc (185, 903, [some (.retAddr 0), some (.ref 0), some (.ref 173), some (.int v3)], [], (197, i, (zRF b), l)) = some (.int (0 : Int32), (197, i, (zRF b), l)) := by
  refine (ze_iconst 904 zm185 dL_law_903 ci_0 rfl).trans ?_
  exact ze_zreturn zm185 dL_law_904 rfl (Or.inl rfl)
theorem b185_905 (sc : zScr) (v3 : Int32) (i : Nat → Nat → Int32) (b : Bool) (l : Nat → Nat → Int64) (h1 : vp_in (v3 + (1 : Int32)) sc.1) : zev sc (185, 905, [some (.retAddr 0), some (.ref 0), some (.ref 173), some (.int v3)], [], (197, i, (zRF b), l)) = (zev sc (101, 0, [some (.ref 0), some (.int (sc.2 ((v3 + (1 : Int32))).toNatClampNeg))], [], (197, i, (zRF b), l))).bind (fun x => zev sc (185, 914, [some (.retAddr 0), some (.ref 0), some (.ref 173), some (.int v3)], [x.1], x.2)) := by
  refine (ze_aload_n 906 zm185 dL_law_905 rfl rfl).trans ?_
  refine (ze_aload_s 907 zm185 dL_law_906 rfl rfl).trans ?_
  refine (ze_iload_n 908 zm185 dL_law_907 rfl rfl).trans ?_
  refine (ze_iconst 909 zm185 dL_law_908 ci_1 rfl).trans ?_
  refine (ze_iadd 910 zm185 dL_law_909 rfl).trans ?_
  refine (ze_saload 911 zm185 dL_law_910 h1 rfl).trans ?_
  exact ze_virtI (as := [.int (sc.2 ((v3 + (1 : Int32))).toNatClampNeg)]) (rest := []) 914 zm185 dL_law_911 r12_126 zm101 rfl rfl k0_9 rfl rfl rfl rfl
theorem b185_914 (sc : zScr) (v3 : Int32) (s0 : Int32) (i : Nat → Nat → Int32) (b : Bool) (l : Nat → Nat → Int64) (h1 : vp_in (v3 + (1 : Int32)) sc.1) : zev sc (185, 914, [some (.retAddr 0), some (.ref 0), some (.ref 173), some (.int v3)], [.int s0], (197, i, (zRF b), l)) = (zev sc (181, 0, [some (.ref 173), some (.int (sc.2 ((v3 + (1 : Int32))).toNatClampNeg)), none], [], (197, i, (zRF b), l))).bind (fun x => zev sc (185, 923, [some (.retAddr 0), some (.ref 0), some (.ref 173), some (.int v3)], [x.1, .int s0], x.2)) := by
  refine (ze_aload_n 915 zm185 dL_law_914 rfl rfl).trans ?_
  refine (ze_aload_s 916 zm185 dL_law_915 rfl rfl).trans ?_
  refine (ze_iload_n 917 zm185 dL_law_916 rfl rfl).trans ?_
  refine (ze_iconst 918 zm185 dL_law_917 ci_1 rfl).trans ?_
  refine (ze_iadd 919 zm185 dL_law_918 rfl).trans ?_
  refine (ze_saload 920 zm185 dL_law_919 h1 rfl).trans ?_
  exact ze_virtI (as := [.int (sc.2 ((v3 + (1 : Int32))).toNatClampNeg)]) (rest := [.int s0]) 923 zm185 dL_law_920 r12_129 zm181 rfl rfl k173_10 rfl rfl rfl rfl
theorem b185_923 (sc : zScr) (v3 : Int32) (s0 : Int32) (s1 : Int32) (i : Nat → Nat → Int32) (b : Bool) (l : Nat → Nat → Int64) : zev sc (185, 923, [some (.retAddr 0), some (.ref 0), some (.ref 173), some (.int v3)], [.int s0, .int s1], (197, i, (zRF b), l)) = if s1 = s0 then zev sc (185, 988, [some (.retAddr 0), some (.ref 0), some (.ref 173), some (.int v3)], [], (197, i, (zRF b), l)) else zev sc (185, 926, [some (.retAddr 0), some (.ref 0), some (.ref 173), some (.int v3)], [], (197, i, (zRF b), l)) := by
  exact ze_icmp_eq 988 926 zm185 dL_law_923 (by decide) rfl
theorem b185_926 (sc : zScr) (v3 : Int32) (i : Nat → Nat → Int32) (b : Bool) (l : Nat → Nat → Int64) : zev sc (185, 926, [some (.retAddr 0), some (.ref 0), some (.ref 173), some (.int v3)], [], (197, i, (zRF b), l)) = some (.int (0 : Int32), (197, i, (zRF b), l)) := by
  refine (ze_iconst 927 zm185 dL_law_926 ci_0 rfl).trans ?_
  exact ze_zreturn zm185 dL_law_927 rfl (Or.inl rfl)
theorem b185_928 (sc : zScr) (v3 : Int32) (i : Nat → Nat → Int32) (b : Bool) (l : Nat → Nat → Int64) (h1 : vp_in (v3 + (1 : Int32)) sc.1) : zev sc (185, 928, [some (.retAddr 0), some (.ref 0), some (.ref 173), some (.int v3)], [], (197, i, (zRF b), l)) = (zev sc (102, 0, [some (.ref 0), some (.int (sc.2 ((v3 + (1 : Int32))).toNatClampNeg))], [], (197, i, (zRF b), l))).bind (fun x => zev sc (185, 937, [some (.retAddr 0), some (.ref 0), some (.ref 173), some (.int v3)], [x.1], x.2)) := by
  refine (ze_aload_n 929 zm185 dL_law_928 rfl rfl).trans ?_
  refine (ze_aload_s 930 zm185 dL_law_929 rfl rfl).trans ?_
  refine (ze_iload_n 931 zm185 dL_law_930 rfl rfl).trans ?_
  refine (ze_iconst 932 zm185 dL_law_931 ci_1 rfl).trans ?_
  refine (ze_iadd 933 zm185 dL_law_932 rfl).trans ?_
  refine (ze_saload 934 zm185 dL_law_933 h1 rfl).trans ?_
  exact ze_virtI (as := [.int (sc.2 ((v3 + (1 : Int32))).toNatClampNeg)]) (rest := []) 937 zm185 dL_law_934 r12_130 zm102 rfl rfl k0_9 rfl rfl rfl rfl
theorem b185_937 (sc : zScr) (v3 : Int32) (s0 : Int32) (i : Nat → Nat → Int32) (b : Bool) (l : Nat → Nat → Int64) (h1 : vp_in (v3 + (1 : Int32)) sc.1) : zev sc (185, 937, [some (.retAddr 0), some (.ref 0), some (.ref 173), some (.int v3)], [.int s0], (197, i, (zRF b), l)) = (zev sc (182, 0, [some (.ref 173), some (.int (sc.2 ((v3 + (1 : Int32))).toNatClampNeg)), none], [], (197, i, (zRF b), l))).bind (fun x => zev sc (185, 946, [some (.retAddr 0), some (.ref 0), some (.ref 173), some (.int v3)], [x.1, .int s0], x.2)) := by
  refine (ze_aload_n 938 zm185 dL_law_937 rfl rfl).trans ?_
  refine (ze_aload_s 939 zm185 dL_law_938 rfl rfl).trans ?_
  refine (ze_iload_n 940 zm185 dL_law_939 rfl rfl).trans ?_
  refine (ze_iconst 941 zm185 dL_law_940 ci_1 rfl).trans ?_
  refine (ze_iadd 942 zm185 dL_law_941 rfl).trans ?_
  refine (ze_saload 943 zm185 dL_law_942 h1 rfl).trans ?_
  exact ze_virtI (as := [.int (sc.2 ((v3 + (1 : Int32))).toNatClampNeg)]) (rest := [.int s0]) 946 zm185 dL_law_943 r12_133 zm182 rfl rfl k173_10 rfl rfl rfl rfl
theorem b185_946 (sc : zScr) (v3 : Int32) (s0 : Int32) (s1 : Int32) (i : Nat → Nat → Int32) (b : Bool) (l : Nat → Nat → Int64) : zev sc (185, 946, [some (.retAddr 0), some (.ref 0), some (.ref 173), some (.int v3)], [.int s0, .int s1], (197, i, (zRF b), l)) = if s1 = s0 then zev sc (185, 988, [some (.retAddr 0), some (.ref 0), some (.ref 173), some (.int v3)], [], (197, i, (zRF b), l)) else zev sc (185, 949, [some (.retAddr 0), some (.ref 0), some (.ref 173), some (.int v3)], [], (197, i, (zRF b), l)) := by
  exact ze_icmp_eq 988 949 zm185 dL_law_946 (by decide) rfl
theorem b185_949 (sc : zScr) (v3 : Int32) (i : Nat → Nat → Int32) (b : Bool) (l : Nat → Nat → Int64) : zev sc (185, 949, [some (.retAddr 0), some (.ref 0), some (.ref 173), some (.int v3)], [], (197, i, (zRF b), l)) = some (.int (0 : Int32), (197, i, (zRF b), l)) := by
  refine (ze_iconst 950 zm185 dL_law_949 ci_0 rfl).trans ?_
  exact ze_zreturn zm185 dL_law_950 rfl (Or.inl rfl)
theorem b185_951 (sc : zScr) (v3 : Int32) (i : Nat → Nat → Int32) (b : Bool) (l : Nat → Nat → Int64) (h1 : vp_in (v3 + (1 : Int32)) sc.1) : zev sc (185, 951, [some (.retAddr 0), some (.ref 0), some (.ref 173), some (.int v3)], [], (197, i, (zRF b), l)) = (zev sc (103, 0, [some (.ref 0), some (.int (sc.2 ((v3 + (1 : Int32))).toNatClampNeg))], [], (197, i, (zRF b), l))).bind (fun x => zev sc (185, 960, [some (.retAddr 0), some (.ref 0), some (.ref 173), some (.int v3)], [x.1], x.2)) := by
  refine (ze_aload_n 952 zm185 dL_law_951 rfl rfl).trans ?_
  refine (ze_aload_s 953 zm185 dL_law_952 rfl rfl).trans ?_
  refine (ze_iload_n 954 zm185 dL_law_953 rfl rfl).trans ?_
  refine (ze_iconst 955 zm185 dL_law_954 ci_1 rfl).trans ?_
  refine (ze_iadd 956 zm185 dL_law_955 rfl).trans ?_
  refine (ze_saload 957 zm185 dL_law_956 h1 rfl).trans ?_
  exact ze_virtI (as := [.int (sc.2 ((v3 + (1 : Int32))).toNatClampNeg)]) (rest := []) 960 zm185 dL_law_957 r12_134 zm103 rfl rfl k0_9 rfl rfl rfl rfl
theorem b185_960 (sc : zScr) (v3 : Int32) (s0 : Int32) (i : Nat → Nat → Int32) (b : Bool) (l : Nat → Nat → Int64) (h1 : vp_in (v3 + (1 : Int32)) sc.1) : zev sc (185, 960, [some (.retAddr 0), some (.ref 0), some (.ref 173), some (.int v3)], [.int s0], (197, i, (zRF b), l)) = (zev sc (183, 0, [some (.ref 173), some (.int (sc.2 ((v3 + (1 : Int32))).toNatClampNeg))], [], (197, i, (zRF b), l))).bind (fun x => zev sc (185, 969, [some (.retAddr 0), some (.ref 0), some (.ref 173), some (.int v3)], [x.1, .int s0], x.2)) := by
  refine (ze_aload_n 961 zm185 dL_law_960 rfl rfl).trans ?_
  refine (ze_aload_s 962 zm185 dL_law_961 rfl rfl).trans ?_
  refine (ze_iload_n 963 zm185 dL_law_962 rfl rfl).trans ?_
  refine (ze_iconst 964 zm185 dL_law_963 ci_1 rfl).trans ?_
  refine (ze_iadd 965 zm185 dL_law_964 rfl).trans ?_
  refine (ze_saload 966 zm185 dL_law_965 h1 rfl).trans ?_
  exact ze_virtI (as := [.int (sc.2 ((v3 + (1 : Int32))).toNatClampNeg)]) (rest := [.int s0]) 969 zm185 dL_law_966 r12_137 zm183 rfl rfl k173_10 rfl rfl rfl rfl
theorem b185_969 (sc : zScr) (v3 : Int32) (s0 : Int32) (s1 : Int32) (i : Nat → Nat → Int32) (b : Bool) (l : Nat → Nat → Int64) : zev sc (185, 969, [some (.retAddr 0), some (.ref 0), some (.ref 173), some (.int v3)], [.int s0, .int s1], (197, i, (zRF b), l)) = if s1 = s0 then zev sc (185, 988, [some (.retAddr 0), some (.ref 0), some (.ref 173), some (.int v3)], [], (197, i, (zRF b), l)) else zev sc (185, 972, [some (.retAddr 0), some (.ref 0), some (.ref 173), some (.int v3)], [], (197, i, (zRF b), l)) := by
  exact ze_icmp_eq 988 972 zm185 dL_law_969 (by decide) rfl
theorem b185_972 (sc : zScr) (v3 : Int32) (i : Nat → Nat → Int32) (b : Bool) (l : Nat → Nat → Int64) : zev sc (185, 972, [some (.retAddr 0), some (.ref 0), some (.ref 173), some (.int v3)], [], (197, i, (zRF b), l)) = some (.int (0 : Int32), (197, i, (zRF b), l)) := by
  refine (ze_iconst 973 zm185 dL_law_972 ci_0 rfl).trans ?_
  exact ze_zreturn zm185 dL_law_973 rfl (Or.inl rfl)
theorem b185_974 (sc : zScr) (v3 : Int32) (i : Nat → Nat → Int32) (b : Bool) (l : Nat → Nat → Int64) : zev sc (185, 974, [some (.retAddr 0), some (.ref 0), some (.ref 173), some (.int v3)], [], (197, i, (zRF b), l)) = (zev sc (104, 0, [some (.ref 0)], [], (197, i, (zRF b), l))).bind (fun x => zev sc (185, 978, [some (.retAddr 0), some (.ref 0), some (.ref 173), some (.int v3)], [x.1], x.2)) := by
  refine (ze_aload_n 975 zm185 dL_law_974 rfl rfl).trans ?_
  exact ze_virtI (as := []) (rest := []) 978 zm185 dL_law_975 r12_138 zm104 rfl rfl k0_9 rfl rfl rfl rfl
theorem b185_978 (sc : zScr) (v3 : Int32) (s0 : Int64) (i : Nat → Nat → Int32) (b : Bool) (l : Nat → Nat → Int64) : zev sc (185, 978, [some (.retAddr 0), some (.ref 0), some (.ref 173), some (.int v3)], [.long s0], (197, i, (zRF b), l)) = (zev sc (180, 0, [some (.ref 173)], [], (197, i, (zRF b), l))).bind (fun x => zev sc (185, 982, [some (.retAddr 0), some (.ref 0), some (.ref 173), some (.int v3)], [x.1, .long s0], x.2)) := by
  refine (ze_aload_n 979 zm185 dL_law_978 rfl rfl).trans ?_
  exact ze_virtI (as := []) (rest := [.long s0]) 982 zm185 dL_law_979 r12_142 zm180 rfl rfl k173_10 rfl rfl rfl rfl
theorem b185_982 (sc : zScr) (v3 : Int32) (s0 : Int64) (s1 : Int64) (i : Nat → Nat → Int32) (b : Bool) (l : Nat → Nat → Int64) : zev sc (185, 982, [some (.retAddr 0), some (.ref 0), some (.ref 173), some (.int v3)], [.long s0, .long s1], (197, i, (zRF b), l)) = if (lg_cmp s1 s0) = 0 then zev sc (185, 988, [some (.retAddr 0), some (.ref 0), some (.ref 173), some (.int v3)], [], (197, i, (zRF b), l)) else zev sc (185, 986, [some (.retAddr 0), some (.ref 0), some (.ref 173), some (.int v3)], [], (197, i, (zRF b), l)) := by
  refine (ze_lcmp 983 zm185 dL_law_982 rfl).trans ?_
  exact ze_if_eq 988 986 zm185 dL_law_983 (by decide) rfl
theorem b185_986 (sc : zScr) (v3 : Int32) (i : Nat → Nat → Int32) (b : Bool) (l : Nat → Nat → Int64) : zev sc (185, 986, [some (.retAddr 0), some (.ref 0), some (.ref 173), some (.int v3)], [], (197, i, (zRF b), l)) = some (.int (0 : Int32), (197, i, (zRF b), l)) := by
  refine (ze_iconst 987 zm185 dL_law_986 ci_0 rfl).trans ?_
  exact ze_zreturn zm185 dL_law_987 rfl (Or.inl rfl)
theorem b185_988 (sc : zScr) (v3 : Int32) (i : Nat → Nat → Int32) (b : Bool) (l : Nat → Nat → Int64) : zev sc (185, 988, [some (.retAddr 0), some (.ref 0), some (.ref 173), some (.int v3)], [], (197, i, (zRF b), l)) = zev sc (185, 18, [some (.retAddr 0), some (.ref 0), some (.ref 173), some (.int (v3 + 7))], [], (197, i, (zRF b), l)) := by
  refine (ze_iinc (v := (7 : Int32)) (A := 99) (ls' := [some (.retAddr 0), some (.ref 0), some (.ref 173), some (.int (v3 + 7))]) 991 zm185 dL_law_988 rfl ci_7 za185 rfl rfl rfl rfl rfl).trans ?_
  exact ze_goto 18 zm185 dL_law_991 (by decide)
theorem b185_994 (sc : zScr) (v3 : Int32) (i : Nat → Nat → Int32) (b : Bool) (l : Nat → Nat → Int64) : zev sc (185, 994, [some (.retAddr 0), some (.ref 0), some (.ref 173), some (.int v3)], [], (197, i, (zRF b), l)) = some (.int (1 : Int32), (197, i, (zRF b), l)) := by
  refine (ze_iconst 995 zm185 dL_law_994 ci_1 rfl).trans ?_
  exact ze_zreturn zm185 dL_law_995 rfl (Or.inr rfl)
