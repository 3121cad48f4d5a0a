/-! THE INTERPRETER IS SOUND: what the tables say, checked; the world; each instruction by its row; calls by Met -/
def zTB : List Cond := lw_tbl.filter goodWord
def zinT (q : Nat) (w : Cond) : Bool := goodWord w && decide (lw_tbl[q]? = some w)
theorem zinT_mem {q : Nat} {w : Cond} (h : zinT q w = true) : w ∈ zTB := by
  simp only [zinT, Bool.and_eq_true, decide_eq_true_eq] at h
  exact List.mem_filter.mpr ⟨List.mem_of_getElem? h.2, h.1⟩
theorem zinT_rfl {q : Nat} {w : Cond} (h1 : goodWord w = true) (h2 : lw_tbl[q]? = some w) : w ∈ zTB := List.mem_filter.mpr ⟨List.mem_of_getElem? h2, h1⟩
def zisN : Cond → Bool
  | .methodLinkNest _ _ _ _ => true
  | _ => false
def zNest : List Cond := lw_tbl.filter zisN
def zinN (q : Nat) (w : Cond) : Bool := zisN w && decide (lw_tbl[q]? = some w)
theorem zinN_mem {q : Nat} {w : Cond} (h : zinN q w = true) : w ∈ zNest := by
  simp only [zinN, Bool.and_eq_true, decide_eq_true_eq] at h
  exact List.mem_filter.mpr ⟨List.mem_of_getElem? h.2, h.1⟩
def zFok (e : Nat × Nat × Nat × Nat × Nat) : Bool := match zCl[e.2.2.1]? with
  | some r => decide (e.2.2.2.1 < r.2.2) && (zinT e.2.2.2.2 (.fieldLink (zRN e.1) e.2.1 r.1 (r.2.1 e.2.2.2.1).2.1 (r.2.1 e.2.2.2.1).2.2.1) && decide ((r.2.1 e.2.2.2.1).1 = r.1))
  | none => false
def zMNok (k na : Nat) : Bool := match zM k, zMP[k]? with
  | some N, some P => decide (k < 185) && (zinT P.2.2.2.2 (.initialized N.1.cls) && (plainName N.1.cls && ((decide (N.1.cls ≠ "java/lang/invoke/MethodHandle") && decide (N.1.cls ≠ "java/lang/invoke/VarHandle")) && (decide ((parseMethodDescriptor N.1.desc).map (fun d => d.parameters.length) = some na) && decide (N.1.cls = zRN N.2.2.2.2.1)))))
  | _, _ => false
def zMok (e : Nat × Nat × Nat × Nat × Nat × Nat) : Bool := match e.2.2.2.1 with
  | 4 => zinT e.2.2.2.2.2 (.methodLink (zRN e.1) e.2.1 Lib.objectInit)
  | 5 => zinT e.2.2.2.2.2 (.methodLink (zRN e.1) e.2.1 Lib.Math.max.name)
  | 6 => zinT e.2.2.2.2.2 (.methodLink (zRN e.1) e.2.1 Lib.Math.min.name)
  | 7 => zinT e.2.2.2.2.2 (.methodLink (zRN e.1) e.2.1 Lib.Math.abs.name)
  | 8 => zinT e.2.2.2.2.2 (.methodLink (zRN e.1) e.2.1 arraycopyName)
  | kd => zMNok e.2.2.1 e.2.2.2.2.1 && (match zM e.2.2.1, zMP[e.2.2.1]?, kd with
    | some N, some P, 0 => zinT e.2.2.2.2.2 (.methodLink (zRN e.1) e.2.1 N.1) && (zinT P.2.1 (.instanceMethod N.1) && (zinT P.2.2.2.1 (.selects N.1.cls N.1 N.1) && decide (N.2.2.2.2.1 < 11)))
    | some N, some P, 1 => zinT e.2.2.2.2.2 (.methodLink (zRN e.1) e.2.1 N.1) && zinT P.2.2.1 (.static N.1)
    | some N, some P, 2 => zinT e.2.2.2.2.2 (.methodLink (zRN e.1) e.2.1 N.1) && (zinT P.2.1 (.instanceMethod N.1) && (decide (N.1.name = "<init>") && decide (N.2.2.2.1 = none)))
    | some N, some P, 3 => zinN e.2.2.2.2.2 (.methodLinkNest (zRN e.1) e.2.1 N.1 "HarpFences") && (zinT P.2.1 (.instanceMethod N.1) && (decide (N.1.name = "<init>") && decide (N.2.2.2.1 = none)))
    | _, _, _ => false)
set_option maxRecDepth 100000 in
theorem zFL_ok : zFL.all zFok = true := by decide +kernel
set_option maxRecDepth 100000 in
theorem zML_ok : zML.all zMok = true := by decide +kernel
set_option maxRecDepth 100000 in
theorem zCL_ok : zCL.all (fun e => match zCl[e.2.2.1]? with
  | some r => zinT e.2.2.2 (.classLink (zRN e.1) e.2.1 r.1)
  | none => false) = true := by decide +kernel
set_option maxRecDepth 100000 in
theorem zIL_ok : zIL.all (fun e => zinT e.2.2.2 (.constant (zRN e.1) e.2.1 e.2.2.1)) = true := by decide +kernel
set_option maxRecDepth 100000 in
theorem zLL_ok : zLL.all (fun e => zinT e.2.2.2 (.constantLong (zRN e.1) e.2.1 e.2.2.1)) = true := by decide +kernel
theorem zgood : ∀ w ∈ zTB, goodWord w = true := fun _ h => (List.mem_filter.mp h).2
theorem zF_spec {o i ci j : Nat} (h : zF o i = some (ci, j)) : ∃ (C : String) (T : u_T) (N : Nat), zCl[ci]? = some (C, T, N) ∧ j < N ∧ Cond.fieldLink (zRN o) i C (T j).2.1 (T j).2.2.1 ∈ zTB ∧ (T j).1 = C := by
  unfold zF at h
  obtain ⟨e, he, hv⟩ := Option.map_eq_some_iff.mp h
  have h1 := List.find?_some he
  have h2 := List.all_eq_true.mp zFL_ok e (List.mem_of_find?_eq_some he)
  simp only [Bool.and_eq_true, beq_iff_eq] at h1
  simp only [Prod.mk.injEq] at hv
  obtain ⟨rfl, rfl⟩ := h1
  obtain ⟨rfl, rfl⟩ := hv
  unfold zFok at h2
  split at h2
  · rename_i r hr
    simp only [Bool.and_eq_true, decide_eq_true_eq] at h2
    exact ⟨r.1, r.2.1, r.2.2, hr, h2.1, zinT_mem h2.2.1, h2.2.2⟩
  · cases h2
theorem zMr_spec {o i k kd na : Nat} (h : zMr o i = some (k, kd, na)) : ∃ q, zMok (o, i, k, kd, na, q) = true := by
  unfold zMr at h
  obtain ⟨e, he, hv⟩ := Option.map_eq_some_iff.mp h
  have h1 := List.find?_some he
  have h2 := List.all_eq_true.mp zML_ok e (List.mem_of_find?_eq_some he)
  simp only [Bool.and_eq_true, beq_iff_eq] at h1
  simp only [Prod.mk.injEq] at hv
  obtain ⟨rfl, rfl⟩ := h1
  obtain ⟨rfl, rfl, rfl⟩ := hv
  exact ⟨_, h2⟩
theorem zC_spec {o i ci : Nat} (h : zC o i = some ci) : ∃ (r : vw_C), zCl[ci]? = some r ∧ Cond.classLink (zRN o) i r.1 ∈ zTB := by
  unfold zC at h
  obtain ⟨e, he, hv⟩ := Option.map_eq_some_iff.mp h
  have h1 := List.find?_some he
  have h2 := List.all_eq_true.mp zCL_ok e (List.mem_of_find?_eq_some he)
  simp only [Bool.and_eq_true, beq_iff_eq] at h1
  obtain ⟨rfl, rfl⟩ := h1
  subst hv
  split at h2
  · rename_i r hr
    exact ⟨r, hr, zinT_mem h2⟩
  · cases h2
theorem zI_spec {o i : Nat} {v : Int32} (h : zI o i = some v) : Cond.constant (zRN o) i v ∈ zTB := by
  unfold zI at h
  obtain ⟨e, he, hv⟩ := Option.map_eq_some_iff.mp h
  have h1 := List.find?_some he
  have h2 := List.all_eq_true.mp zIL_ok e (List.mem_of_find?_eq_some he)
  simp only [Bool.and_eq_true, beq_iff_eq] at h1
  obtain ⟨rfl, rfl⟩ := h1
  subst hv
  exact zinT_mem h2
theorem zL_spec {o i : Nat} {v : Int64} (h : zL o i = some v) : Cond.constantLong (zRN o) i v ∈ zTB := by
  unfold zL at h
  obtain ⟨e, he, hv⟩ := Option.map_eq_some_iff.mp h
  have h1 := List.find?_some he
  have h2 := List.all_eq_true.mp zLL_ok e (List.mem_of_find?_eq_some he)
  simp only [Bool.and_eq_true, beq_iff_eq] at h1
  obtain ⟨rfl, rfl⟩ := h1
  subst hv
  exact zinT_mem h2
/-- what is known of a class -/
def zCK (ci : Nat) (r : vw_C) : Prop := (∀ w ∈ u_ws r.1 r.2.1 r.2.2, w ∈ zTB) ∧ (∀ k, k < r.2.2 → parseFieldDescriptor (r.2.1 k).2.2.1 = some (zTy ci k)) ∧ (∀ a, a < r.2.2 → ∀ b, b < r.2.2 → a ≠ b → (r.2.1 a).2.1 ≠ (r.2.1 b).2.1) ∧ Cond.instantiable r.1 r.2.2 ∈ zTB ∧ Cond.initialized r.1 ∈ zTB
set_option maxRecDepth 100000 in
theorem zCKw0 : ∀ w ∈ u_ws RX0 TX0 5, w ∈ lw_tbl ∧ goodWord w = true := by decide +kernel
set_option maxRecDepth 100000 in
theorem zCK0 : zCK 0 (RX0, TX0, 5) := ⟨fun w h => List.mem_filter.mpr (zCKw0 w h), tyX0_ok, nmX0, zinT_mem (q := 343) (by decide +kernel), zinT_mem (q := 75) (by decide +kernel)⟩
set_option maxRecDepth 100000 in
theorem zCKw1 : ∀ w ∈ u_ws RX1 TX1 2, w ∈ lw_tbl ∧ goodWord w = true := by decide +kernel
set_option maxRecDepth 100000 in
theorem zCK1 : zCK 1 (RX1, TX1, 2) := ⟨fun w h => List.mem_filter.mpr (zCKw1 w h), tyX1_ok, nmX1, zinT_mem (q := 249) (by decide +kernel), zinT_mem (q := 71) (by decide +kernel)⟩
set_option maxRecDepth 100000 in
theorem zCKw2 : ∀ w ∈ u_ws RX2 TX2 7, w ∈ lw_tbl ∧ goodWord w = true := by decide +kernel
set_option maxRecDepth 100000 in
theorem zCK2 : zCK 2 (RX2, TX2, 7) := ⟨fun w h => List.mem_filter.mpr (zCKw2 w h), tyX2_ok, nmX2, zinT_mem (q := 289) (by decide +kernel), zinT_mem (q := 73) (by decide +kernel)⟩
set_option maxRecDepth 100000 in
theorem zCKw3 : ∀ w ∈ u_ws RX3 TX3 3, w ∈ lw_tbl ∧ goodWord w = true := by decide +kernel
set_option maxRecDepth 100000 in
theorem zCK3 : zCK 3 (RX3, TX3, 3) := ⟨fun w h => List.mem_filter.mpr (zCKw3 w h), tyX3_ok, nmX3, zinT_mem (q := 367) (by decide +kernel), zinT_mem (q := 77) (by decide +kernel)⟩
set_option maxRecDepth 100000 in
theorem zCKw4 : ∀ w ∈ u_ws RX4 TX4 12, w ∈ lw_tbl ∧ goodWord w = true := by decide +kernel
set_option maxRecDepth 100000 in
theorem zCK4 : zCK 4 (RX4, TX4, 12) := ⟨fun w h => List.mem_filter.mpr (zCKw4 w h), tyX4_ok, nmX4, zinT_mem (q := 120) (by decide +kernel), zinT_mem (q := 69) (by decide +kernel)⟩
set_option maxRecDepth 100000 in
theorem zCKw5 : ∀ w ∈ u_ws RX5 TX5 3, w ∈ lw_tbl ∧ goodWord w = true := by decide +kernel
set_option maxRecDepth 100000 in
theorem zCK5 : zCK 5 (RX5, TX5, 3) := ⟨fun w h => List.mem_filter.mpr (zCKw5 w h), tyX5_ok, nmX5, zinT_mem (q := 267) (by decide +kernel), zinT_mem (q := 72) (by decide +kernel)⟩
set_option maxRecDepth 100000 in
theorem zCKw6 : ∀ w ∈ u_ws RX6 TX6 6, w ∈ lw_tbl ∧ goodWord w = true := by decide +kernel
set_option maxRecDepth 100000 in
theorem zCK6 : zCK 6 (RX6, TX6, 6) := ⟨fun w h => List.mem_filter.mpr (zCKw6 w h), tyX6_ok, nmX6, zinT_mem (q := 318) (by decide +kernel), zinT_mem (q := 74) (by decide +kernel)⟩
set_option maxRecDepth 100000 in
theorem zCKw7 : ∀ w ∈ u_ws RX7 TX7 7, w ∈ lw_tbl ∧ goodWord w = true := by decide +kernel
set_option maxRecDepth 100000 in
theorem zCK7 : zCK 7 (RX7, TX7, 7) := ⟨fun w h => List.mem_filter.mpr (zCKw7 w h), tyX7_ok, nmX7, zinT_mem (q := 207) (by decide +kernel), zinT_mem (q := 70) (by decide +kernel)⟩
set_option maxRecDepth 100000 in
theorem zCKw8 : ∀ w ∈ u_ws RX8 TX8 7, w ∈ lw_tbl ∧ goodWord w = true := by decide +kernel
set_option maxRecDepth 100000 in
theorem zCK8 : zCK 8 (RX8, TX8, 7) := ⟨fun w h => List.mem_filter.mpr (zCKw8 w h), tyX8_ok, nmX8, zinT_mem (q := 90) (by decide +kernel), zinT_mem (q := 68) (by decide +kernel)⟩
set_option maxRecDepth 100000 in
theorem zCKw9 : ∀ w ∈ u_ws RX9 TX9 11, w ∈ lw_tbl ∧ goodWord w = true := by decide +kernel
set_option maxRecDepth 100000 in
theorem zCK9 : zCK 9 (RX9, TX9, 11) := ⟨fun w h => List.mem_filter.mpr (zCKw9 w h), tyX9_ok, nmX9, zinT_mem (q := 82) (by decide +kernel), zinT_mem (q := 67) (by decide +kernel)⟩
set_option maxRecDepth 100000 in
theorem zCKw10 : ∀ w ∈ u_ws RX10 TX10 32, w ∈ lw_tbl ∧ goodWord w = true := by decide +kernel
set_option maxRecDepth 100000 in
theorem zCK10 : zCK 10 (RX10, TX10, 32) := ⟨fun w h => List.mem_filter.mpr (zCKw10 w h), tyX10_ok, nmX10, zinT_mem (q := 894) (by decide +kernel), zinT_mem (q := 79) (by decide +kernel)⟩
theorem zCK_of {ci : Nat} {r : vw_C} (h : zCl[ci]? = some r) : ci < 11 ∧ zCK ci r := by
  match ci, h with
  | 0, h => cases h; exact ⟨by decide, zCK0⟩
  | 1, h => cases h; exact ⟨by decide, zCK1⟩
  | 2, h => cases h; exact ⟨by decide, zCK2⟩
  | 3, h => cases h; exact ⟨by decide, zCK3⟩
  | 4, h => cases h; exact ⟨by decide, zCK4⟩
  | 5, h => cases h; exact ⟨by decide, zCK5⟩
  | 6, h => cases h; exact ⟨by decide, zCK6⟩
  | 7, h => cases h; exact ⟨by decide, zCK7⟩
  | 8, h => cases h; exact ⟨by decide, zCK8⟩
  | 9, h => cases h; exact ⟨by decide, zCK9⟩
  | 10, h => cases h; exact ⟨by decide, zCK10⟩
  | ci + 11, h => exact absurd h (by simp [zCl])
set_option maxRecDepth 100000 in
theorem zCD0 : Cond.code yX0_init cX0_init 2 none ∈ zTB := zinT_rfl (q := 346) rfl rfl
set_option maxRecDepth 100000 in
theorem zCD1 : Cond.code yX0_alike cX0_alike 3 (some .int) ∈ zTB := zinT_rfl (q := 616) rfl rfl
set_option maxRecDepth 100000 in
theorem zCD2 : Cond.code yX0_fewestTuned cX0_fewestTuned 1 (some .int) ∈ zTB := zinT_rfl (q := 634) rfl rfl
set_option maxRecDepth 100000 in
theorem zCD3 : Cond.code yX0_fewestEars cX0_fewestEars 2 (some .int) ∈ zTB := zinT_rfl (q := 646) rfl rfl
set_option maxRecDepth 100000 in
theorem zCD4 : Cond.code yX0_partnerAlikes cX0_partnerAlikes 3 none ∈ zTB := zinT_rfl (q := 620) rfl rfl
set_option maxRecDepth 100000 in
theorem zCD5 : Cond.code yX0_areAlike cX0_areAlike 3 (some .boolean) ∈ zTB := zinT_rfl (q := 624) rfl rfl
set_option maxRecDepth 100000 in
theorem zCD6 : Cond.code yX0_fewestOfEachTwo cX0_fewestOfEachTwo 4 (some .int) ∈ zTB := zinT_rfl (q := 638) rfl rfl
set_option maxRecDepth 100000 in
theorem zCD7 : Cond.code yX0_hasOneOfEachTwo cX0_hasOneOfEachTwo 4 (some .boolean) ∈ zTB := zinT_rfl (q := 642) rfl rfl
set_option maxRecDepth 100000 in
theorem zCD8 : Cond.code yX0_mostMilk cX0_mostMilk 1 (some .int) ∈ zTB := zinT_rfl (q := 781) rfl rfl
set_option maxRecDepth 100000 in
theorem zCD9 : Cond.code yX0_fieldInHerd cX0_fieldInHerd 5 (some .int) ∈ zTB := zinT_rfl (q := 794) rfl rfl
set_option maxRecDepth 100000 in
theorem zCD10 : Cond.code yX0_bestField cX0_bestField 4 (some .int) ∈ zTB := zinT_rfl (q := 798) rfl rfl
set_option maxRecDepth 100000 in
theorem zCD11 : Cond.code yX0_measureHerds cX0_measureHerds 4 none ∈ zTB := zinT_rfl (q := 785) rfl rfl
set_option maxRecDepth 100000 in
theorem zCD12 : Cond.code yX0_milkWith cX0_milkWith 4 (some .int) ∈ zTB := zinT_rfl (q := 790) rfl rfl
set_option maxRecDepth 100000 in
theorem zCD13 : Cond.code yX1_init cX1_init 3 none ∈ zTB := zinT_rfl (q := 252) rfl rfl
set_option maxRecDepth 100000 in
theorem zCD14 : Cond.code yX1_isString cX1_isString 2 (some .boolean) ∈ zTB := zinT_rfl (q := 547) rfl rfl
set_option maxRecDepth 100000 in
theorem zCD15 : Cond.code yX1_soundTo cX1_soundTo 3 (some .int) ∈ zTB := zinT_rfl (q := 543) rfl rfl
set_option maxRecDepth 100000 in
theorem zCD16 : Cond.code yX1_fifthsAt cX1_fifthsAt 5 (some .int) ∈ zTB := zinT_rfl (q := 766) rfl rfl
set_option maxRecDepth 100000 in
theorem zCD17 : Cond.code yX1_isStringAt cX1_isStringAt 3 (some .boolean) ∈ zTB := zinT_rfl (q := 770) rfl rfl
set_option maxRecDepth 100000 in
theorem zCD18 : Cond.code yX1_beastsThatSound cX1_beastsThatSound 5 (some .int) ∈ zTB := zinT_rfl (q := 658) rfl rfl
set_option maxRecDepth 100000 in
theorem zCD19 : Cond.code yX2_init cX2_init 2 none ∈ zTB := zinT_rfl (q := 292) rfl rfl
set_option maxRecDepth 100000 in
theorem zCD20 : Cond.code yX2_takes cX2_takes 2 (some .boolean) ∈ zTB := zinT_rfl (q := 668) rfl rfl
set_option maxRecDepth 100000 in
theorem zCD21 : Cond.code yX2_rowsFrom cX2_rowsFrom 5 (some .int) ∈ zTB := zinT_rfl (q := 684) rfl rfl
set_option maxRecDepth 100000 in
theorem zCD22 : Cond.code yX2_crossAll cX2_crossAll 6 none ∈ zTB := zinT_rfl (q := 688) rfl rfl
set_option maxRecDepth 100000 in
theorem zCD23 : Cond.code yX2_endsOf cX2_endsOf 4 (some .int) ∈ zTB := zinT_rfl (q := 698) rfl rfl
set_option maxRecDepth 100000 in
theorem zCD24 : Cond.code yX2_endsBehind cX2_endsBehind 6 (some .int) ∈ zTB := zinT_rfl (q := 702) rfl rfl
set_option maxRecDepth 100000 in
theorem zCD25 : Cond.code yX2_kindsThatCan cX2_kindsThatCan 3 (some .int) ∈ zTB := zinT_rfl (q := 710) rfl rfl
set_option maxRecDepth 100000 in
theorem zCD26 : Cond.code yX2_fenceToWatch cX2_fenceToWatch 5 (some .int) ∈ zTB := zinT_rfl (q := 719) rfl rfl
set_option maxRecDepth 100000 in
theorem zCD27 : Cond.code yX2_greatestCrowd cX2_greatestCrowd 6 (some .int) ∈ zTB := zinT_rfl (q := 723) rfl rfl
set_option maxRecDepth 100000 in
theorem zCD28 : Cond.code yX2_comesTo cX2_comesTo 3 (some .boolean) ∈ zTB := zinT_rfl (q := 727) rfl rfl
set_option maxRecDepth 100000 in
theorem zCD29 : Cond.code yX3_init cX3_init 1 none ∈ zTB := zinT_rfl (q := 370) rfl rfl
set_option maxRecDepth 100000 in
theorem zCD30 : Cond.code yX3_take cX3_take 3 none ∈ zTB := zinT_rfl (q := 871) rfl rfl
set_option maxRecDepth 100000 in
theorem zCD31 : Cond.code yX3_give cX3_give 3 none ∈ zTB := zinT_rfl (q := 884) rfl rfl
set_option maxRecDepth 100000 in
theorem zCD32 : Cond.code yX4_init cX4_init 1 none ∈ zTB := zinT_rfl (q := 123) rfl rfl
set_option maxRecDepth 100000 in
theorem zCD33 : Cond.code yX4_begin cX4_begin 1 none ∈ zTB := zinT_rfl (q := 390) rfl rfl
set_option maxRecDepth 100000 in
theorem zCD34 : Cond.code yX4_copyFrom cX4_copyFrom 2 none ∈ zTB := zinT_rfl (q := 509) rfl rfl
set_option maxRecDepth 100000 in
theorem zCD35 : Cond.code yX4_isAt cX4_isAt 3 (some .boolean) ∈ zTB := zinT_rfl (q := 556) rfl rfl
set_option maxRecDepth 100000 in
theorem zCD36 : Cond.code yX4_across cX4_across 3 (some .int) ∈ zTB := zinT_rfl (q := 569) rfl rfl
set_option maxRecDepth 100000 in
theorem zCD37 : Cond.code yX4_endBits cX4_endBits 2 (some .int) ∈ zTB := zinT_rfl (q := 629) rfl rfl
set_option maxRecDepth 100000 in
theorem zCD38 : Cond.code yX5_init cX5_init 2 none ∈ zTB := zinT_rfl (q := 270) rfl rfl
set_option maxRecDepth 100000 in
theorem zCD39 : Cond.code yX5_note cX5_note 2 none ∈ zTB := zinT_rfl (q := 560) rfl rfl
set_option maxRecDepth 100000 in
theorem zCD40 : Cond.code yX5_restore cX5_restore 2 none ∈ zTB := zinT_rfl (q := 607) rfl rfl
set_option maxRecDepth 100000 in
theorem zCD41 : Cond.code yX5_copyFrom cX5_copyFrom 3 none ∈ zTB := zinT_rfl (q := 876) rfl rfl
set_option maxRecDepth 100000 in
theorem zCD42 : Cond.code yX6_init cX6_init 2 none ∈ zTB := zinT_rfl (q := 321) rfl rfl
set_option maxRecDepth 100000 in
theorem zCD43 : Cond.code yX6_fewestHeard cX6_fewestHeard 4 (some .int) ∈ zTB := zinT_rfl (q := 737) rfl rfl
set_option maxRecDepth 100000 in
theorem zCD44 : Cond.code yX6_fewestCrossings cX6_fewestCrossings 4 (some .int) ∈ zTB := zinT_rfl (q := 752) rfl rfl
set_option maxRecDepth 100000 in
theorem zCD45 : Cond.code yX6_firstFence cX6_firstFence 5 (some .int) ∈ zTB := zinT_rfl (q := 756) rfl rfl
set_option maxRecDepth 100000 in
theorem zCD46 : Cond.code yX6_costOf cX6_costOf 3 (some .int) ∈ zTB := zinT_rfl (q := 746) rfl rfl
set_option maxRecDepth 100000 in
theorem zCD47 : Cond.code yX6_measure cX6_measure 8 none ∈ zTB := zinT_rfl (q := 741) rfl rfl
set_option maxRecDepth 100000 in
theorem zCD48 : Cond.code yX6_frostParts cX6_frostParts 4 (some .int) ∈ zTB := zinT_rfl (q := 806) rfl rfl
set_option maxRecDepth 100000 in
theorem zCD49 : Cond.code yX6_frostUnheard cX6_frostUnheard 8 (some .int) ∈ zTB := zinT_rfl (q := 813) rfl rfl
set_option maxRecDepth 100000 in
theorem zCD50 : Cond.code yX6_snappedFences cX6_snappedFences 4 (some .int) ∈ zTB := zinT_rfl (q := 818) rfl rfl
set_option maxRecDepth 100000 in
theorem zCD51 : Cond.code yX6_reaches cX6_reaches 7 (some .boolean) ∈ zTB := zinT_rfl (q := 822) rfl rfl
set_option maxRecDepth 100000 in
theorem zCD52 : Cond.code yX6_power cX6_power 4 (some .int) ∈ zTB := zinT_rfl (q := 809) rfl rfl
set_option maxRecDepth 100000 in
theorem zCD53 : Cond.code yX6_commonDivisor cX6_commonDivisor 6 (some .int) ∈ zTB := zinT_rfl (q := 826) rfl rfl
set_option maxRecDepth 100000 in
theorem zCD54 : Cond.code yX7_init cX7_init 1 none ∈ zTB := zinT_rfl (q := 210) rfl rfl
set_option maxRecDepth 100000 in
theorem zCD55 : Cond.code yX7_begin cX7_begin 2 none ∈ zTB := zinT_rfl (q := 398) rfl rfl
set_option maxRecDepth 100000 in
theorem zCD56 : Cond.code yX7_copyFrom cX7_copyFrom 2 none ∈ zTB := zinT_rfl (q := 564) rfl rfl
set_option maxRecDepth 100000 in
theorem zCD57 : Cond.code yX7_sing cX7_sing 2 none ∈ zTB := zinT_rfl (q := 573) rfl rfl
set_option maxRecDepth 100000 in
theorem zCD58 : Cond.code yX8_init cX8_init 1 none ∈ zTB := zinT_rfl (q := 93) rfl rfl
set_option maxRecDepth 100000 in
theorem zCD59 : Cond.code yX8_takes cX8_takes 2 (some .boolean) ∈ zTB := zinT_rfl (q := 443) rfl rfl
set_option maxRecDepth 100000 in
theorem zCD60 : Cond.code yX8_tell cX8_tell 4 (some .int) ∈ zTB := zinT_rfl (q := 455) rfl rfl
set_option maxRecDepth 100000 in
theorem zCD61 : Cond.code yX8_tellsFields cX8_tellsFields 2 (some .boolean) ∈ zTB := zinT_rfl (q := 481) rfl rfl
set_option maxRecDepth 100000 in
theorem zCD62 : Cond.code yX8_tellsFence cX8_tellsFence 3 (some .boolean) ∈ zTB := zinT_rfl (q := 489) rfl rfl
set_option maxRecDepth 100000 in
theorem zCD63 : Cond.code yX8_tellsKind cX8_tellsKind 3 (some .boolean) ∈ zTB := zinT_rfl (q := 493) rfl rfl
set_option maxRecDepth 100000 in
theorem zCD64 : Cond.code yX8_tellsBeast cX8_tellsBeast 3 (some .boolean) ∈ zTB := zinT_rfl (q := 497) rfl rfl
set_option maxRecDepth 100000 in
theorem zCD65 : Cond.code yX8_tellsWet cX8_tellsWet 2 (some .boolean) ∈ zTB := zinT_rfl (q := 501) rfl rfl
set_option maxRecDepth 100000 in
theorem zCD66 : Cond.code yX8_number cX8_number 3 (some .boolean) ∈ zTB := zinT_rfl (q := 485) rfl rfl
set_option maxRecDepth 100000 in
theorem zCD67 : Cond.code yX8_stops cX8_stops 1 (some .boolean) ∈ zTB := zinT_rfl (q := 505) rfl rfl
set_option maxRecDepth 100000 in
theorem zCD68 : Cond.code yX8_step cX8_step 1 none ∈ zTB := zinT_rfl (q := 460) rfl rfl
set_option maxRecDepth 100000 in
theorem zCD69 : Cond.code yX8_stepLetters cX8_stepLetters 1 none ∈ zTB := zinT_rfl (q := 467) rfl rfl
set_option maxRecDepth 100000 in
theorem zCD70 : Cond.code yX8_stepNumber cX8_stepNumber 2 none ∈ zTB := zinT_rfl (q := 474) rfl rfl
set_option maxRecDepth 100000 in
theorem zCD71 : Cond.code yX8_isLetter cX8_isLetter 1 (some .boolean) ∈ zTB := zinT_rfl (q := 463) rfl rfl
set_option maxRecDepth 100000 in
theorem zCD72 : Cond.code yX8_isDigit cX8_isDigit 1 (some .boolean) ∈ zTB := zinT_rfl (q := 470) rfl rfl
set_option maxRecDepth 100000 in
theorem zCD73 : Cond.code yX9_init cX9_init 2 none ∈ zTB := zinT_rfl (q := 85) rfl rfl
set_option maxRecDepth 100000 in
theorem zCD74 : Cond.code yX9_type cX9_type 2 (some .int) ∈ zTB := zinT_rfl (q := 439) rfl rfl
set_option maxRecDepth 100000 in
theorem zCD75 : Cond.code yX9_clear cX9_clear 2 (some .int) ∈ zTB := zinT_rfl (q := 447) rfl rfl
set_option maxRecDepth 100000 in
theorem zCD76 : Cond.code yX9_downs cX9_downs 2 (some .int) ∈ zTB := zinT_rfl (q := 451) rfl rfl
set_option maxRecDepth 100000 in
theorem zCD77 : Cond.code yX9_fence cX9_fence 3 (some .int) ∈ zTB := zinT_rfl (q := 514) rfl rfl
set_option maxRecDepth 100000 in
theorem zCD78 : Cond.code yX9_kind cX9_kind 3 (some .int) ∈ zTB := zinT_rfl (q := 522) rfl rfl
set_option maxRecDepth 100000 in
theorem zCD79 : Cond.code yX9_beast cX9_beast 3 (some .int) ∈ zTB := zinT_rfl (q := 531) rfl rfl
set_option maxRecDepth 100000 in
theorem zCD80 : Cond.code yX9_sound cX9_sound 3 (some .int) ∈ zTB := zinT_rfl (q := 539) rfl rfl
set_option maxRecDepth 100000 in
theorem zCD81 : Cond.code yX9_goes cX9_goes 5 (some .int) ∈ zTB := zinT_rfl (q := 552) rfl rfl
set_option maxRecDepth 100000 in
theorem zCD82 : Cond.code yX9_cuts cX9_cuts 3 (some .int) ∈ zTB := zinT_rfl (q := 578) rfl rfl
set_option maxRecDepth 100000 in
theorem zCD83 : Cond.code yX9_tunes cX9_tunes 4 (some .int) ∈ zTB := zinT_rfl (q := 591) rfl rfl
set_option maxRecDepth 100000 in
theorem zCD84 : Cond.code yX9_lays cX9_lays 3 (some .int) ∈ zTB := zinT_rfl (q := 595) rfl rfl
set_option maxRecDepth 100000 in
theorem zCD85 : Cond.code yX9_rains cX9_rains 3 (some .int) ∈ zTB := zinT_rfl (q := 599) rfl rfl
set_option maxRecDepth 100000 in
theorem zCD86 : Cond.code yX9_undo cX9_undo 1 (some .int) ∈ zTB := zinT_rfl (q := 603) rfl rfl
set_option maxRecDepth 100000 in
theorem zCD87 : Cond.code yX9_now cX9_now 2 (some .int) ∈ zTB := zinT_rfl (q := 612) rfl rfl
set_option maxRecDepth 100000 in
theorem zCD88 : Cond.code yX9_song cX9_song 2 (some .int) ∈ zTB := zinT_rfl (q := 650) rfl rfl
set_option maxRecDepth 100000 in
theorem zCD89 : Cond.code yX9_who cX9_who 2 (some .int) ∈ zTB := zinT_rfl (q := 654) rfl rfl
set_option maxRecDepth 100000 in
theorem zCD90 : Cond.code yX9_hears cX9_hears 2 (some .int) ∈ zTB := zinT_rfl (q := 664) rfl rfl
set_option maxRecDepth 100000 in
theorem zCD91 : Cond.code yX9_forget cX9_forget 2 (some .int) ∈ zTB := zinT_rfl (q := 672) rfl rfl
set_option maxRecDepth 100000 in
theorem zCD92 : Cond.code yX9_ways cX9_ways 3 (some .int) ∈ zTB := zinT_rfl (q := 676) rfl rfl
set_option maxRecDepth 100000 in
theorem zCD93 : Cond.code yX9_ends cX9_ends 2 (some .int) ∈ zTB := zinT_rfl (q := 694) rfl rfl
set_option maxRecDepth 100000 in
theorem zCD94 : Cond.code yX9_can cX9_can 1 (some .int) ∈ zTB := zinT_rfl (q := 706) rfl rfl
set_option maxRecDepth 100000 in
theorem zCD95 : Cond.code yX9_ask cX9_ask 1 (some .int) ∈ zTB := zinT_rfl (q := 715) rfl rfl
set_option maxRecDepth 100000 in
theorem zCD96 : Cond.code yX9_quiet cX9_quiet 5 (some .int) ∈ zTB := zinT_rfl (q := 733) rfl rfl
set_option maxRecDepth 100000 in
theorem zCD97 : Cond.code yX9_fifths cX9_fifths 2 (some .int) ∈ zTB := zinT_rfl (q := 762) rfl rfl
set_option maxRecDepth 100000 in
theorem zCD98 : Cond.code yX9_herd cX9_herd 2 (some .int) ∈ zTB := zinT_rfl (q := 777) rfl rfl
set_option maxRecDepth 100000 in
theorem zCD99 : Cond.code yX9_frost cX9_frost 10 (some .int) ∈ zTB := zinT_rfl (q := 802) rfl rfl
set_option maxRecDepth 100000 in
theorem zCD100 : Cond.code yX9_mark cX9_mark 3 (some .int) ∈ zTB := zinT_rfl (q := 831) rfl rfl
set_option maxRecDepth 100000 in
theorem zCD101 : Cond.code yX9_keep cX9_keep 2 (some .int) ∈ zTB := zinT_rfl (q := 864) rfl rfl
set_option maxRecDepth 100000 in
theorem zCD102 : Cond.code yX9_back cX9_back 2 (some .int) ∈ zTB := zinT_rfl (q := 880) rfl rfl
set_option maxRecDepth 100000 in
theorem zCD103 : Cond.code yX9_count cX9_count 2 (some .int) ∈ zTB := zinT_rfl (q := 888) rfl rfl
set_option maxRecDepth 100000 in
theorem zCD104 : Cond.code yX9_trace cX9_trace 1 (some .long) ∈ zTB := zinT_rfl (q := 892) rfl rfl
set_option maxRecDepth 100000 in
theorem zCD105 : Cond.code yX9_beginAnew cX9_beginAnew 2 none ∈ zTB := zinT_rfl (q := 394) rfl rfl
set_option maxRecDepth 100000 in
theorem zCD106 : Cond.code yX9_isField cX9_isField 2 (some .boolean) ∈ zTB := zinT_rfl (q := 680) rfl rfl
set_option maxRecDepth 100000 in
theorem zCD107 : Cond.code yX9_isFence cX9_isFence 2 (some .boolean) ∈ zTB := zinT_rfl (q := 518) rfl rfl
set_option maxRecDepth 100000 in
theorem zCD108 : Cond.code yX9_isKind cX9_isKind 2 (some .boolean) ∈ zTB := zinT_rfl (q := 526) rfl rfl
set_option maxRecDepth 100000 in
theorem zCD109 : Cond.code yX9_isBeast cX9_isBeast 2 (some .boolean) ∈ zTB := zinT_rfl (q := 535) rfl rfl
set_option maxRecDepth 100000 in
theorem zCD110 : Cond.code yX9_isImage cX9_isImage 1 (some .boolean) ∈ zTB := zinT_rfl (q := 867) rfl rfl
set_option maxRecDepth 100000 in
theorem zCD111 : Cond.code yX9_isFlag cX9_isFlag 1 (some .boolean) ∈ zTB := zinT_rfl (q := 581) rfl rfl
set_option maxRecDepth 100000 in
theorem zCD112 : Cond.code yX9_markString cX9_markString 2 (some .int) ∈ zTB := zinT_rfl (q := 835) rfl rfl
set_option maxRecDepth 100000 in
theorem zCD113 : Cond.code yX9_markBass cX9_markBass 2 (some .int) ∈ zTB := zinT_rfl (q := 839) rfl rfl
set_option maxRecDepth 100000 in
theorem zCD114 : Cond.code yX9_markTreble cX9_markTreble 2 (some .int) ∈ zTB := zinT_rfl (q := 844) rfl rfl
set_option maxRecDepth 100000 in
theorem zCD115 : Cond.code yX9_markBull cX9_markBull 2 (some .int) ∈ zTB := zinT_rfl (q := 849) rfl rfl
set_option maxRecDepth 100000 in
theorem zCD116 : Cond.code yX9_markLark cX9_markLark 2 (some .int) ∈ zTB := zinT_rfl (q := 854) rfl rfl
set_option maxRecDepth 100000 in
theorem zCD117 : Cond.code yX9_markPedal cX9_markPedal 2 (some .int) ∈ zTB := zinT_rfl (q := 859) rfl rfl
set_option maxRecDepth 100000 in
theorem zCD118 : Cond.code yX10_init cX10_init 1 none ∈ zTB := zinT_rfl (q := 897) rfl rfl
set_option maxRecDepth 100000 in
theorem zCD119 : Cond.code yX10_in cX10_in 3 (some .boolean) ∈ zTB := zinT_rfl (q := 1004) rfl rfl
set_option maxRecDepth 100000 in
theorem zCD120 : Cond.code yX10_has cX10_has 2 (some .boolean) ∈ zTB := zinT_rfl (q := 1051) rfl rfl
set_option maxRecDepth 100000 in
theorem zCD121 : Cond.code yX10_type cX10_type 2 (some .int) ∈ zTB := zinT_rfl (q := 1001) rfl rfl
set_option maxRecDepth 100000 in
theorem zCD122 : Cond.code yX10_clear cX10_clear 2 (some .int) ∈ zTB := zinT_rfl (q := 1008) rfl rfl
set_option maxRecDepth 100000 in
theorem zCD123 : Cond.code yX10_here cX10_here 1 (some .int) ∈ zTB := zinT_rfl (q := 1024) rfl rfl
set_option maxRecDepth 100000 in
theorem zCD124 : Cond.code yX10_step cX10_step 2 none ∈ zTB := zinT_rfl (q := 1020) rfl rfl
set_option maxRecDepth 100000 in
theorem zCD125 : Cond.code yX10_due cX10_due 2 none ∈ zTB := zinT_rfl (q := 1032) rfl rfl
set_option maxRecDepth 100000 in
theorem zCD126 : Cond.code yX10_number cX10_number 4 (some .int) ∈ zTB := zinT_rfl (q := 1040) rfl rfl
set_option maxRecDepth 100000 in
theorem zCD127 : Cond.code yX10_item cX10_item 4 none ∈ zTB := zinT_rfl (q := 1036) rfl rfl
set_option maxRecDepth 100000 in
theorem zCD128 : Cond.code yX10_may cX10_may 3 (some .boolean) ∈ zTB := zinT_rfl (q := 1028) rfl rfl
set_option maxRecDepth 100000 in
theorem zCD129 : Cond.code yX10_read cX10_read 3 none ∈ zTB := zinT_rfl (q := 1016) rfl rfl
set_option maxRecDepth 100000 in
theorem zCD130 : Cond.code yX10_downs cX10_downs 2 (some .int) ∈ zTB := zinT_rfl (q := 1012) rfl rfl
set_option maxRecDepth 100000 in
theorem zCD131 : Cond.code yX10_isField cX10_isField 2 (some .boolean) ∈ zTB := zinT_rfl (q := 1174) rfl rfl
set_option maxRecDepth 100000 in
theorem zCD132 : Cond.code yX10_isFence cX10_isFence 2 (some .boolean) ∈ zTB := zinT_rfl (q := 1048) rfl rfl
set_option maxRecDepth 100000 in
theorem zCD133 : Cond.code yX10_isKind cX10_isKind 2 (some .boolean) ∈ zTB := zinT_rfl (q := 1059) rfl rfl
set_option maxRecDepth 100000 in
theorem zCD134 : Cond.code yX10_isBeast cX10_isBeast 2 (some .boolean) ∈ zTB := zinT_rfl (q := 1068) rfl rfl
set_option maxRecDepth 100000 in
theorem zCD135 : Cond.code yX10_soundOf cX10_soundOf 4 (some .int) ∈ zTB := zinT_rfl (q := 1076) rfl rfl
set_option maxRecDepth 100000 in
theorem zCD136 : Cond.code yX10_isAt cX10_isAt 3 (some .boolean) ∈ zTB := zinT_rfl (q := 1084) rfl rfl
set_option maxRecDepth 100000 in
theorem zCD137 : Cond.code yX10_across cX10_across 3 (some .int) ∈ zTB := zinT_rfl (q := 1092) rfl rfl
set_option maxRecDepth 100000 in
theorem zCD138 : Cond.code yX10_isString cX10_isString 2 (some .boolean) ∈ zTB := zinT_rfl (q := 1138) rfl rfl
set_option maxRecDepth 100000 in
theorem zCD139 : Cond.code yX10_bitsOf cX10_bitsOf 3 (some .int) ∈ zTB := zinT_rfl (q := 1103) rfl rfl
set_option maxRecDepth 100000 in
theorem zCD140 : Cond.code yX10_allOf cX10_allOf 1 (some .int) ∈ zTB := zinT_rfl (q := 1114) rfl rfl
set_option maxRecDepth 100000 in
theorem zCD141 : Cond.code yX10_fence cX10_fence 3 (some .int) ∈ zTB := zinT_rfl (q := 1044) rfl rfl
set_option maxRecDepth 100000 in
theorem zCD142 : Cond.code yX10_kind cX10_kind 3 (some .int) ∈ zTB := zinT_rfl (q := 1055) rfl rfl
set_option maxRecDepth 100000 in
theorem zCD143 : Cond.code yX10_beast cX10_beast 3 (some .int) ∈ zTB := zinT_rfl (q := 1064) rfl rfl
set_option maxRecDepth 100000 in
theorem zCD144 : Cond.code yX10_sound cX10_sound 3 (some .int) ∈ zTB := zinT_rfl (q := 1072) rfl rfl
set_option maxRecDepth 100000 in
theorem zCD145 : Cond.code yX10_know cX10_know 2 none ∈ zTB := zinT_rfl (q := 1088) rfl rfl
set_option maxRecDepth 100000 in
theorem zCD146 : Cond.code yX10_sing cX10_sing 3 none ∈ zTB := zinT_rfl (q := 1096) rfl rfl
set_option maxRecDepth 100000 in
theorem zCD147 : Cond.code yX10_goes cX10_goes 4 (some .int) ∈ zTB := zinT_rfl (q := 1080) rfl rfl
set_option maxRecDepth 100000 in
theorem zCD148 : Cond.code yX10_cuts cX10_cuts 3 (some .int) ∈ zTB := zinT_rfl (q := 1100) rfl rfl
set_option maxRecDepth 100000 in
theorem zCD149 : Cond.code yX10_tunes cX10_tunes 4 (some .int) ∈ zTB := zinT_rfl (q := 1107) rfl rfl
set_option maxRecDepth 100000 in
theorem zCD150 : Cond.code yX10_lays cX10_lays 3 (some .int) ∈ zTB := zinT_rfl (q := 1111) rfl rfl
set_option maxRecDepth 100000 in
theorem zCD151 : Cond.code yX10_rains cX10_rains 2 (some .int) ∈ zTB := zinT_rfl (q := 1118) rfl rfl
set_option maxRecDepth 100000 in
theorem zCD152 : Cond.code yX10_undo cX10_undo 2 (some .int) ∈ zTB := zinT_rfl (q := 1122) rfl rfl
set_option maxRecDepth 100000 in
theorem zCD153 : Cond.code yX10_areAlike cX10_areAlike 4 (some .boolean) ∈ zTB := zinT_rfl (q := 1134) rfl rfl
set_option maxRecDepth 100000 in
theorem zCD154 : Cond.code yX10_alike cX10_alike 4 (some .int) ∈ zTB := zinT_rfl (q := 1130) rfl rfl
set_option maxRecDepth 100000 in
theorem zCD155 : Cond.code yX10_areApart cX10_areApart 5 (some .boolean) ∈ zTB := zinT_rfl (q := 1146) rfl rfl
set_option maxRecDepth 100000 in
theorem zCD156 : Cond.code yX10_areHeard cX10_areHeard 4 (some .boolean) ∈ zTB := zinT_rfl (q := 1150) rfl rfl
set_option maxRecDepth 100000 in
theorem zCD157 : Cond.code yX10_fewest cX10_fewest 6 (some .int) ∈ zTB := zinT_rfl (q := 1142) rfl rfl
set_option maxRecDepth 100000 in
theorem zCD158 : Cond.code yX10_now cX10_now 2 (some .int) ∈ zTB := zinT_rfl (q := 1126) rfl rfl
set_option maxRecDepth 100000 in
theorem zCD159 : Cond.code yX10_song cX10_song 2 (some .int) ∈ zTB := zinT_rfl (q := 1154) rfl rfl
set_option maxRecDepth 100000 in
theorem zCD160 : Cond.code yX10_who cX10_who 6 (some .int) ∈ zTB := zinT_rfl (q := 1158) rfl rfl
set_option maxRecDepth 100000 in
theorem zCD161 : Cond.code yX10_hears cX10_hears 2 (some .int) ∈ zTB := zinT_rfl (q := 1162) rfl rfl
set_option maxRecDepth 100000 in
theorem zCD162 : Cond.code yX10_forget cX10_forget 2 (some .int) ∈ zTB := zinT_rfl (q := 1166) rfl rfl
set_option maxRecDepth 100000 in
theorem zCD163 : Cond.code yX10_ways cX10_ways 5 (some .int) ∈ zTB := zinT_rfl (q := 1170) rfl rfl
set_option maxRecDepth 100000 in
theorem zCD164 : Cond.code yX10_endsOf cX10_endsOf 6 (some .int) ∈ zTB := zinT_rfl (q := 1183) rfl rfl
set_option maxRecDepth 100000 in
theorem zCD165 : Cond.code yX10_ends cX10_ends 2 (some .int) ∈ zTB := zinT_rfl (q := 1179) rfl rfl
set_option maxRecDepth 100000 in
theorem zCD166 : Cond.code yX10_can cX10_can 3 (some .int) ∈ zTB := zinT_rfl (q := 1187) rfl rfl
set_option maxRecDepth 100000 in
theorem zCD167 : Cond.code yX10_comesTo cX10_comesTo 4 (some .boolean) ∈ zTB := zinT_rfl (q := 1195) rfl rfl
set_option maxRecDepth 100000 in
theorem zCD168 : Cond.code yX10_ask cX10_ask 8 (some .int) ∈ zTB := zinT_rfl (q := 1191) rfl rfl
set_option maxRecDepth 100000 in
theorem zCD169 : Cond.code yX10_costOf cX10_costOf 3 (some .int) ∈ zTB := zinT_rfl (q := 1208) rfl rfl
set_option maxRecDepth 100000 in
theorem zCD170 : Cond.code yX10_measure cX10_measure 7 none ∈ zTB := zinT_rfl (q := 1203) rfl rfl
set_option maxRecDepth 100000 in
theorem zCD171 : Cond.code yX10_quiet cX10_quiet 8 (some .int) ∈ zTB := zinT_rfl (q := 1199) rfl rfl
set_option maxRecDepth 100000 in
theorem zCD172 : Cond.code yX10_fifthsOf cX10_fifthsOf 7 (some .int) ∈ zTB := zinT_rfl (q := 1216) rfl rfl
set_option maxRecDepth 100000 in
theorem zCD173 : Cond.code yX10_fifths cX10_fifths 2 (some .int) ∈ zTB := zinT_rfl (q := 1212) rfl rfl
set_option maxRecDepth 100000 in
theorem zCD174 : Cond.code yX10_milkBy cX10_milkBy 5 (some .int) ∈ zTB := zinT_rfl (q := 1224) rfl rfl
set_option maxRecDepth 100000 in
theorem zCD175 : Cond.code yX10_herd cX10_herd 7 (some .int) ∈ zTB := zinT_rfl (q := 1220) rfl rfl
set_option maxRecDepth 100000 in
theorem zCD176 : Cond.code yX10_isUnheard cX10_isUnheard 10 (some .boolean) ∈ zTB := zinT_rfl (q := 1232) rfl rfl
set_option maxRecDepth 100000 in
theorem zCD177 : Cond.code yX10_frost cX10_frost 13 (some .int) ∈ zTB := zinT_rfl (q := 1228) rfl rfl
set_option maxRecDepth 100000 in
theorem zCD178 : Cond.code yX10_bodiesOf cX10_bodiesOf 1 (some .int) ∈ zTB := zinT_rfl (q := 1239) rfl rfl
set_option maxRecDepth 100000 in
theorem zCD179 : Cond.code yX10_mark cX10_mark 7 (some .int) ∈ zTB := zinT_rfl (q := 1236) rfl rfl
set_option maxRecDepth 100000 in
theorem zCD180 : Cond.code yX10_trace cX10_trace 1 (some .long) ∈ zTB := zinT_rfl (q := 1244) rfl rfl
set_option maxRecDepth 100000 in
theorem zCD181 : Cond.code yX10_keep cX10_keep 3 (some .int) ∈ zTB := zinT_rfl (q := 1248) rfl rfl
set_option maxRecDepth 100000 in
theorem zCD182 : Cond.code yX10_back cX10_back 3 (some .int) ∈ zTB := zinT_rfl (q := 1252) rfl rfl
set_option maxRecDepth 100000 in
theorem zCD183 : Cond.code yX10_count cX10_count 2 (some .int) ∈ zTB := zinT_rfl (q := 1256) rfl rfl
set_option maxRecDepth 100000 in
theorem zCD184 : Cond.code yJ6_bitCount_0f7a4 cJ6_bitCount_0f7a4 1 (some .int) ∈ zTB := zinT_rfl (q := 584) rfl rfl
def zCDP (N : zMe) : Prop := Cond.code N.1 N.2.1 N.2.2.1 N.2.2.2.1 ∈ zTB
theorem zCDc0 : ∀ N ∈ zMT.take 31 |>.drop 0, zCDP N := by
  show ∀ N ∈ ([(yX0_init, cX0_init, 2, none, 0, 1, 21), (yX0_alike, cX0_alike, 3, (some .int), 0, 3, 65), (yX0_fewestTuned, cX0_fewestTuned, 1, (some .int), 0, 3, 65), (yX0_fewestEars, cX0_fewestEars, 2, (some .int), 0, 2, 46), (yX0_partnerAlikes, cX0_partnerAlikes, 3, none, 0, 2, 43), (yX0_areAlike, cX0_areAlike, 3, (some .boolean), 0, 1, 21), (yX0_fewestOfEachTwo, cX0_fewestOfEachTwo, 4, (some .int), 0, 1, 23), (yX0_hasOneOfEachTwo, cX0_hasOneOfEachTwo, 4, (some .boolean), 0, 0, 0), (yX0_mostMilk, cX0_mostMilk, 1, (some .int), 0, 4, 91), (yX0_fieldInHerd, cX0_fieldInHerd, 5, (some .int), 0, 4, 91), (yX0_bestField, cX0_bestField, 4, (some .int), 0, 1, 23), (yX0_measureHerds, cX0_measureHerds, 4, none, 0, 3, 68), (yX0_milkWith, cX0_milkWith, 4, (some .int), 0, 0, 0), (yX1_init, cX1_init, 3, none, 1, 1, 20), (yX1_isString, cX1_isString, 2, (some .boolean), 1, 0, 0), (yX1_soundTo, cX1_soundTo, 3, (some .int), 1, 1, 21), (yX1_fifthsAt, cX1_fifthsAt, 5, (some .int), 1, 2, 44), (yX1_isStringAt, cX1_isStringAt, 3, (some .boolean), 1, 1, 22), (yX1_beastsThatSound, cX1_beastsThatSound, 5, (some .int), 1, 2, 43), (yX2_init, cX2_init, 2, none, 2, 1, 20), (yX2_takes, cX2_takes, 2, (some .boolean), 2, 0, 0), (yX2_rowsFrom, cX2_rowsFrom, 5, (some .int), 2, 3, 68), (yX2_crossAll, cX2_crossAll, 6, none, 2, 2, 43), (yX2_endsOf, cX2_endsOf, 4, (some .int), 2, 3, 68), (yX2_endsBehind, cX2_endsBehind, 6, (some .int), 2, 2, 43), (yX2_kindsThatCan, cX2_kindsThatCan, 3, (some .int), 2, 4, 91), (yX2_fenceToWatch, cX2_fenceToWatch, 5, (some .int), 2, 4, 91), (yX2_greatestCrowd, cX2_greatestCrowd, 6, (some .int), 2, 2, 43), (yX2_comesTo, cX2_comesTo, 3, (some .boolean), 2, 1, 21), (yX3_init, cX3_init, 1, none, 3, 3, 61), (yX3_take, cX3_take, 3, none, 3, 3, 69)] : List zMe), zCDP N
  exact List.forall_mem_cons.mpr ⟨zCD0,  List.forall_mem_cons.mpr ⟨zCD1,  List.forall_mem_cons.mpr ⟨zCD2,  List.forall_mem_cons.mpr ⟨zCD3,  List.forall_mem_cons.mpr ⟨zCD4,  List.forall_mem_cons.mpr ⟨zCD5,  List.forall_mem_cons.mpr ⟨zCD6,  List.forall_mem_cons.mpr ⟨zCD7,  List.forall_mem_cons.mpr ⟨zCD8,  List.forall_mem_cons.mpr ⟨zCD9,  List.forall_mem_cons.mpr ⟨zCD10,  List.forall_mem_cons.mpr ⟨zCD11,  List.forall_mem_cons.mpr ⟨zCD12,  List.forall_mem_cons.mpr ⟨zCD13,  List.forall_mem_cons.mpr ⟨zCD14,  List.forall_mem_cons.mpr ⟨zCD15,  List.forall_mem_cons.mpr ⟨zCD16,  List.forall_mem_cons.mpr ⟨zCD17,  List.forall_mem_cons.mpr ⟨zCD18,  List.forall_mem_cons.mpr ⟨zCD19,  List.forall_mem_cons.mpr ⟨zCD20,  List.forall_mem_cons.mpr ⟨zCD21,  List.forall_mem_cons.mpr ⟨zCD22,  List.forall_mem_cons.mpr ⟨zCD23,  List.forall_mem_cons.mpr ⟨zCD24,  List.forall_mem_cons.mpr ⟨zCD25,  List.forall_mem_cons.mpr ⟨zCD26,  List.forall_mem_cons.mpr ⟨zCD27,  List.forall_mem_cons.mpr ⟨zCD28,  List.forall_mem_cons.mpr ⟨zCD29,  List.forall_mem_cons.mpr ⟨zCD30, fun _ h => absurd h List.not_mem_nil⟩⟩⟩⟩⟩⟩⟩⟩⟩⟩⟩⟩⟩⟩⟩⟩⟩⟩⟩⟩⟩⟩⟩⟩⟩⟩⟩⟩⟩⟩⟩
theorem zCDc31 : ∀ N ∈ zMT.take 62 |>.drop 31, zCDP N := by
  show ∀ N ∈ ([(yX3_give, cX3_give, 3, none, 3, 3, 69), (yX4_init, cX4_init, 1, none, 4, 1, 20), (yX4_begin, cX4_begin, 1, none, 4, 0, 0), (yX4_copyFrom, cX4_copyFrom, 2, none, 4, 1, 26), (yX4_isAt, cX4_isAt, 3, (some .boolean), 4, 0, 0), (yX4_across, cX4_across, 3, (some .int), 4, 0, 0), (yX4_endBits, cX4_endBits, 2, (some .int), 4, 0, 0), (yX5_init, cX5_init, 2, none, 5, 2, 40), (yX5_note, cX5_note, 2, none, 5, 2, 47), (yX5_restore, cX5_restore, 2, none, 5, 2, 47), (yX5_copyFrom, cX5_copyFrom, 3, none, 5, 2, 47), (yX6_init, cX6_init, 2, none, 6, 1, 20), (yX6_fewestHeard, cX6_fewestHeard, 4, (some .int), 6, 4, 92), (yX6_fewestCrossings, cX6_fewestCrossings, 4, (some .int), 6, 4, 92), (yX6_firstFence, cX6_firstFence, 5, (some .int), 6, 4, 92), (yX6_costOf, cX6_costOf, 3, (some .int), 6, 2, 43), (yX6_measure, cX6_measure, 8, none, 6, 3, 65), (yX6_frostParts, cX6_frostParts, 4, (some .int), 6, 2, 43), (yX6_frostUnheard, cX6_frostUnheard, 8, (some .int), 6, 2, 47), (yX6_snappedFences, cX6_snappedFences, 4, (some .int), 6, 0, 0), (yX6_reaches, cX6_reaches, 7, (some .boolean), 6, 1, 21), (yX6_power, cX6_power, 4, (some .int), 6, 0, 0), (yX6_commonDivisor, cX6_commonDivisor, 6, (some .int), 6, 0, 0), (yX7_init, cX7_init, 1, none, 7, 1, 20), (yX7_begin, cX7_begin, 2, none, 7, 1, 26), (yX7_copyFrom, cX7_copyFrom, 2, none, 7, 1, 26), (yX7_sing, cX7_sing, 2, none, 7, 1, 26), (yX8_init, cX8_init, 1, none, 8, 1, 20), (yX8_takes, cX8_takes, 2, (some .boolean), 8, 0, 0), (yX8_tell, cX8_tell, 4, (some .int), 8, 5, 106), (yX8_tellsFields, cX8_tellsFields, 2, (some .boolean), 8, 4, 84)] : List zMe), zCDP N
  exact List.forall_mem_cons.mpr ⟨zCD31,  List.forall_mem_cons.mpr ⟨zCD32,  List.forall_mem_cons.mpr ⟨zCD33,  List.forall_mem_cons.mpr ⟨zCD34,  List.forall_mem_cons.mpr ⟨zCD35,  List.forall_mem_cons.mpr ⟨zCD36,  List.forall_mem_cons.mpr ⟨zCD37,  List.forall_mem_cons.mpr ⟨zCD38,  List.forall_mem_cons.mpr ⟨zCD39,  List.forall_mem_cons.mpr ⟨zCD40,  List.forall_mem_cons.mpr ⟨zCD41,  List.forall_mem_cons.mpr ⟨zCD42,  List.forall_mem_cons.mpr ⟨zCD43,  List.forall_mem_cons.mpr ⟨zCD44,  List.forall_mem_cons.mpr ⟨zCD45,  List.forall_mem_cons.mpr ⟨zCD46,  List.forall_mem_cons.mpr ⟨zCD47,  List.forall_mem_cons.mpr ⟨zCD48,  List.forall_mem_cons.mpr ⟨zCD49,  List.forall_mem_cons.mpr ⟨zCD50,  List.forall_mem_cons.mpr ⟨zCD51,  List.forall_mem_cons.mpr ⟨zCD52,  List.forall_mem_cons.mpr ⟨zCD53,  List.forall_mem_cons.mpr ⟨zCD54,  List.forall_mem_cons.mpr ⟨zCD55,  List.forall_mem_cons.mpr ⟨zCD56,  List.forall_mem_cons.mpr ⟨zCD57,  List.forall_mem_cons.mpr ⟨zCD58,  List.forall_mem_cons.mpr ⟨zCD59,  List.forall_mem_cons.mpr ⟨zCD60,  List.forall_mem_cons.mpr ⟨zCD61, fun _ h => absurd h List.not_mem_nil⟩⟩⟩⟩⟩⟩⟩⟩⟩⟩⟩⟩⟩⟩⟩⟩⟩⟩⟩⟩⟩⟩⟩⟩⟩⟩⟩⟩⟩⟩⟩
theorem zCDc62 : ∀ N ∈ zMT.take 93 |>.drop 62, zCDP N := by
  show ∀ N ∈ ([(yX8_tellsFence, cX8_tellsFence, 3, (some .boolean), 8, 4, 84), (yX8_tellsKind, cX8_tellsKind, 3, (some .boolean), 8, 4, 84), (yX8_tellsBeast, cX8_tellsBeast, 3, (some .boolean), 8, 4, 84), (yX8_tellsWet, cX8_tellsWet, 2, (some .boolean), 8, 4, 84), (yX8_number, cX8_number, 3, (some .boolean), 8, 3, 62), (yX8_stops, cX8_stops, 1, (some .boolean), 8, 3, 62), (yX8_step, cX8_step, 1, none, 8, 2, 42), (yX8_stepLetters, cX8_stepLetters, 1, none, 8, 1, 20), (yX8_stepNumber, cX8_stepNumber, 2, none, 8, 1, 21), (yX8_isLetter, cX8_isLetter, 1, (some .boolean), 8, 0, 0), (yX8_isDigit, cX8_isDigit, 1, (some .boolean), 8, 0, 0), (yX9_init, cX9_init, 2, none, 9, 4, 81), (yX9_type, cX9_type, 2, (some .int), 9, 1, 21), (yX9_clear, cX9_clear, 2, (some .int), 9, 0, 0), (yX9_downs, cX9_downs, 2, (some .int), 9, 6, 129), (yX9_fence, cX9_fence, 3, (some .int), 9, 1, 21), (yX9_kind, cX9_kind, 3, (some .int), 9, 1, 21), (yX9_beast, cX9_beast, 3, (some .int), 9, 1, 21), (yX9_sound, cX9_sound, 3, (some .int), 9, 2, 43), (yX9_goes, cX9_goes, 5, (some .int), 9, 3, 68), (yX9_cuts, cX9_cuts, 3, (some .int), 9, 3, 68), (yX9_tunes, cX9_tunes, 4, (some .int), 9, 3, 68), (yX9_lays, cX9_lays, 3, (some .int), 9, 3, 68), (yX9_rains, cX9_rains, 3, (some .int), 9, 3, 68), (yX9_undo, cX9_undo, 1, (some .int), 9, 3, 68), (yX9_now, cX9_now, 2, (some .int), 9, 4, 87), (yX9_song, cX9_song, 2, (some .int), 9, 0, 0), (yX9_who, cX9_who, 2, (some .int), 9, 3, 67), (yX9_hears, cX9_hears, 2, (some .int), 9, 1, 21), (yX9_forget, cX9_forget, 2, (some .int), 9, 0, 0), (yX9_ways, cX9_ways, 3, (some .int), 9, 4, 92)] : List zMe), zCDP N
  exact List.forall_mem_cons.mpr ⟨zCD62,  List.forall_mem_cons.mpr ⟨zCD63,  List.forall_mem_cons.mpr ⟨zCD64,  List.forall_mem_cons.mpr ⟨zCD65,  List.forall_mem_cons.mpr ⟨zCD66,  List.forall_mem_cons.mpr ⟨zCD67,  List.forall_mem_cons.mpr ⟨zCD68,  List.forall_mem_cons.mpr ⟨zCD69,  List.forall_mem_cons.mpr ⟨zCD70,  List.forall_mem_cons.mpr ⟨zCD71,  List.forall_mem_cons.mpr ⟨zCD72,  List.forall_mem_cons.mpr ⟨zCD73,  List.forall_mem_cons.mpr ⟨zCD74,  List.forall_mem_cons.mpr ⟨zCD75,  List.forall_mem_cons.mpr ⟨zCD76,  List.forall_mem_cons.mpr ⟨zCD77,  List.forall_mem_cons.mpr ⟨zCD78,  List.forall_mem_cons.mpr ⟨zCD79,  List.forall_mem_cons.mpr ⟨zCD80,  List.forall_mem_cons.mpr ⟨zCD81,  List.forall_mem_cons.mpr ⟨zCD82,  List.forall_mem_cons.mpr ⟨zCD83,  List.forall_mem_cons.mpr ⟨zCD84,  List.forall_mem_cons.mpr ⟨zCD85,  List.forall_mem_cons.mpr ⟨zCD86,  List.forall_mem_cons.mpr ⟨zCD87,  List.forall_mem_cons.mpr ⟨zCD88,  List.forall_mem_cons.mpr ⟨zCD89,  List.forall_mem_cons.mpr ⟨zCD90,  List.forall_mem_cons.mpr ⟨zCD91,  List.forall_mem_cons.mpr ⟨zCD92, fun _ h => absurd h List.not_mem_nil⟩⟩⟩⟩⟩⟩⟩⟩⟩⟩⟩⟩⟩⟩⟩⟩⟩⟩⟩⟩⟩⟩⟩⟩⟩⟩⟩⟩⟩⟩⟩
theorem zCDc93 : ∀ N ∈ zMT.take 124 |>.drop 93, zCDP N := by
  show ∀ N ∈ ([(yX9_ends, cX9_ends, 2, (some .int), 9, 4, 91), (yX9_can, cX9_can, 1, (some .int), 9, 5, 113), (yX9_ask, cX9_ask, 1, (some .int), 9, 5, 115), (yX9_quiet, cX9_quiet, 5, (some .int), 9, 5, 116), (yX9_fifths, cX9_fifths, 2, (some .int), 9, 3, 68), (yX9_herd, cX9_herd, 2, (some .int), 9, 5, 115), (yX9_frost, cX9_frost, 10, (some .int), 9, 3, 74), (yX9_mark, cX9_mark, 3, (some .int), 9, 5, 110), (yX9_keep, cX9_keep, 2, (some .int), 9, 4, 91), (yX9_back, cX9_back, 2, (some .int), 9, 4, 91), (yX9_count, cX9_count, 2, (some .int), 9, 0, 0), (yX9_trace, cX9_trace, 1, (some .long), 9, 0, 0), (yX9_beginAnew, cX9_beginAnew, 2, none, 9, 2, 47), (yX9_isField, cX9_isField, 2, (some .boolean), 9, 0, 0), (yX9_isFence, cX9_isFence, 2, (some .boolean), 9, 0, 0), (yX9_isKind, cX9_isKind, 2, (some .boolean), 9, 0, 0), (yX9_isBeast, cX9_isBeast, 2, (some .boolean), 9, 0, 0), (yX9_isImage, cX9_isImage, 1, (some .boolean), 9, 0, 0), (yX9_isFlag, cX9_isFlag, 1, (some .boolean), 9, 0, 0), (yX9_markString, cX9_markString, 2, (some .int), 9, 0, 0), (yX9_markBass, cX9_markBass, 2, (some .int), 9, 1, 21), (yX9_markTreble, cX9_markTreble, 2, (some .int), 9, 3, 68), (yX9_markBull, cX9_markBull, 2, (some .int), 9, 2, 42), (yX9_markLark, cX9_markLark, 2, (some .int), 9, 4, 89), (yX9_markPedal, cX9_markPedal, 2, (some .int), 9, 1, 21), (yX10_init, cX10_init, 1, none, 10, 1, 20), (yX10_in, cX10_in, 3, (some .boolean), 10, 0, 0), (yX10_has, cX10_has, 2, (some .boolean), 10, 0, 0), (yX10_type, cX10_type, 2, (some .int), 10, 1, 22), (yX10_clear, cX10_clear, 2, (some .int), 10, 0, 0), (yX10_here, cX10_here, 1, (some .int), 10, 0, 0)] : List zMe), zCDP N
  exact List.forall_mem_cons.mpr ⟨zCD93,  List.forall_mem_cons.mpr ⟨zCD94,  List.forall_mem_cons.mpr ⟨zCD95,  List.forall_mem_cons.mpr ⟨zCD96,  List.forall_mem_cons.mpr ⟨zCD97,  List.forall_mem_cons.mpr ⟨zCD98,  List.forall_mem_cons.mpr ⟨zCD99,  List.forall_mem_cons.mpr ⟨zCD100,  List.forall_mem_cons.mpr ⟨zCD101,  List.forall_mem_cons.mpr ⟨zCD102,  List.forall_mem_cons.mpr ⟨zCD103,  List.forall_mem_cons.mpr ⟨zCD104,  List.forall_mem_cons.mpr ⟨zCD105,  List.forall_mem_cons.mpr ⟨zCD106,  List.forall_mem_cons.mpr ⟨zCD107,  List.forall_mem_cons.mpr ⟨zCD108,  List.forall_mem_cons.mpr ⟨zCD109,  List.forall_mem_cons.mpr ⟨zCD110,  List.forall_mem_cons.mpr ⟨zCD111,  List.forall_mem_cons.mpr ⟨zCD112,  List.forall_mem_cons.mpr ⟨zCD113,  List.forall_mem_cons.mpr ⟨zCD114,  List.forall_mem_cons.mpr ⟨zCD115,  List.forall_mem_cons.mpr ⟨zCD116,  List.forall_mem_cons.mpr ⟨zCD117,  List.forall_mem_cons.mpr ⟨zCD118,  List.forall_mem_cons.mpr ⟨zCD119,  List.forall_mem_cons.mpr ⟨zCD120,  List.forall_mem_cons.mpr ⟨zCD121,  List.forall_mem_cons.mpr ⟨zCD122,  List.forall_mem_cons.mpr ⟨zCD123, fun _ h => absurd h List.not_mem_nil⟩⟩⟩⟩⟩⟩⟩⟩⟩⟩⟩⟩⟩⟩⟩⟩⟩⟩⟩⟩⟩⟩⟩⟩⟩⟩⟩⟩⟩⟩⟩
theorem zCDc124 : ∀ N ∈ zMT.take 155 |>.drop 124, zCDP N := by
  show ∀ N ∈ ([(yX10_step, cX10_step, 2, none, 10, 1, 22), (yX10_due, cX10_due, 2, none, 10, 2, 43), (yX10_number, cX10_number, 4, (some .int), 10, 3, 64), (yX10_item, cX10_item, 4, none, 10, 4, 87), (yX10_may, cX10_may, 3, (some .boolean), 10, 0, 0), (yX10_read, cX10_read, 3, none, 10, 5, 110), (yX10_downs, cX10_downs, 2, (some .int), 10, 6, 132), (yX10_isField, cX10_isField, 2, (some .boolean), 10, 1, 22), (yX10_isFence, cX10_isFence, 2, (some .boolean), 10, 1, 22), (yX10_isKind, cX10_isKind, 2, (some .boolean), 10, 1, 22), (yX10_isBeast, cX10_isBeast, 2, (some .boolean), 10, 1, 22), (yX10_soundOf, cX10_soundOf, 4, (some .int), 10, 1, 21), (yX10_isAt, cX10_isAt, 3, (some .boolean), 10, 0, 0), (yX10_across, cX10_across, 3, (some .int), 10, 0, 0), (yX10_isString, cX10_isString, 2, (some .boolean), 10, 1, 21), (yX10_bitsOf, cX10_bitsOf, 3, (some .int), 10, 0, 0), (yX10_allOf, cX10_allOf, 1, (some .int), 10, 0, 0), (yX10_fence, cX10_fence, 3, (some .int), 10, 2, 43), (yX10_kind, cX10_kind, 3, (some .int), 10, 2, 43), (yX10_beast, cX10_beast, 3, (some .int), 10, 2, 43), (yX10_sound, cX10_sound, 3, (some .int), 10, 2, 44), (yX10_know, cX10_know, 2, none, 10, 0, 0), (yX10_sing, cX10_sing, 3, none, 10, 0, 0), (yX10_goes, cX10_goes, 4, (some .int), 10, 2, 44), (yX10_cuts, cX10_cuts, 3, (some .int), 10, 2, 43), (yX10_tunes, cX10_tunes, 4, (some .int), 10, 2, 43), (yX10_lays, cX10_lays, 3, (some .int), 10, 1, 22), (yX10_rains, cX10_rains, 2, (some .int), 10, 1, 22), (yX10_undo, cX10_undo, 2, (some .int), 10, 0, 0), (yX10_areAlike, cX10_areAlike, 4, (some .boolean), 10, 2, 42), (yX10_alike, cX10_alike, 4, (some .int), 10, 3, 65)] : List zMe), zCDP N
  exact List.forall_mem_cons.mpr ⟨zCD124,  List.forall_mem_cons.mpr ⟨zCD125,  List.forall_mem_cons.mpr ⟨zCD126,  List.forall_mem_cons.mpr ⟨zCD127,  List.forall_mem_cons.mpr ⟨zCD128,  List.forall_mem_cons.mpr ⟨zCD129,  List.forall_mem_cons.mpr ⟨zCD130,  List.forall_mem_cons.mpr ⟨zCD131,  List.forall_mem_cons.mpr ⟨zCD132,  List.forall_mem_cons.mpr ⟨zCD133,  List.forall_mem_cons.mpr ⟨zCD134,  List.forall_mem_cons.mpr ⟨zCD135,  List.forall_mem_cons.mpr ⟨zCD136,  List.forall_mem_cons.mpr ⟨zCD137,  List.forall_mem_cons.mpr ⟨zCD138,  List.forall_mem_cons.mpr ⟨zCD139,  List.forall_mem_cons.mpr ⟨zCD140,  List.forall_mem_cons.mpr ⟨zCD141,  List.forall_mem_cons.mpr ⟨zCD142,  List.forall_mem_cons.mpr ⟨zCD143,  List.forall_mem_cons.mpr ⟨zCD144,  List.forall_mem_cons.mpr ⟨zCD145,  List.forall_mem_cons.mpr ⟨zCD146,  List.forall_mem_cons.mpr ⟨zCD147,  List.forall_mem_cons.mpr ⟨zCD148,  List.forall_mem_cons.mpr ⟨zCD149,  List.forall_mem_cons.mpr ⟨zCD150,  List.forall_mem_cons.mpr ⟨zCD151,  List.forall_mem_cons.mpr ⟨zCD152,  List.forall_mem_cons.mpr ⟨zCD153,  List.forall_mem_cons.mpr ⟨zCD154, fun _ h => absurd h List.not_mem_nil⟩⟩⟩⟩⟩⟩⟩⟩⟩⟩⟩⟩⟩⟩⟩⟩⟩⟩⟩⟩⟩⟩⟩⟩⟩⟩⟩⟩⟩⟩⟩
theorem zCDc155 : ∀ N ∈ zMT.take 185 |>.drop 155, zCDP N := by
  show ∀ N ∈ ([(yX10_areApart, cX10_areApart, 5, (some .boolean), 10, 3, 65), (yX10_areHeard, cX10_areHeard, 4, (some .boolean), 10, 2, 42), (yX10_fewest, cX10_fewest, 6, (some .int), 10, 4, 89), (yX10_now, cX10_now, 2, (some .int), 10, 5, 114), (yX10_song, cX10_song, 2, (some .int), 10, 1, 22), (yX10_who, cX10_who, 6, (some .int), 10, 2, 44), (yX10_hears, cX10_hears, 2, (some .int), 10, 1, 22), (yX10_forget, cX10_forget, 2, (some .int), 10, 0, 0), (yX10_ways, cX10_ways, 5, (some .int), 10, 2, 44), (yX10_endsOf, cX10_endsOf, 6, (some .int), 10, 2, 44), (yX10_ends, cX10_ends, 2, (some .int), 10, 3, 69), (yX10_can, cX10_can, 3, (some .int), 10, 3, 69), (yX10_comesTo, cX10_comesTo, 4, (some .boolean), 10, 3, 69), (yX10_ask, cX10_ask, 8, (some .int), 10, 4, 92), (yX10_costOf, cX10_costOf, 3, (some .int), 10, 2, 44), (yX10_measure, cX10_measure, 7, none, 10, 3, 66), (yX10_quiet, cX10_quiet, 8, (some .int), 10, 4, 92), (yX10_fifthsOf, cX10_fifthsOf, 7, (some .int), 10, 2, 42), (yX10_fifths, cX10_fifths, 2, (some .int), 10, 3, 68), (yX10_milkBy, cX10_milkBy, 5, (some .int), 10, 3, 68), (yX10_herd, cX10_herd, 7, (some .int), 10, 4, 92), (yX10_isUnheard, cX10_isUnheard, 10, (some .boolean), 10, 2, 44), (yX10_frost, cX10_frost, 13, (some .int), 10, 3, 73), (yX10_bodiesOf, cX10_bodiesOf, 1, (some .int), 10, 0, 0), (yX10_mark, cX10_mark, 7, (some .int), 10, 3, 68), (yX10_trace, cX10_trace, 1, (some .long), 10, 0, 0), (yX10_keep, cX10_keep, 3, (some .int), 10, 1, 22), (yX10_back, cX10_back, 3, (some .int), 10, 1, 22), (yX10_count, cX10_count, 2, (some .int), 10, 0, 0), (yJ6_bitCount_0f7a4, cJ6_bitCount_0f7a4, 1, (some .int), 11, 0, 0)] : List zMe), zCDP N
  exact List.forall_mem_cons.mpr ⟨zCD155,  List.forall_mem_cons.mpr ⟨zCD156,  List.forall_mem_cons.mpr ⟨zCD157,  List.forall_mem_cons.mpr ⟨zCD158,  List.forall_mem_cons.mpr ⟨zCD159,  List.forall_mem_cons.mpr ⟨zCD160,  List.forall_mem_cons.mpr ⟨zCD161,  List.forall_mem_cons.mpr ⟨zCD162,  List.forall_mem_cons.mpr ⟨zCD163,  List.forall_mem_cons.mpr ⟨zCD164,  List.forall_mem_cons.mpr ⟨zCD165,  List.forall_mem_cons.mpr ⟨zCD166,  List.forall_mem_cons.mpr ⟨zCD167,  List.forall_mem_cons.mpr ⟨zCD168,  List.forall_mem_cons.mpr ⟨zCD169,  List.forall_mem_cons.mpr ⟨zCD170,  List.forall_mem_cons.mpr ⟨zCD171,  List.forall_mem_cons.mpr ⟨zCD172,  List.forall_mem_cons.mpr ⟨zCD173,  List.forall_mem_cons.mpr ⟨zCD174,  List.forall_mem_cons.mpr ⟨zCD175,  List.forall_mem_cons.mpr ⟨zCD176,  List.forall_mem_cons.mpr ⟨zCD177,  List.forall_mem_cons.mpr ⟨zCD178,  List.forall_mem_cons.mpr ⟨zCD179,  List.forall_mem_cons.mpr ⟨zCD180,  List.forall_mem_cons.mpr ⟨zCD181,  List.forall_mem_cons.mpr ⟨zCD182,  List.forall_mem_cons.mpr ⟨zCD183,  List.forall_mem_cons.mpr ⟨zCD184, fun _ h => absurd h List.not_mem_nil⟩⟩⟩⟩⟩⟩⟩⟩⟩⟩⟩⟩⟩⟩⟩⟩⟩⟩⟩⟩⟩⟩⟩⟩⟩⟩⟩⟩⟩⟩
theorem zCD_of {k : Nat} {N : zMe} (hk : k < 185) (h : zM k = some N) : Cond.code N.1 N.2.1 N.2.2.1 N.2.2.2.1 ∈ zTB := by
  by_cases h0 : k < 31
  · exact zCDc0 N (List.mem_of_getElem? (i := k - 0) (by rw [List.getElem?_drop, List.getElem?_take, show 0 + (k - 0) = k by omega, if_pos (by omega)]; exact h))
  by_cases h31 : k < 62
  · exact zCDc31 N (List.mem_of_getElem? (i := k - 31) (by rw [List.getElem?_drop, List.getElem?_take, show 31 + (k - 31) = k by omega, if_pos (by omega)]; exact h))
  by_cases h62 : k < 93
  · exact zCDc62 N (List.mem_of_getElem? (i := k - 62) (by rw [List.getElem?_drop, List.getElem?_take, show 62 + (k - 62) = k by omega, if_pos (by omega)]; exact h))
  by_cases h93 : k < 124
  · exact zCDc93 N (List.mem_of_getElem? (i := k - 93) (by rw [List.getElem?_drop, List.getElem?_take, show 93 + (k - 93) = k by omega, if_pos (by omega)]; exact h))
  by_cases h124 : k < 155
  · exact zCDc124 N (List.mem_of_getElem? (i := k - 124) (by rw [List.getElem?_drop, List.getElem?_take, show 124 + (k - 124) = k by omega, if_pos (by omega)]; exact h))
  by_cases h155 : k < 185
  · exact zCDc155 N (List.mem_of_getElem? (i := k - 155) (by rw [List.getElem?_drop, List.getElem?_take, show 155 + (k - 155) = k by omega, if_pos (by omega)]; exact h))
  exact absurd hk (by omega)
