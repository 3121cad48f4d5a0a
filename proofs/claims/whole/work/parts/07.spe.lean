/-! the calls' words, by the kind of the call -/
def zNS (N : zMe) (k na : Nat) : Prop := zM k = some N ∧ k < 185 ∧ Cond.code N.1 N.2.1 N.2.2.1 N.2.2.2.1 ∈ zTB ∧ Cond.initialized N.1.cls ∈ zTB ∧ plainName N.1.cls = true ∧ (N.1.cls ≠ "java/lang/invoke/MethodHandle" ∧ N.1.cls ≠ "java/lang/invoke/VarHandle") ∧ (parseMethodDescriptor N.1.desc).map (fun d => d.parameters.length) = some na ∧ N.1.cls = zRN N.2.2.2.2.1
theorem zM0 {o i k na : Nat} (h : zMr o i = some (k, 0, na)) : ∃ N, zNS N k na ∧ Cond.methodLink (zRN o) i N.1 ∈ zTB ∧ Cond.instanceMethod N.1 ∈ zTB ∧ Cond.selects N.1.cls N.1 N.1 ∈ zTB ∧ N.2.2.2.2.1 < 11 := by
  obtain ⟨q, hq⟩ := zMr_spec h
  have hq : (zMNok k na && (match zM k, zMP[k]?, 0 with
    | some N, some P, 0 => zinT q (.methodLink (zRN o) i N.1) && (zinT P.2.1 (.instanceMethod N.1) && (zinT P.2.2.2.1 (.selects N.1.cls N.1 N.1) && decide (N.2.2.2.2.1 < 11)))
    | some N, some P, 1 => zinT q (.methodLink (zRN o) i N.1) && zinT P.2.2.1 (.static N.1)
    | some N, some P, 2 => zinT q (.methodLink (zRN o) i N.1) && (zinT P.2.1 (.instanceMethod N.1) && (decide (N.1.name = "<init>") && decide (N.2.2.2.1 = none)))
    | some N, some P, 3 => zinN q (.methodLinkNest (zRN o) i N.1 "HarpFences") && (zinT P.2.1 (.instanceMethod N.1) && (decide (N.1.name = "<init>") && decide (N.2.2.2.1 = none)))
    | _, _, _ => false)) = true := hq
  rw [Bool.and_eq_true] at hq
  obtain ⟨N, P, hN, hP, h1, h2, h3, h4, h5, h6⟩ := zMN_spec hq.1
  have h7 := hq.2
  rw [hN, hP] at h7
  simp only [Bool.and_eq_true, decide_eq_true_eq] at h7
  exact ⟨N, ⟨hN, h1, zCD_of h1 hN, h2, h3, h4, h5, h6⟩, zinT_mem h7.1, zinT_mem h7.2.1, zinT_mem h7.2.2.1, h7.2.2.2⟩
theorem zM1 {o i k na : Nat} (h : zMr o i = some (k, 1, na)) : ∃ N, zNS N k na ∧ Cond.methodLink (zRN o) i N.1 ∈ zTB ∧ Cond.static N.1 ∈ zTB := by
  obtain ⟨q, hq⟩ := zMr_spec h
  have hq : (zMNok k na && (match zM k, zMP[k]?, 1 with
    | some N, some P, 0 => zinT q (.methodLink (zRN o) i N.1) && (zinT P.2.1 (.instanceMethod N.1) && (zinT P.2.2.2.1 (.selects N.1.cls N.1 N.1) && decide (N.2.2.2.2.1 < 11)))
    | some N, some P, 1 => zinT q (.methodLink (zRN o) i N.1) && zinT P.2.2.1 (.static N.1)
    | some N, some P, 2 => zinT q (.methodLink (zRN o) i N.1) && (zinT P.2.1 (.instanceMethod N.1) && (decide (N.1.name = "<init>") && decide (N.2.2.2.1 = none)))
    | some N, some P, 3 => zinN q (.methodLinkNest (zRN o) i N.1 "HarpFences") && (zinT P.2.1 (.instanceMethod N.1) && (decide (N.1.name = "<init>") && decide (N.2.2.2.1 = none)))
    | _, _, _ => false)) = true := hq
  rw [Bool.and_eq_true] at hq
  obtain ⟨N, P, hN, hP, h1, h2, h3, h4, h5, h6⟩ := zMN_spec hq.1
  have h7 := hq.2
  rw [hN, hP] at h7
  simp only [Bool.and_eq_true] at h7
  exact ⟨N, ⟨hN, h1, zCD_of h1 hN, h2, h3, h4, h5, h6⟩, zinT_mem h7.1, zinT_mem h7.2⟩
theorem zM2 {o i k na : Nat} (h : zMr o i = some (k, 2, na)) : ∃ N, zNS N k na ∧ Cond.methodLink (zRN o) i N.1 ∈ zTB ∧ Cond.instanceMethod N.1 ∈ zTB ∧ N.1.name = "<init>" ∧ N.2.2.2.1 = none := by
  obtain ⟨q, hq⟩ := zMr_spec h
  have hq : (zMNok k na && (match zM k, zMP[k]?, 2 with
    | some N, some P, 0 => zinT q (.methodLink (zRN o) i N.1) && (zinT P.2.1 (.instanceMethod N.1) && (zinT P.2.2.2.1 (.selects N.1.cls N.1 N.1) && decide (N.2.2.2.2.1 < 11)))
    | some N, some P, 1 => zinT q (.methodLink (zRN o) i N.1) && zinT P.2.2.1 (.static N.1)
    | some N, some P, 2 => zinT q (.methodLink (zRN o) i N.1) && (zinT P.2.1 (.instanceMethod N.1) && (decide (N.1.name = "<init>") && decide (N.2.2.2.1 = none)))
    | some N, some P, 3 => zinN q (.methodLinkNest (zRN o) i N.1 "HarpFences") && (zinT P.2.1 (.instanceMethod N.1) && (decide (N.1.name = "<init>") && decide (N.2.2.2.1 = none)))
    | _, _, _ => false)) = true := hq
  rw [Bool.and_eq_true] at hq
  obtain ⟨N, P, hN, hP, h1, h2, h3, h4, h5, h6⟩ := zMN_spec hq.1
  have h7 := hq.2
  rw [hN, hP] at h7
  simp only [Bool.and_eq_true, decide_eq_true_eq] at h7
  exact ⟨N, ⟨hN, h1, zCD_of h1 hN, h2, h3, h4, h5, h6⟩, zinT_mem h7.1, zinT_mem h7.2.1, h7.2.2.1, h7.2.2.2⟩
theorem zM3 {o i k na : Nat} (h : zMr o i = some (k, 3, na)) : ∃ N, zNS N k na ∧ Cond.methodLinkNest (zRN o) i N.1 "HarpFences" ∈ zNest ∧ Cond.instanceMethod N.1 ∈ zTB ∧ N.1.name = "<init>" ∧ N.2.2.2.1 = none := by
  obtain ⟨q, hq⟩ := zMr_spec h
  have hq : (zMNok k na && (match zM k, zMP[k]?, 3 with
    | some N, some P, 0 => zinT q (.methodLink (zRN o) i N.1) && (zinT P.2.1 (.instanceMethod N.1) && (zinT P.2.2.2.1 (.selects N.1.cls N.1 N.1) && decide (N.2.2.2.2.1 < 11)))
    | some N, some P, 1 => zinT q (.methodLink (zRN o) i N.1) && zinT P.2.2.1 (.static N.1)
    | some N, some P, 2 => zinT q (.methodLink (zRN o) i N.1) && (zinT P.2.1 (.instanceMethod N.1) && (decide (N.1.name = "<init>") && decide (N.2.2.2.1 = none)))
    | some N, some P, 3 => zinN q (.methodLinkNest (zRN o) i N.1 "HarpFences") && (zinT P.2.1 (.instanceMethod N.1) && (decide (N.1.name = "<init>") && decide (N.2.2.2.1 = none)))
    | _, _, _ => false)) = true := hq
  rw [Bool.and_eq_true] at hq
  obtain ⟨N, P, hN, hP, h1, h2, h3, h4, h5, h6⟩ := zMN_spec hq.1
  have h7 := hq.2
  rw [hN, hP] at h7
  simp only [Bool.and_eq_true, decide_eq_true_eq] at h7
  exact ⟨N, ⟨hN, h1, zCD_of h1 hN, h2, h3, h4, h5, h6⟩, zinN_mem h7.1, zinT_mem h7.2.1, h7.2.2.1, h7.2.2.2⟩
theorem zMk {o i k kd na : Nat} {w : Cond} (h : zMr o i = some (k, kd, na)) (hw : ∀ q, zMok (o, i, k, kd, na, q) = true → zinT q w = true) : w ∈ zTB := by
  obtain ⟨q, hq⟩ := zMr_spec h
  exact zinT_mem (hw q hq)
theorem zCl_nm {ci : Nat} (h : ci < 11) : ∃ r, zCl[ci]? = some r ∧ r.1 = zRN ci := by
  match ci, h with
  | 0, _ => exact ⟨_, rfl, rfl⟩
  | 1, _ => exact ⟨_, rfl, rfl⟩
  | 2, _ => exact ⟨_, rfl, rfl⟩
  | 3, _ => exact ⟨_, rfl, rfl⟩
  | 4, _ => exact ⟨_, rfl, rfl⟩
  | 5, _ => exact ⟨_, rfl, rfl⟩
  | 6, _ => exact ⟨_, rfl, rfl⟩
  | 7, _ => exact ⟨_, rfl, rfl⟩
  | 8, _ => exact ⟨_, rfl, rfl⟩
  | 9, _ => exact ⟨_, rfl, rfl⟩
  | 10, _ => exact ⟨_, rfl, rfl⟩
theorem zTg_spec {pc t : Nat} {off : Int} (h : zTg pc off = some t) : (pc : Int) + off = (t : Int) := by
  unfold zTg at h
  split at h
  · rename_i u hu
    cases h
    exact hu
  · cases h
theorem zcl_0 {t : FieldType} (h : zcl t = 0) : t = .int := by cases t <;> first | rfl | cases h
theorem zcl_1 {t : FieldType} (h : zcl t = 1) : t = .long := by cases t <;> first | rfl | cases h
theorem zcl_3 {t : FieldType} (h : zcl t = 3) : t = .boolean := by cases t <;> first | rfl | cases h
theorem zcl_2 {t : FieldType} (h : zcl t = 2) (a : Nat) : narrow t (.ref a) = .ref a ∧ fits t (.ref a) = true := by cases t <;> first | exact ⟨rfl, rfl⟩ | cases h
theorem zSpl {st rest : List Value} {na a : Nat} (g : zG) (h : st.drop na = .ref a :: rest) : st.map (zv g) = (((st.take na).reverse.map (zv g)).reverse) ++ .ref (zs g + a) :: rest.map (zv g) := by
  rw [← List.map_reverse, List.reverse_reverse]
  have h1 : st = st.take na ++ st.drop na := (List.take_append_drop na st).symm
  rw [h] at h1
  conv => lhs; rw [h1]
  rw [List.map_append]
  rfl
theorem zoi1 : Cond.instanceMethod Lib.objectInit ∈ zTB := zinT_mem (q := 87) (by decide +kernel)
theorem zoi2 : Cond.code Lib.objectInit ⟨#[0xb1]⟩ 1 none ∈ zTB := zinT_mem (q := 88) (by decide +kernel)
theorem zmx1 : Cond.static Lib.Math.max.name ∈ zTB := zinT_mem (q := 349) (by decide +kernel)
theorem zmx2 : Cond.code Lib.Math.max.name Lib.Math.max.code 2 (some .int) ∈ zTB := zinT_mem (q := 350) (by decide +kernel)
theorem zmn1 : Cond.static Lib.Math.min.name ∈ zTB := zinT_mem (q := 476) (by decide +kernel)
theorem zmn2 : Cond.code Lib.Math.min.name Lib.Math.min.code 2 (some .int) ∈ zTB := zinT_mem (q := 477) (by decide +kernel)
theorem zma1 : Cond.static Lib.Math.abs.name ∈ zTB := zinT_mem (q := 772) (by decide +kernel)
theorem zma2 : Cond.code Lib.Math.abs.name Lib.Math.abs.code 1 (some .int) ∈ zTB := zinT_mem (q := 773) (by decide +kernel)
theorem zmi : Cond.initialized "java/lang/Math" ∈ zTB := zinT_mem (q := 76) (by decide +kernel)
theorem zac1 : Cond.native arraycopyName ∈ zTB := zinT_mem (q := 401) (by decide +kernel)
theorem zac2 : Cond.static arraycopyName ∈ zTB := zinT_mem (q := 400) (by decide +kernel)
theorem zac3 : Cond.initialized "java/lang/System" ∈ zTB := zinT_mem (q := 78) (by decide +kernel)
theorem zaci : Cond.arrayClass .int ∈ zTB := zinT_mem (q := 118) (by decide +kernel)
theorem zacb : Cond.arrayClass .byte ∈ zTB := zinT_mem (q := 996) (by decide +kernel)
theorem zacz : Cond.arrayClass .boolean ∈ zTB := zinT_mem (q := 997) (by decide +kernel)

section ZNEW
variable {p : Program} {l : Launch} {e : Env} {R : Room} {s : State} {m : MethodId} {args : Array Value} {below : List Frame} {meth : Method} {c : Code} {H : Heap} {locs : List Loc} {cells slots : Nat} {Q : State → Prop}
variable {cc : ByteArray} {pc : Nat} {la : Array Slot} {rest : List Value} {g : zG} {h h' : zHp}
/-- the heap behind a new cell, whose number is the next one -/
theorem zRep_push {H1 : Heap} (hR : zRep g h H) (hn : h'.1 = h.1 + 1) (ho : ∀ q, q < h.1 → zE g h' q = zE g h q) (hz : H1.size = H.size + 1) (hq : ∀ q, q < H.size → H1[q]? = H[q]?) (hc : va_at g.1 zCl (H.size, zE g h' h.1) H1) : zRep g h' H1 := by
  refine ⟨by rw [hz, hR.1, hn]; omega, ?_⟩
  rw [zW_push hn ho]
  refine (hR.2.kept (fun k q hk => hq q.1 (hR.2 k q hk).lt)).app (fun k q hk => ?_)
  have hz : k < 1 := (List.getElem?_eq_some_iff.mp hk).1
  rw [show k = 0 by omega] at hk
  cases hk
  rw [← hR.1]
  exact hc
theorem zS_push {H0 H1 : Heap} {A : Nat → Prop} (hS : va_S A H0 H locs) (hz : H1.size = H.size + 1) (hq : ∀ q, q < H.size → H1[q]? = H[q]?) : va_S A H0 H1 locs :=
  ⟨Nat.le_trans hS.1 (by omega), fun x h1 h2 => (hq x (Nat.lt_of_lt_of_le h1 hS.1)).trans (hS.2.1 x h1 h2), hS.2.2⟩
theorem zdef {t : FieldType} {h : zHp} {g : zG} {c a j : Nat} (ht : zTy c j = t) (h0 : zcl t ≠ 9) (h1 : h.2.1 a j = 0) (h2 : h.2.2.1 a j = none) (h3 : h.2.2.2 a j = 0) : defaultValue t = zfv g h c a j := by
  unfold zfv
  rw [ht, h1, h2, h3]
  cases t <;> first | rfl | exact absurd rfl h0
end ZNEW
theorem zTy_ok : ∀ c, c < 11 → ∀ j, zcl (zTy c j) ≠ 9 := by
  intro c hc j
  match c, hc with
  | 0, _ => (show zcl (tyX0 j) ≠ 9); unfold tyX0; split <;> decide
  | 1, _ => (show zcl (tyX1 j) ≠ 9); unfold tyX1; split <;> decide
  | 2, _ => (show zcl (tyX2 j) ≠ 9); unfold tyX2; split <;> decide
  | 3, _ => (show zcl (tyX3 j) ≠ 9); unfold tyX3; split <;> decide
  | 4, _ => (show zcl (tyX4 j) ≠ 9); unfold tyX4; split <;> decide
  | 5, _ => (show zcl (tyX5 j) ≠ 9); unfold tyX5; split <;> decide
  | 6, _ => (show zcl (tyX6 j) ≠ 9); unfold tyX6; split <;> decide
  | 7, _ => (show zcl (tyX7 j) ≠ 9); unfold tyX7; split <;> decide
  | 8, _ => (show zcl (tyX8 j) ≠ 9); unfold tyX8; split <;> decide
  | 9, _ => (show zcl (tyX9 j) ≠ 9); unfold tyX9; split <;> decide
  | 10, _ => (show zcl (tyX10 j) ≠ 9); unfold tyX10; split <;> decide
