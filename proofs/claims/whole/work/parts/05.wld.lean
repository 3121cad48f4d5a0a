/-! the world of the interpreter's heap, and the soundness of a run -/
abbrev zG : Type := va_G × ClassId × ClassId × ClassId × ClassId × ClassId × Nat × Nat
abbrev zs (g : zG) : Nat := g.2.2.2.2.2.2.1
abbrev zb (g : zG) : Nat := g.2.2.2.2.2.2.2
def zA (g : zG) : Nat → Prop := fun q => zs g ≤ q
def zv (g : zG) : Value → Value
  | .ref a => .ref (zs g + a)
  | .retAddr _ => .ref (zb g)
  | v => v
def ztys (g : zG) : List (ClassId × FieldType) := [(g.2.1, .int), (g.2.2.1, .byte), (g.2.2.2.1, .boolean), (g.2.2.2.2.1, .object "HarpFences$Stand"), (g.2.2.2.2.2.1, .object "HarpFences$Image")]
def zfv (g : zG) (h : zHp) (c a j : Nat) : Value := match zcl (zTy c j) with
  | 1 => .long (h.2.2.2 a j)
  | 2 => va_rf ((h.2.2.1 a j).map (fun q => zs g + q))
  | _ => .int (h.2.1 a j)
def zqs (g : zG) (h : zHp) (a : Nat) : Nat → Option Nat := fun j => (h.2.2.1 a j).map (fun q => zs g + q)
def zE (g : zG) (h : zHp) (a : Nat) : va_E := match (zK a).1 with
  | 100 => .inl (g.2.1, (zK a).2, .inl (h.2.1 a))
  | 101 => .inl (g.2.2.1, (zK a).2, .inl (h.2.1 a))
  | 102 => .inl (g.2.2.2.1, (zK a).2, .inl (h.2.1 a))
  | 103 => .inl (g.2.2.2.2.1, (zK a).2, .inr (.inr (.inr (.inr (zqs g h a)))))
  | 104 => .inl (g.2.2.2.2.2.1, (zK a).2, .inr (.inr (.inr (.inr (zqs g h a)))))
  | c => .inr (c, (List.range (zK a).2).map (zfv g h c a))
def zW (g : zG) (h : zHp) : va_W := (List.range h.1).map (fun a => (zs g + a, zE g h a))
def zRep (g : zG) (h : zHp) (H : Heap) : Prop := H.size = zs g + h.1 ∧ va_P g.1 zCl (zW g h) H
theorem zKL_ok : zKL.all (fun e => match zCl[e.1]? with
  | some r => r.2.2 == e.2
  | none => true) = true := by decide +kernel
theorem zK_obj {a c : Nat} {r : vw_C} (h : (zK a).1 = c) (hr : zCl[c]? = some r) : r.2.2 = (zK a).2 := by
  have hc : c < 11 := (zCK_of hr).1
  unfold zK at h ⊢
  rw [List.getD_eq_getElem?_getD] at h ⊢
  cases hk : zKL[a]? with
  | none => rw [hk] at h; simp at h; omega
  | some e =>
    rw [hk] at h
    simp only [Option.getD_some] at h ⊢
    have h1 := List.all_eq_true.mp zKL_ok e (List.mem_of_getElem? hk)
    rw [h, hr] at h1
    simpa using h1
theorem zv_rf (g : zG) (r : Option Nat) : zv g (va_rf r) = va_rf (r.map (fun q => zs g + q)) := by cases r <;> rfl
theorem zv_cat (g : zG) (v : Value) : (zv g v).category = v.category := by cases v <;> rfl
theorem zcat_map (g : zG) (st : List Value) : ((st.map (zv g)).map fun v => v.category).sum = zcat st := by
  unfold zcat
  rw [List.map_map]
  congr 1
  apply List.map_congr_left
  intro v _
  exact zv_cat g v
theorem zW_get {g : zG} {h : zHp} {a : Nat} (ha : a < h.1) : (zW g h)[a]? = some (zs g + a, zE g h a) := by
  simp [zW, ha]
theorem zW_none {g : zG} {h : zHp} {a : Nat} (ha : ¬ a < h.1) : (zW g h)[a]? = none := by
  simp [zW]; omega
theorem zW_len {g : zG} {h : zHp} : (zW g h).length = h.1 := by simp [zW]
theorem zW_set {g : zG} {h h' : zHp} {a : Nat} (ha : a < h.1) (hn : h'.1 = h.1) (ho : ∀ q, q ≠ a → zE g h' q = zE g h q) : (zW g h).set a (zs g + a, zE g h' a) = zW g h' := by
  apply List.ext_getElem?
  intro q
  rw [List.getElem?_set]
  by_cases hq : a = q
  · subst hq
    rw [if_pos rfl, zW_len, if_pos ha, zW_get (by omega)]
  · rw [if_neg hq]
    by_cases hl : q < h.1
    · rw [zW_get hl, zW_get (by omega), ho q (Ne.symm hq)]
    · rw [zW_none hl, zW_none (by omega)]
theorem zW_push {g : zG} {h h' : zHp} (hn : h'.1 = h.1 + 1) (ho : ∀ q, q < h.1 → zE g h' q = zE g h q) : zW g h' = zW g h ++ [(zs g + h.1, zE g h' h.1)] := by
  unfold zW
  rw [hn, List.range_succ, List.map_append]
  congr 1
  apply List.map_congr_left
  intro q hq
  rw [ho q (List.mem_range.mp hq)]
theorem zD (g : zG) (h : zHp) : va_D (zA g) (zW g h) := by
  have key : ∀ (i : Nat) (q : Nat × va_E), (zW g h)[i]? = some q → q.1 = zs g + i := by
    intro i q hq
    by_cases hi : i < h.1
    · rw [zW_get hi] at hq
      cases hq
      rfl
    · rw [zW_none hi] at hq
      cases hq
  refine ⟨fun i j p q h1 h2 h3 => ?_, fun i q h1 => ?_⟩
  · have := key i p h1
    have := key j q h2
    omega
  · show zs g ≤ q.1
    rw [key i q h1]
    omega
theorem zE_congr {g : zG} {h h' : zHp} {a : Nat} (h1 : h'.2.1 a = h.2.1 a) (h2 : h'.2.2.1 a = h.2.2.1 a) (h3 : h'.2.2.2 a = h.2.2.2 a) : zE g h' a = zE g h a := by
  have e1 : zqs g h' a = zqs g h a := by unfold zqs; rw [h2]
  have e2 : ∀ c, zfv g h' c a = zfv g h c a := by intro c; funext j; unfold zfv; rw [h1, h2, h3]
  unfold zE
  rw [h1, e1]
  simp only [e2]
theorem zU_ne {α : Type} {f : Nat → Nat → α} {a j q : Nat} {v : α} (hq : q ≠ a) : zU f a j v q = f q := by
  funext t
  simp [zU, hq]
theorem zCr_ne {α : Type} {f : Nat → Nat → α} {a q : Nat} {v : α} (hq : q ≠ a) : zCr f a v q = f q := by
  funext t
  simp [zCr, hq]
theorem zCr_eq {α : Type} {f : Nat → Nat → α} {a : Nat} {v : α} : zCr f a v a = fun _ => v := by
  funext t
  simp [zCr]
theorem zCp_ne {f : Nat → Nat → Int32} {a0 a sp dp n q : Nat} (hq : q ≠ a) : zCp f a0 a sp dp n q = f q := by
  funext t
  simp [zCp, hq]
theorem zCp_eq {f : Nat → Nat → Int32} {a0 a sp dp n : Nat} : zCp f a0 a sp dp n a = va_cpy (f a0) (f a) sp dp n := by
  funext t
  simp [zCp]
theorem zU_upd {f : Nat → Nat → Int32} {a j : Nat} {v : Int32} : zU f a j v a = upd (f a) j v := by
  funext t
  simp [zU, upd]
theorem zset_obj {n j : Nat} {f f' : Nat → Value} {v : Value} (hj : f' j = v) (ho : ∀ t, t ≠ j → f' t = f t) : ((List.range n).map f).set j v = (List.range n).map f' := by
  apply List.ext_getElem?
  intro t
  rw [List.getElem?_set]
  by_cases hq : j = t
  · subst hq
    by_cases hl : j < n
    · simp [hl, hj]
    · simp [hl]
  · rw [if_neg hq]
    by_cases hl : t < n
    · simp [hl, ho t (Ne.symm hq)]
    · simp [hl]
theorem zok_iff {n a c : Nat} : zok n a c = true ↔ a < n ∧ (zK a).1 = c := by simp [zok]
theorem zE_obj {g : zG} {h : zHp} {a c : Nat} (hc : (zK a).1 = c) (h11 : c < 11) : zE g h a = .inr (c, (List.range (zK a).2).map (zfv g h c a)) := by
  unfold zE
  rw [hc]
  match c, h11 with
  | 0, _ => rfl
  | 1, _ => rfl
  | 2, _ => rfl
  | 3, _ => rfl
  | 4, _ => rfl
  | 5, _ => rfl
  | 6, _ => rfl
  | 7, _ => rfl
  | 8, _ => rfl
  | 9, _ => rfl
  | 10, _ => rfl
theorem zE_100 {g : zG} {h : zHp} {a : Nat} (hc : (zK a).1 = 100) : zE g h a = .inl (g.2.1, (zK a).2, .inl (h.2.1 a)) := by unfold zE; rw [hc]; rfl
theorem zE_101 {g : zG} {h : zHp} {a : Nat} (hc : (zK a).1 = 101) : zE g h a = .inl (g.2.2.1, (zK a).2, .inl (h.2.1 a)) := by unfold zE; rw [hc]; rfl
theorem zE_102 {g : zG} {h : zHp} {a : Nat} (hc : (zK a).1 = 102) : zE g h a = .inl (g.2.2.2.1, (zK a).2, .inl (h.2.1 a)) := by unfold zE; rw [hc]; rfl
theorem zE_103 {g : zG} {h : zHp} {a : Nat} (hc : (zK a).1 = 103) : zE g h a = .inl (g.2.2.2.2.1, (zK a).2, .inr (.inr (.inr (.inr (zqs g h a))))) := by unfold zE; rw [hc]; rfl
theorem zE_104 {g : zG} {h : zHp} {a : Nat} (hc : (zK a).1 = 104) : zE g h a = .inl (g.2.2.2.2.2.1, (zK a).2, .inr (.inr (.inr (.inr (zqs g h a))))) := by unfold zE; rw [hc]; rfl
def zSL (n : Nat) : Nat := ((zKL.take n).map (fun e => e.2)).sum
theorem zSL_succ (n : Nat) : zSL (n + 1) = zSL n + (zK n).2 := by
  unfold zSL zK
  rw [List.take_add_one, List.map_append, List.sum_append, List.getD_eq_getElem?_getD]
  cases zKL[n]? <;> simp
theorem zSL_mono {n m : Nat} (h : n ≤ m) : zSL n ≤ zSL m := by
  induction h with
  | refl => exact Nat.le_refl _
  | step _ ih => rw [zSL_succ]; omega
/-- the words on nest mates and on arrays of objects -/
def zNw (U : State) : Prop := (∀ w ∈ zNest, va_Nw w U) ∧ va_AO "HarpFences$Stand" U ∧ va_AO "HarpFences$Image" U
theorem zNw_warm {s U : State} (hW : s.WarmedH U.vm) (h : zNw s) : zNw U := by
  refine ⟨fun w hw => ?_, h.2.1.moved hW.alike, h.2.2.moved hW.alike⟩
  have h1 := h.1 w hw
  have h2 := (List.mem_filter.mp hw).2
  cases w <;> first | exact va_Nw.warmM hW h1 | cases h2
theorem zNw_vm {s U : State} (hvm : s.vm = U.vm) (h : zNw s) : zNw U := by
  refine ⟨fun w hw => ?_, va_AO.moved (by rw [hvm]; exact Vm.Alike.refl _) h.2.1, va_AO.moved (by rw [hvm]; exact Vm.Alike.refl _) h.2.2⟩
  have h1 := h.1 w hw
  have h2 := (List.mem_filter.mp hw).2
  cases w <;> first | exact va_tabs rfl hvm h1 | cases h2
def zLs (g : zG) (nL k : Nat) (ls : List (Option Value)) (la : Array Slot) : Prop := la.size = nL ∧ lv_wf la ∧ (∀ (j : Nat) (v : Value), ls[j]? = some (some v) → la[j]? = some (.val (zv g v))) ∧ (∀ (j : Nat) (v : Value), ls[j]? = some (some v) → v.category = 2 → j = zLA k) ∧ ls.length ≤ nL
theorem zLs_has {g : zG} {nL k : Nat} {ls : List (Option Value)} {la : Array Slot} (h : zLs g nL k ls la) : lv_has la nL (((List.range ls.length).filterMap (fun j => (ls[j]?).join.map (fun v => (j, zv g v))))) := by
  refine ⟨h.1, h.2.1, fun q hq => ?_⟩
  obtain ⟨j, -, hj⟩ := List.mem_filterMap.mp hq
  obtain ⟨v, hv, rfl⟩ := Option.map_eq_some_iff.mp hj
  exact h.2.2.1 j v (Option.join_eq_some_iff.mp hv)
theorem zLs_mem {g : zG} {ls : List (Option Value)} {j : Nat} {v : Value} (h : ls[j]? = some (some v)) : (j, zv g v) ∈ ((List.range ls.length).filterMap (fun j => (ls[j]?).join.map (fun v => (j, zv g v)))) := by
  refine List.mem_filterMap.mpr ⟨j, List.mem_range.mpr (List.getElem?_eq_some_iff.mp h).1, ?_⟩
  rw [h]
  rfl
/-- the locals behind a store of an int or a reference -/
theorem zLs_set {g : zG} {nL k : Nat} {ls ls' : List (Option Value)} {la la' : Array Slot} {j : Nat} {v : Value} (h : zLs g nL k ls la) (hs : zset k ls j v = some ls') (hv : v.category = 1)
    (ha : lv_has la' nL ((j, zv g v) :: ((List.range ls.length).filterMap (fun j => (ls[j]?).join.map (fun v => (j, zv g v)))).filter (fun q => !(q.1 == j) && !(q.1 + 1 == j && q.2.category == 2)))) : zLs g nL k ls' la' := by
  unfold zset at hs
  split at hs
  · cases hs
  · rename_i hj
    cases hs
    refine ⟨ha.1, ha.2.1, fun i w hi => ?_, fun i w hi hw => ?_, by rw [List.length_set]; exact h.2.2.2.2⟩
    · rw [List.getElem?_set] at hi
      by_cases hij : j = i
      · subst hij
        rw [if_pos rfl] at hi
        split at hi
        · cases hi
          exact ha.2.2 (j, zv g v) List.mem_cons_self
        · cases hi
      · rw [if_neg hij] at hi
        refine ha.2.2 (i, zv g w) (List.mem_cons_of_mem _ (List.mem_filter.mpr ⟨zLs_mem hi, ?_⟩))
        have h1 : (i == j) = false := by simp; omega
        by_cases h2 : w.category = 2
        · have h3 := h.2.2.2.1 i w hi h2
          have h4 : (i + 1 == j) = false := by simp; omega
          simp [h1, h4]
        · simp [h1, zv_cat, h2]
    · rw [List.getElem?_set] at hi
      by_cases hij : j = i
      · subst hij
        rw [if_pos rfl] at hi
        split at hi
        · cases hi
          omega
        · cases hi
      · rw [if_neg hij] at hi
        exact h.2.2.2.1 i w hi hw
theorem zset_lt {k j : Nat} {ls ls' : List (Option Value)} {v : Value} (hs : zset k ls j v = some ls') : j < ls.length := by
  unfold zset at hs
  split at hs
  · cases hs
  · omega
/-- the locals behind a store of a long -/
theorem zLs_set2 {g : zG} {nL k : Nat} {ls : List (Option Value)} {la la' : Array Slot} {j : Nat} {x : Int64} (h : zLs g nL k ls la) (hj : j = zLA k)
    (ha : lv_has la' nL ((j, Value.long x) :: ((List.range ls.length).filterMap (fun j => (ls[j]?).join.map (fun v => (j, zv g v)))).filter (fun q => !(q.1 == j) && (!(q.1 == j + 1) && !(q.1 + 1 == j && q.2.category == 2))))) : zLs g nL k ((ls.set j (some (.long x))).set (j + 1) none) la' := by
  have key : ∀ (i : Nat) (w : Value), ((ls.set j (some (.long x))).set (j + 1) none)[i]? = some (some w) → (i = j ∧ w = .long x) ∨ (i ≠ j ∧ i ≠ j + 1 ∧ ls[i]? = some (some w)) := by
    intro i w hi
    rw [List.getElem?_set] at hi
    by_cases h1 : j + 1 = i
    · rw [if_pos h1] at hi
      split at hi <;> cases hi
    · rw [if_neg h1, List.getElem?_set] at hi
      by_cases h2 : j = i
      · rw [if_pos h2] at hi
        split at hi
        · cases hi
          exact Or.inl ⟨h2.symm, rfl⟩
        · cases hi
      · rw [if_neg h2] at hi
        exact Or.inr ⟨fun e => h2 e.symm, fun e => h1 e.symm, hi⟩
  refine ⟨ha.1, ha.2.1, fun i w hi => ?_, fun i w hi hw => ?_, by rw [List.length_set, List.length_set]; exact h.2.2.2.2⟩
  · rcases key i w hi with ⟨rfl, rfl⟩ | ⟨h1, h2, h3⟩
    · exact ha.2.2 _ List.mem_cons_self
    · refine ha.2.2 (i, zv g w) (List.mem_cons_of_mem _ (List.mem_filter.mpr ⟨zLs_mem h3, ?_⟩))
      have e1 : (i == j) = false := by simp; omega
      have e2 : (i == j + 1) = false := by simp; omega
      by_cases h4 : w.category = 2
      · have h5 := h.2.2.2.1 i w h3 h4
        omega
      · simp [e1, e2, zv_cat, h4]
  · rcases key i w hi with ⟨rfl, rfl⟩ | ⟨h1, h2, h3⟩
    · exact hj
    · exact h.2.2.2.1 i w h3 hw
theorem zlg_sl {g : zG} {as : List Value} (h : zcat1 as = true) : (lg_sl (as.map (zv g))).length = as.length := by
  induction as with
  | nil => rfl
  | cons v l ih =>
    simp only [zcat1, List.all_cons, Bool.and_eq_true, beq_iff_eq] at h
    have h1 : (zv g v).category = 1 := (zv_cat g v).trans h.1
    have h2 := ih h.2
    rw [List.map_cons]
    simp only [lg_sl, List.flatMap_cons, List.length_append] at h2 ⊢
    rw [h2]
    simp [h1]
    omega
theorem zlv_args {g : zG} {as : List Value} (h : zcat1 as = true) : ∀ (i j : Nat) (v : Value), as[j]? = some v → (i + j, zv g v) ∈ lv_args i (as.map (zv g)) := by
  induction as with
  | nil => intro i j v hj; simp at hj
  | cons w l ih =>
    simp only [zcat1, List.all_cons, Bool.and_eq_true, beq_iff_eq] at h
    have h1 : (zv g w).category = 1 := (zv_cat g w).trans h.1
    intro i j v hj
    rw [List.map_cons]
    simp only [lv_args, h1]
    cases j with
    | zero =>
      simp at hj
      subst hj
      exact List.mem_cons_self
    | succ j =>
      simp at hj
      have h2 := ih h.2 (i + 1) j v hj
      rw [show i + 1 + j = i + (j + 1) by omega] at h2
      exact List.mem_cons_of_mem _ (by simpa using h2)
theorem zLs_ent {g : zG} {k n : Nat} {as : List Value} (h : zcat1 as = true) (hl : as.length ≤ n) : zLs g n k (zent as n) ((lg_sl (as.map (zv g)) ++ List.replicate (n - (lg_sl (as.map (zv g))).length) Slot.unset).toArray) := by
  have h0 := lv_entry (as.map (zv g)) (n := n) (by rw [zlg_sl h]; exact hl)
  have key : ∀ (j : Nat) (v : Value), (zent as n)[j]? = some (some v) → as[j]? = some v := by
    intro j v hj
    unfold zent at hj
    by_cases hjl : j < as.length
    · rw [List.getElem?_append_left (by rw [List.length_map]; exact hjl), List.getElem?_map] at hj
      obtain ⟨w, hw, e⟩ := Option.map_eq_some_iff.mp hj
      cases e
      exact hw
    · rw [List.getElem?_append_right (by rw [List.length_map]; omega)] at hj
      have := List.eq_of_mem_replicate (List.mem_of_getElem? hj)
      cases this
  refine ⟨h0.1, h0.2.1, fun j v hj => ?_, fun j v hj hv => ?_, ?_⟩
  · have h2 := zlv_args (g := g) h 0 j v (key j v hj)
    rw [Nat.zero_add] at h2
    exact h0.2.2 _ h2
  · have h3 := List.all_eq_true.mp h v (List.mem_of_getElem? (key j v hj))
    simp only [beq_iff_eq] at h3
    omega
  · unfold zent
    rw [List.length_append, List.length_map, List.length_replicate]
    omega

