/-! the start: what the interpreter builds, without the script -/
def zns : Instr → Bool
  | .arraylength => false
  | .iaload => false
  | _ => true
theorem zins_ns {sc sc' : zScr} {k : Nat} {M : zMe} {pc : Nat} {ls : List (Option Value)} {st : List Value} {h : zHp} {ins : Instr} (hn : zns ins = true) : zins sc k M pc ls st h ins = zins sc' k M pc ls st h ins := by
  cases ins <;> first | rfl | cases hn
def zact0 (s : zSt) : Option zAc := match zM s.1 with
  | none => none
  | some M => match decode M.2.1 s.2.1 with
    | .error _ => none
    | .ok x => if x.2 = zlen x.1 x.2 ∧ zns x.1 = true then zins (0, fun _ => 0) s.1 M s.2.1 s.2.2.1 s.2.2.2.1 s.2.2.2.2 x.1 else none
theorem zact0_ok (sc : zScr) {s : zSt} {a : zAc} (h : zact0 s = some a) : zact sc s = some a := by
  unfold zact0 at h
  unfold zact
  cases hM : zM s.1 with
  | none =>
    rw [hM] at h
    cases h
  | some M =>
    rw [hM] at h
    dsimp only at h ⊢
    cases hd : decode M.2.1 s.2.1 with
    | error e =>
      rw [hd] at h
      cases h
    | ok x =>
      rw [hd] at h
      dsimp only at h ⊢
      by_cases hc : x.2 = zlen x.1 x.2 ∧ zns x.1 = true
      · rw [if_pos hc] at h
        rw [if_pos hc.1, zins_ns (sc' := (0, fun _ => 0)) hc.2]
        exact h
      · rw [if_neg hc] at h
        cases h
def zrs : Nat → zSt → Option (zRs ⊕ zSt)
  | 0, _ => none
  | n + 1, s => if s.1 = 185 ∧ s.2.1 = 18 then some (.inr s) else match zact0 s with
    | none => none
    | some (.inl r) => some (.inl r)
    | some (.inr (.inl s')) => zrs n s'
    | some (.inr (.inr sf)) => match zrs n sf.1 with
      | some (.inl x) => zrs n (sf.2 x)
      | _ => none
def zro (sc : zScr) (s : zSt) : zRs ⊕ zSt → Prop
  | .inl x => zev sc s = some x
  | .inr s' => zev sc s = zev sc s'
theorem zro_eq {sc : zScr} {s t : zSt} {o : zRs ⊕ zSt} (h : zev sc s = zev sc t) (ho : zro sc t o) : zro sc s o := by
  cases o with
  | inl x => exact h.trans ho
  | inr s' => exact h.trans ho
theorem zrs_ok (sc : zScr) : ∀ (n : Nat) (s : zSt) (o : zRs ⊕ zSt), zrs n s = some o → zro sc s o
  | 0, _, _, h => by cases h
  | n + 1, s, o, h => by
    unfold zrs at h
    split at h
    · cases h
      exact rfl
    · split at h
      · cases h
      · rename_i r ha
        cases h
        show zev sc s = some r
        rw [zev_eq, zact0_ok sc ha]
        rfl
      · rename_i s' ha
        refine zro_eq ?_ (zrs_ok sc n s' o h)
        rw [zev_eq, zact0_ok sc ha]
        rfl
      · rename_i sf ha
        split at h
        · rename_i x hx
          have h1 : zev sc sf.1 = some x := zrs_ok sc n sf.1 (.inl x) hx
          refine zro_eq ?_ (zrs_ok sc n (sf.2 x) o h)
          rw [zev_eq, zact0_ok sc ha]
          show (zev sc sf.1).bind _ = _
          rw [h1, Option.bind_some]
        · cases h
/-- references lie where the plan has room for them -/
def zPr (h : zHp) : Prop := ∀ a j, (h.1 ≤ a ∨ (zK a).2 ≤ j ∨ (100 ≤ (zK a).1 ∧ (zK a).1 ≤ 102)) → h.2.2.1 a j = none
theorem zok_n {n a c : Nat} (h : zok n a c = true) : a < n ∧ (zK a).1 = c := by
  unfold zok at h
  rw [Bool.and_eq_true, decide_eq_true_iff, beq_iff_eq] at h
  exact h
theorem zFL_pl : zFL.all (fun e => decide (e.2.2.1 < 100) && (List.range 197).all (fun a => (zK a).1 != e.2.2.1 || decide (e.2.2.2.1 < (zK a).2))) = true := by decide +kernel
theorem zK_out {a : Nat} (h : 197 ≤ a) : zK a = (999, 0) := by
  have hl : zKL.length = 197 := by decide +kernel
  unfold zK
  rw [List.getD_eq_getElem?_getD, List.getElem?_eq_none (by rw [hl]; exact h)]
  rfl
theorem zF_in {o i ci j a : Nat} (h : zF o i = some (ci, j)) (ha : (zK a).1 = ci) : ci < 100 ∧ j < (zK a).2 := by
  unfold zF at h
  obtain ⟨e, he, h2⟩ := Option.map_eq_some_iff.mp h
  have hm := List.mem_of_find?_eq_some he
  have hall := List.all_eq_true.mp zFL_pl e hm
  rw [Bool.and_eq_true, decide_eq_true_iff] at hall
  have e1 : e.2.2.1 = ci := congrArg Prod.fst h2
  have e2 : e.2.2.2.1 = j := congrArg Prod.snd h2
  rw [e1, e2] at hall
  refine ⟨hall.1, ?_⟩
  by_cases h197 : a < 197
  · have := List.all_eq_true.mp hall.2 a (List.mem_range.mpr h197)
    rw [Bool.or_eq_true, bne_iff_ne, decide_eq_true_iff] at this
    exact this.resolve_left (fun z => z ha)
  · rw [zK_out (by omega)] at ha
    have h1 := hall.1
    have : ci = 999 := ha.symm
    omega
theorem zPr_pf {h : zHp} {o i ci j a x : Nat} {Q : Prop} {i' : Nat → Nat → Int32} {l' : Nat → Nat → Int64} (hP : zPr h) (hF : zF o i = some (ci, j)) (hk : zok h.1 a ci = true ∧ Q) : zPr (h.1, i', zU h.2.2.1 a j (some x), l') := by
  intro q t hq
  obtain ⟨h1, h2⟩ := zok_n hk.1
  obtain ⟨h3, h4⟩ := zF_in hF h2
  show zU h.2.2.1 a j (some x) q t = none
  rw [zUn _ _ ?_]
  · exact hP q t hq
  · have hq' : h.1 ≤ q ∨ (zK q).2 ≤ t ∨ (100 ≤ (zK q).1 ∧ (zK q).1 ≤ 102) := hq
    by_cases e : q = a
    · right
      intro e2
      subst e
      subst e2
      omega
    · exact Or.inl e
theorem zPr_aa {h : zHp} {a x : Nat} {j : Int32} {i' : Nat → Nat → Int32} {l' : Nat → Nat → Int64} (hP : zPr h) (hk : ((zok h.1 a 103 = true ∧ zok h.1 x 7 = true) ∨ (zok h.1 a 104 = true ∧ zok h.1 x 3 = true)) ∧ ¬ (j < 0 ∨ (zK a).2 ≤ j.toNatClampNeg)) : zPr (h.1, i', zU h.2.2.1 a j.toNatClampNeg (some x), l') := by
  intro q t hq
  have h2 : a < h.1 ∧ ((zK a).1 = 103 ∨ (zK a).1 = 104) := by
    rcases hk.1 with z | z
    · exact ⟨(zok_n z.1).1, Or.inl (zok_n z.1).2⟩
    · exact ⟨(zok_n z.1).1, Or.inr (zok_n z.1).2⟩
  have h3 : j.toNatClampNeg < (zK a).2 := Decidable.byContradiction (fun z => hk.2 (Or.inr (by omega)))
  show zU h.2.2.1 a j.toNatClampNeg (some x) q t = none
  rw [zUn _ _ ?_]
  · exact hP q t hq
  · have hq' : h.1 ≤ q ∨ (zK q).2 ≤ t ∨ (100 ≤ (zK q).1 ∧ (zK q).1 ≤ 102) := hq
    by_cases e : q = a
    · right
      intro e2
      rw [e, e2] at hq'
      omega
    · exact Or.inl e
theorem zPr_new {h : zHp} {i' : Nat → Nat → Int32} {l' : Nat → Nat → Int64} (hP : zPr h) : zPr (h.1 + 1, i', zCr h.2.2.1 h.1 none, l') := by
  intro q t hq
  have hq' : h.1 + 1 ≤ q ∨ (zK q).2 ≤ t ∨ (100 ≤ (zK q).1 ∧ (zK q).1 ≤ 102) := hq
  show (if q = h.1 then none else h.2.2.1 q t) = none
  by_cases e : q = h.1
  · rw [if_pos e]
  · rw [if_neg e]
    exact hP q t (by omega)
theorem zPr_same {h : zHp} {i' : Nat → Nat → Int32} {l' : Nat → Nat → Int64} (hP : zPr h) : zPr (h.1, i', h.2.2.1, l') := hP
def zPa : Option zAc → Prop
  | none => True
  | some (.inl r) => zPr r.2
  | some (.inr (.inl s)) => zPr s.2.2.2.2
  | some (.inr (.inr sf)) => zPr sf.1.2.2.2.2 ∧ ∀ x, (sf.2 x).2.2.2.2 = x.2
theorem zPa_jp {k : Nat} {t : Option Nat} {ls : List (Option Value)} {st : List Value} {h : zHp} (hP : zPr h) : zPa (zjp k t ls st h) := by
  cases t with
  | none => trivial
  | some t => exact hP
theorem zPa_cl {k : Nat} {M : zMe} {pc : Nat} {ls : List (Option Value)} {as rest : List Value} {h : zHp} {k' : Nat} (hP : zPr h) : zPa (zcall k M pc ls as rest h k') := by
  unfold zcall
  split
  · trivial
  · split
    · exact ⟨hP, fun _ => rfl⟩
    · trivial
theorem zins_P {sc : zScr} {k : Nat} {M : zMe} {pc : Nat} {ls : List (Option Value)} {st : List Value} {h : zHp} {ins : Instr} (hP : zPr h) : zPa (zins sc k M pc ls st h ins) := by
  cases ins <;> simp only [zins] <;> first
    | (exact trivial; done)
    | ((repeat' split) <;> first | exact trivial | exact zPa_jp hP | exact zPa_cl hP | exact hP | exact zPr_new hP | exact zPr_pf hP (by assumption) (by assumption) | exact zPr_aa hP (by assumption) | exact zPr_same hP)
