/-! the start; the law comes to 1 on every script -/
def zoh : zRs ⊕ zSt → zHp
  | .inl x => x.2
  | .inr s => s.2.2.2.2
theorem zact0_P {s : zSt} (hP : zPr s.2.2.2.2) : zPa (zact0 s) := by
  unfold zact0
  split
  · trivial
  · split
    · trivial
    · split
      · exact zins_P hP
      · trivial
theorem zrs_P : ∀ (n : Nat) (s : zSt) (o : zRs ⊕ zSt), zPr s.2.2.2.2 → zrs n s = some o → zPr (zoh o)
  | 0, _, _, _, h => by cases h
  | n + 1, s, o, hP, h => by
    have ha := zact0_P hP
    unfold zrs at h
    split at h
    · cases h
      exact hP
    · split at h
      · cases h
      · rename_i r he
        cases h
        rw [he] at ha
        exact ha
      · rename_i s' he
        rw [he] at ha
        exact zrs_P n s' o ha h
      · rename_i sf he
        rw [he] at ha
        split at h
        · rename_i x hx
          have h1 := zrs_P n sf.1 (.inl x) ha.1 hx
          refine zrs_P n (sf.2 x) o ?_ h
          rw [ha.2 x]
          exact h1
        · cases h
theorem zlsk_of : ∀ {ls : List (Option Value)}, zlsk ls = true → ls = [some (.retAddr 0), some (.ref 0), some (.ref 173), some (.int 0)] := by
  intro ls h
  unfold zlsk at h
  split at h
  · rw [Bool.and_eq_true, Bool.and_eq_true, Bool.and_eq_true, decide_eq_true_iff, decide_eq_true_iff, decide_eq_true_iff, decide_eq_true_iff] at h
    obtain ⟨h1, h2, h3, h4⟩ := h
    rw [h1, h2, h3, h4]
  · cases h
theorem zRL_row : (List.range 197).all (fun a => decide ((((zRL false)[a]?).getD []).length ≤ if 100 ≤ (zK a).1 ∧ (zK a).1 ≤ 102 then 0 else (zK a).2)) = true := by decide +kernel
theorem zRF_out {a j : Nat} (h : 197 ≤ a ∨ (zK a).2 ≤ j ∨ (100 ≤ (zK a).1 ∧ (zK a).1 ≤ 102)) : zRF false a j = none := by
  unfold zRF
  by_cases ha : a < 197
  · have h1 := List.all_eq_true.mp zRL_row a (List.mem_range.mpr ha)
    rw [decide_eq_true_iff] at h1
    cases hr : (zRL false)[a]? with
    | none => rfl
    | some row =>
      rw [hr] at h1
      have h2 : row.length ≤ if 100 ≤ (zK a).1 ∧ (zK a).1 ≤ 102 then 0 else (zK a).2 := h1
      have h3 : row.length ≤ j := by
        by_cases hc : 100 ≤ (zK a).1 ∧ (zK a).1 ≤ 102
        · rw [if_pos hc] at h2
          omega
        · rw [if_neg hc] at h2
          omega
      show (row[j]?).join = none
      rw [List.getElem?_eq_none h3]
      rfl
  · rw [List.getElem?_eq_none (by rw [zRL_len]; omega)]
    rfl
theorem zrk_of {r : Nat → Nat → Option Nat} {n : Nat} {i : Nat → Nat → Int32} {l : Nat → Nat → Int64} (hn : n = 197) (hP : zPr (n, i, r, l)) (h : zrk r = true) : r = zRF false := by
  subst hn
  funext a j
  by_cases hc : 197 ≤ a ∨ (zK a).2 ≤ j ∨ (100 ≤ (zK a).1 ∧ (zK a).1 ≤ 102)
  · rw [zRF_out hc]
    exact hP a j hc
  · have h1 := List.all_eq_true.mp h a (List.mem_range.mpr (by omega))
    rw [Bool.or_eq_true, Bool.and_eq_true, decide_eq_true_iff, decide_eq_true_iff] at h1
    rcases h1 with h1 | h1
    · omega
    · have h2 := List.all_eq_true.mp h1 j (List.mem_range.mpr (by omega))
      exact decide_eq_true_iff.mp h2
theorem zz_of {i : Nat → Nat → Int32} {a n : Nat} (h : zz i a n = true) {j : Nat} (hj : j < n) : i a j = nI 0 := decide_eq_true_iff.mp (List.all_eq_true.mp h j (List.mem_range.mpr hj))
theorem Inv0 : Inv zD0 := by
  refine ⟨⟨by decide, by decide⟩, by decide, by decide, by decide, fun f hf => absurd hf (Nat.not_lt_zero _), fun k hk => absurd hk (Nat.not_lt_zero _), fun k hk => absurd hk (Nat.not_lt_zero _), ⟨fun k hk => absurd hk (Nat.not_lt_zero _), fun k hk => absurd hk (Nat.not_lt_zero _), by decide, by decide, by decide, by decide, fun k hk => absurd hk (Nat.not_lt_zero _)⟩, fun p hp h => ⟨Nat.zero_le _, fun n hn => absurd hn (Nat.not_lt_zero _)⟩, fun p hp h => absurd h (by decide : ¬ (0 : Nat) = 1), fun p hp => Nat.zero_le _, by decide, fun j hj => absurd hj (Nat.not_lt_zero _), by decide, fun j hj => absurd hj (Nat.not_lt_zero _)⟩
theorem zik_of {i : Nat → Nat → Int32} (h : zik i = true) : XR zD0 i ∧ MR zD0 i := by
  unfold zik at h
  simp only [Bool.and_eq_true, decide_eq_true_iff] at h
  obtain ⟨a1, a2, a3, a4, a5, a6, a7, a8, a9, a10, a11, a12, a13, a14, a15, a16, a17, a18, a19, a20, a21, a22, a23, a24, a25, a26⟩ := h
  constructor
  · refine XR.mk ⟨a1, a2, a3, a4, fun f hf => absurd hf (Nat.not_lt_zero _), fun k hk => absurd hk (Nat.not_lt_zero _), fun k hk => absurd hk (Nat.not_lt_zero _)⟩ ⟨fun f hf => absurd hf (Nat.not_lt_zero _), fun f hf => absurd hf (Nat.not_lt_zero _), fun f hf => absurd hf (Nat.not_lt_zero _), a5, a6, a7, a8⟩ ⟨a10, 0, by decide, a9, fun t ht => absurd ht (Nat.not_lt_zero _)⟩ (fun p hp => ⟨?_, fun h => absurd h (by decide : ¬ (0 : Nat) = 1)⟩) ⟨fun f hf => absurd hf (Nat.not_lt_zero _), a13⟩ ⟨fun f hf => absurd hf (Nat.not_lt_zero _), a14⟩
    have hp2 : p = 0 ∨ p = 1 := by omega
    rcases hp2 with rfl | rfl
    · exact a11
    · exact a12
  · exact MR.mk ⟨a15, a16, a17, a18, fun f hf => absurd hf (Nat.not_lt_zero _), fun k hk => absurd hk (Nat.not_lt_zero _), fun k hk => absurd hk (Nat.not_lt_zero _)⟩ (fun j hj => zz_of a21 hj) ⟨fun p hp => zz_of a22 hp, fun j hj => zz_of a23 hj, fun j hj => zz_of a24 hj, fun p hp => zz_of a25 hp⟩ ⟨fun j hj => zz_of a26 hj, a19⟩ ⟨fun f hf => absurd hf (Nat.not_lt_zero _), a20⟩
theorem zck_of {o : Option (zRs ⊕ zSt)} (h : zck o = true) : ∃ s : zSt, o = some (.inr s) ∧ s.1 = 185 ∧ s.2.1 = 18 ∧ zlsk s.2.2.1 = true ∧ s.2.2.2.1 = [] ∧ s.2.2.2.2.1 = 197 ∧ zrk s.2.2.2.2.2.2.1 = true ∧ zik s.2.2.2.2.2.1 = true ∧ s.2.2.2.2.2.2.2 0 10 = s.2.2.2.2.2.2.2 173 31 := by
  cases o with
  | none => cases h
  | some q =>
    cases q with
    | inl x => cases h
    | inr s =>
      refine ⟨s, rfl, ?_⟩
      have h' : (decide (s.1 = 185) && (decide (s.2.1 = 18) && (zlsk s.2.2.1 && (s.2.2.2.1.isEmpty && (decide (s.2.2.2.2.1 = 197) && (zrk s.2.2.2.2.2.2.1 && (zik s.2.2.2.2.2.1 && decide (s.2.2.2.2.2.2.2 0 10 = s.2.2.2.2.2.2.2 173 31)))))))) = true := h
      rw [Bool.and_eq_true, Bool.and_eq_true, Bool.and_eq_true, Bool.and_eq_true, Bool.and_eq_true, Bool.and_eq_true, Bool.and_eq_true, decide_eq_true_iff, decide_eq_true_iff, decide_eq_true_iff, decide_eq_true_iff, List.isEmpty_iff] at h'
      exact h'
theorem zP0 : zPr zs0.2.2.2.2 := fun _ _ _ => rfl
theorem zstart_of {o : Option (zRs ⊕ zSt)} (ho : zrs 1000 zs0 = o) (h : zck o = true) (sc : zScr) : ∃ (i : Nat → Nat → Int32) (l : Nat → Nat → Int64), zev sc zs0 = zev sc (185, 18, zLl 0, [], (197, i, zRF false, l)) ∧ Rl zD0 i l := by
  obtain ⟨s, hs, h1, h2, h3, h4, h5, h6, h7, h8⟩ := zck_of h
  rw [hs] at ho
  have hz : zev sc zs0 = zev sc s := zrs_ok sc 1000 zs0 _ ho
  have hP : zPr s.2.2.2.2 := zrs_P 1000 zs0 _ zP0 ho
  obtain ⟨k, pc, ls, st, n, i, r, l⟩ := s
  have h1' : k = 185 := h1
  have h2' : pc = 18 := h2
  have h3' := zlsk_of (ls := ls) h3
  have h4' : st = [] := h4
  have h5' : n = 197 := h5
  have h6' := zrk_of h5' hP h6
  obtain ⟨hX, hM⟩ := zik_of (i := i) h7
  refine ⟨i, l, ?_, Inv0, hX, hM, h8⟩
  rw [hz, h1', h2', h3', h4', h5', h6']
  rfl
theorem zlaw1 {L : Nat} {xs : Nat → Int32} (hL : L ≤ 3584) : ∃ h' : zHp, zev (L, xs) zs0 = some (.int 1, h') ∧ h'.1 = 197 := by
  obtain ⟨i, l, h1, h2⟩ := zstart_of rfl zck_ok (L, xs)
  obtain ⟨h', h3, h4⟩ := law_loop (xs := xs) hL (L + 1) 0 zD0 i false l (by omega) (by decide) h2
  exact ⟨h', by rw [h1, h3], h4⟩
