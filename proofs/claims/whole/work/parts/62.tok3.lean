/-! downs: the model's step -/
theorem zby_255 : ∀ c, c < 256 → zby c &&& 255 = nI c := by decide +kernel
def zFm (i i' : Nat → Nat → Int32) : Prop := ∀ c t, (c ≠ 173 ∨ t < 14 ∨ 17 < t) → i' c t = i c t
theorem zFm.refl (i : Nat → Nat → Int32) : zFm i i := fun _ _ _ => rfl
theorem zFm.trans {i j k : Nat → Nat → Int32} (h1 : zFm i j) (h2 : zFm j k) : zFm i k := fun c t h => by rw [h2 c t h, h1 c t h]
theorem zFm.one {i j : Nat → Nat → Int32} (h : zFm i j) {t : Nat} (ht : 14 ≤ t ∧ t ≤ 17) (v : Int32) : zFm i (zU j 173 t v) := fun c u hu => by rw [zUn _ _ (by omega), h c u hu]
theorem MT.fm {S : zS} {i i' : Nat → Nat → Int32} (h : MT S i) (hf : zFm i i') : MT S i' := h.congr (fun c t z => hf c t (by omega))
def zhr (S : zS) (a : Nat) : Int32 := if a < S 17 0 then nI (S 16 a) else -9
theorem c_here (sc : zScr) {S : zS} (hn : S 17 0 ≤ 150) (hb : ∀ j, j < S 17 0 → S 16 j < 256) {a : Nat} (ha : a ≤ S 17 0) (b : Bool) (l : Nat → Nat → Int64) (i : Nat → Nat → Int32) (hT : MT S i) (h14 : i 173 14 = nI a) : zev sc (123, 0, [some (.ref 173)], [], (197, i, zRF b, l)) = some (.int (zhr S a), (197, i, zRF b, l)) := by
  unfold zhr
  rw [b123_0, hT.2, h14]
  by_cases h : a < S 17 0
  · rw [if_neg (zq_nle h (by omega)), if_pos h, b123_11 _ _ _ _ (by rw [h14]; exact vp_in_nI (by omega) (by decide)), h14, nI_clamp (by omega), hT.1 a h, zby_255 _ (hb a h), b123_29]
  · rw [if_pos ((nI_leI (by omega) (by omega)).mpr (by omega)), if_neg h, b123_27, b123_29]
theorem zhr_in {S : zS} (hb : ∀ j, j < S 17 0 → S 16 j < 256) {a : Nat} {lo hi : Nat} (hlo : lo < 2 ^ 31) (hhi : hi < 2 ^ 31) : (nI lo ≤ zhr S a ∧ zhr S a ≤ nI hi) ↔ (a < S 17 0 ∧ lo ≤ S 16 a ∧ S 16 a ≤ hi) := by
  unfold zhr
  by_cases h : a < S 17 0
  · have hc := hb a h
    rw [if_pos h, nI_leI hlo (by omega), nI_leI (by omega) hhi]
    exact ⟨fun z => ⟨h, z⟩, fun z => z.2⟩
  · rw [if_neg h]
    constructor
    · intro z
      have := Int32.le_iff_toInt_le.mp z.1
      rw [nI_toInt hlo, show (-9 : Int32).toInt = -9 from rfl] at this
      omega
    · exact fun z => absurd z.1 h
theorem c_inD (sc : zScr) {S : zS} (hb : ∀ j, j < S 17 0 → S 16 j < 256) (a : Nat) (b : Bool) (l : Nat → Nat → Int64) (i : Nat → Nat → Int32) : zev sc (119, 0, [some (.int (zhr S a)), some (.int 48), some (.int 57)], [], (197, i, zRF b, l)) = some (.int (if a < S 17 0 ∧ zDi (S 16 a) then 1 else 0), (197, i, zRF b, l)) := by
  rw [c_in, zifc (show (48 ≤ zhr S a ∧ zhr S a ≤ 57) ↔ (a < S 17 0 ∧ zDi (S 16 a)) from zhr_in hb (lo := 48) (hi := 57) (by decide) (by decide))]
theorem c_inL (sc : zScr) {S : zS} (hb : ∀ j, j < S 17 0 → S 16 j < 256) (a : Nat) (b : Bool) (l : Nat → Nat → Int64) (i : Nat → Nat → Int32) : zev sc (119, 0, [some (.int (zhr S a)), some (.int 97), some (.int 122)], [], (197, i, zRF b, l)) = some (.int (if a < S 17 0 ∧ zLe (S 16 a) then 1 else 0), (197, i, zRF b, l)) := by
  rw [c_in, zifc (show (97 ≤ zhr S a ∧ zhr S a ≤ 122) ↔ (a < S 17 0 ∧ zLe (S 16 a)) from zhr_in hb (lo := 97) (hi := 122) (by decide) (by decide))]
theorem c_mSk (sc : zScr) {S : zS} (hn : S 17 0 ≤ 150) (hb : ∀ j, j < S 17 0 → S 16 j < 256) (b : Bool) (l : Nat → Nat → Int64) : ∀ (k a : Nat) (i : Nat → Nat → Int32), S 17 0 - a = k → a ≤ S 17 0 → MT S i → i 173 14 = nI a → ∃ i', zev sc (124, 0, [some (.ref 173), none], [], (197, i, zRF b, l)) = zev sc (124, 22, [some (.ref 173), none], [], (197, i', zRF b, l)) ∧ i' 173 14 = nI (zst S a) ∧ zFm i i'
  | 0, a, i, hk, ha, hT, h14 => by
    refine ⟨i, ?_, by unfold zst; rw [zrc_out (by omega)]; exact h14, zFm.refl i⟩
    rw [b124_0, c_here sc hn hb ha b l i hT h14, Option.bind_some]
    dsimp only
    rw [b124_4, show zhr S a = -9 from if_neg (by omega), if_neg (by decide)]
  | k + 1, a, i, hk, ha, hT, h14 => by
    have hba := hb a (by omega)
    have hh : zev sc (124, 0, [some (.ref 173), none], [], (197, i, zRF b, l)) = if nI (S 16 a) = 32 then zev sc (124, 9, [some (.ref 173), none], [], (197, i, zRF b, l)) else zev sc (124, 22, [some (.ref 173), none], [], (197, i, zRF b, l)) := by
      rw [b124_0, c_here sc hn hb ha b l i hT h14, Option.bind_some]
      dsimp only
      rw [b124_4, show zhr S a = nI (S 16 a) from if_pos (by omega)]
    by_cases hs : S 16 a = 32
    · have hf : zFm i (zU i 173 14 (nI (a + 1))) := (zFm.refl i).one (by decide) _
      obtain ⟨i', p1, p2, p3⟩ := c_mSk sc hn hb b l k (a + 1) (zU i 173 14 (nI (a + 1))) (by omega) (by omega) (hT.fm hf) (by rw [zUs])
      refine ⟨i', ?_, ?_, hf.trans p3⟩
      · rw [hh, if_pos (show nI (S 16 a) = 32 by rw [hs]; rfl), b124_9, h14, nI_1, p1]
      · rw [p2]
        unfold zst
        rw [zrc_yes (P := zSp) (by omega) hs]
    · refine ⟨i, ?_, ?_, zFm.refl i⟩
      · rw [hh, if_neg (show ¬ nI (S 16 a) = 32 from fun z => hs ((nI_eq (b := 32) (by omega) (by decide)).mp z))]
      · rw [h14]
        unfold zst
        rw [zrc_no (P := zSp) (by omega) hs]
theorem c_mLt (sc : zScr) {S : zS} (hn : S 17 0 ≤ 150) (hb : ∀ j, j < S 17 0 → S 16 j < 256) (v1 : Int32) (b : Bool) (l : Nat → Nat → Int64) : ∀ (k a : Nat) (i : Nat → Nat → Int32), S 17 0 - a = k → a ≤ S 17 0 → MT S i → i 173 14 = nI a → ∃ i', zev sc (124, 178, [some (.ref 173), some (.int v1)], [], (197, i, zRF b, l)) = zev sc (124, 205, [some (.ref 173), some (.int v1)], [], (197, i', zRF b, l)) ∧ i' 173 14 = nI (zrc S zLe a) ∧ i' 173 15 = i 173 15 ∧ zFm i i'
  | 0, a, i, hk, ha, hT, h14 => by
    refine ⟨i, ?_, by rw [zrc_out (by omega)]; exact h14, rfl, zFm.refl i⟩
    rw [b124_178, c_here sc hn hb ha b l i hT h14, Option.bind_some]
    dsimp only
    rw [b124_182, c_inL sc hb, Option.bind_some]
    dsimp only
    rw [b124_189, if_neg (show ¬ (a < S 17 0 ∧ zLe (S 16 a)) from fun z => by have := z.1; omega), if_pos rfl]
  | k + 1, a, i, hk, ha, hT, h14 => by
    have hba := hb a (by omega)
    have hh : zev sc (124, 178, [some (.ref 173), some (.int v1)], [], (197, i, zRF b, l)) = zev sc (124, 189, [some (.ref 173), some (.int v1)], [.int (if a < S 17 0 ∧ zLe (S 16 a) then 1 else 0)], (197, i, zRF b, l)) := by
      rw [b124_178, c_here sc hn hb ha b l i hT h14, Option.bind_some]
      dsimp only
      rw [b124_182, c_inL sc hb, Option.bind_some]
    by_cases hs : zLe (S 16 a)
    · have hf : zFm i (zU i 173 14 (nI (a + 1))) := (zFm.refl i).one (by decide) _
      obtain ⟨i', p1, p2, p3, p4⟩ := c_mLt sc hn hb v1 b l k (a + 1) (zU i 173 14 (nI (a + 1))) (by omega) (by omega) (hT.fm hf) (by rw [zUs])
      refine ⟨i', ?_, by rw [p2, ← zrc_yes (P := zLe) (by omega) hs], by rw [p3, zUn _ _ (Or.inr (by decide))], hf.trans p4⟩
      rw [hh, if_pos ⟨by omega, hs⟩, b124_189, if_neg (by decide), b124_192, h14, nI_1, p1]
    · refine ⟨i, ?_, by rw [zrc_no (P := zLe) (by omega) hs]; exact h14, rfl, zFm.refl i⟩
      rw [hh, if_neg (show ¬ (a < S 17 0 ∧ zLe (S 16 a)) from fun z => hs z.2), b124_189, if_pos rfl]
theorem c_mDg (sc : zScr) {S : zS} (hn : S 17 0 ≤ 150) (hb : ∀ j, j < S 17 0 → S 16 j < 256) (v1 : Int32) (b : Bool) (l : Nat → Nat → Int64) : ∀ (k a v : Nat) (i : Nat → Nat → Int32), S 17 0 - a = k → a ≤ S 17 0 → v ≤ 999 → MT S i → i 173 14 = nI a → i 173 17 = nI v → ∃ i', zev sc (124, 65, [some (.ref 173), some (.int v1)], [], (197, i, zRF b, l)) = zev sc (124, 127, [some (.ref 173), some (.int v1)], [], (197, i', zRF b, l)) ∧ i' 173 14 = nI (zrc S zDi a) ∧ i' 173 15 = i 173 15 ∧ i' 173 17 = nI (zdg S (S 17 0 - a) a v) ∧ zFm i i'
  | 0, a, v, i, hk, ha, hv, hT, h14, h17 => by
    refine ⟨i, ?_, by rw [zrc_out (by omega)]; exact h14, rfl, by rw [zdg_out (by omega)]; exact h17, zFm.refl i⟩
    rw [b124_65, c_here sc hn hb ha b l i hT h14, Option.bind_some]
    dsimp only
    rw [b124_69, c_inD sc hb, Option.bind_some]
    dsimp only
    rw [b124_76, if_neg (show ¬ (a < S 17 0 ∧ zDi (S 16 a)) from fun z => by have := z.1; omega), if_pos rfl]
  | k + 1, a, v, i, hk, ha, hv, hT, h14, h17 => by
    have hba := hb a (by omega)
    have hh : zev sc (124, 65, [some (.ref 173), some (.int v1)], [], (197, i, zRF b, l)) = zev sc (124, 76, [some (.ref 173), some (.int v1)], [.int (if a < S 17 0 ∧ zDi (S 16 a) then 1 else 0)], (197, i, zRF b, l)) := by
      rw [b124_65, c_here sc hn hb ha b l i hT h14, Option.bind_some]
      dsimp only
      rw [b124_69, c_inD sc hb, Option.bind_some]
    by_cases hs : zDi (S 16 a)
    · have hs1 := hs.1
      have hs2 := hs.2
      have hf : ∀ u, zFm i (zU (zU i 173 17 u) 173 14 (nI (a + 1))) := fun u => ((zFm.refl i).one (by decide) _).one (by decide) _
      obtain ⟨i', p1, p2, p3, p4, p5⟩ := c_mDg sc hn hb v1 b l k (a + 1) (if 99 < v then v else 10 * v + S 16 a - 48) (zU (zU i 173 17 (nI (if 99 < v then v else 10 * v + S 16 a - 48))) 173 14 (nI (a + 1))) (by omega) (by omega) (by split <;> omega) (hT.fm (hf _)) (by rw [zUs]) (by rw [zUn _ _ (Or.inr (by decide)), zUs])
      refine ⟨i', ?_, by rw [p2, ← zrc_yes (P := zDi) (by omega) hs], by rw [p3, zUn _ _ (Or.inr (by decide)), zUn _ _ (Or.inr (by decide))], by rw [p4, zdg_yes (by omega) hs], (hf _).trans p5⟩
      have h111 : zev sc (124, 79, [some (.ref 173), some (.int v1)], [], (197, i, zRF b, l)) = zev sc (124, 111, [some (.ref 173), some (.int v1)], [.int (nI (if 99 < v then v else 10 * v + S 16 a - 48)), .ref 173], (197, i, zRF b, l)) := by
        rw [b124_79, h17]
        by_cases h99 : 99 < v
        · rw [if_neg (show ¬ nI v ≤ 99 from zq_nle (b := 99) h99 (by omega)), b124_89, h17, if_pos h99]
        · rw [if_pos (show nI v ≤ 99 from (nI_leI (b := 99) (by omega) (by decide)).mpr (by omega)), b124_96, c_here sc hn hb ha b l i hT h14, Option.bind_some]
          dsimp only
          rw [b124_107, h17, show zhr S a = nI (S 16 a) from if_pos (by omega), L10, zmul, nI_add, L48, pk_sub (by omega), if_neg h99]
      rw [hh, if_pos ⟨by omega, hs⟩, b124_76, if_neg (by decide), h111, b124_111, zUn (f := i) (a := 173) (j := 17) _ (q := 173) (t := 14) (Or.inr (by decide)), h14, nI_1, p1]
    · refine ⟨i, ?_, by rw [zrc_no (P := zDi) (by omega) hs]; exact h14, rfl, by rw [zdg_no (by omega) hs]; exact h17, zFm.refl i⟩
      rw [hh, if_neg (show ¬ (a < S 17 0 ∧ zDi (S 16 a)) from fun z => hs z.2), b124_76, if_pos rfl]
def zms (n : Nat) : Nat := if n = 0 then 4 else if n = 4 then 5 else n
/-- the token at a is read -/
def MK (S : zS) (a : Nat) (i : Nat → Nat → Int32) : Prop := i 173 14 = nI (zen S a) ∧ i 173 15 = nI (zst S a) ∧ i 173 16 = nI (zms (zso S a)) ∧ (zso S a = 1 ∨ zso S a = 2 → i 173 17 = nI (zva S a))
theorem c_mStep (sc : zScr) {S : zS} (hn : S 17 0 ≤ 150) (hb : ∀ j, j < S 17 0 → S 16 j < 256) {a : Nat} (ha : a ≤ S 17 0) (b : Bool) (l : Nat → Nat → Int64) (i : Nat → Nat → Int32) (hT : MT S i) (h14 : i 173 14 = nI a) : ∃ i', zev sc (124, 0, [some (.ref 173), none], [], (197, i, zRF b, l)) = some (.null, (197, i', zRF b, l)) ∧ MK S a i' ∧ zFm i i' := by
  obtain ⟨i1, p1, p2, p3⟩ := c_mSk sc hn hb b l (S 17 0 - a) a i rfl ha hT h14
  have hs := (zst_ge S a).2 ha
  have hf2 : zFm i (zU (zU i1 173 15 (nI (zst S a))) 173 17 0) := (p3.one (by decide) _).one (by decide) _
  have hT2 : MT S (zU (zU i1 173 15 (nI (zst S a))) 173 17 0) := hT.fm hf2
  have q14 : zU (zU i1 173 15 (nI (zst S a))) 173 17 0 173 14 = nI (zst S a) := by rw [zUn _ _ (Or.inr (by decide)), zUn _ _ (Or.inr (by decide)), p2]
  have q15 : zU (zU i1 173 15 (nI (zst S a))) 173 17 0 173 15 = nI (zst S a) := by rw [zUn _ _ (Or.inr (by decide)), zUs]
  have q17 : zU (zU i1 173 15 (nI (zst S a))) 173 17 0 173 17 = nI 0 := by rw [zUs]; rfl
  have h39 : zev sc (124, 0, [some (.ref 173), none], [], (197, i, zRF b, l)) = zev sc (124, 39, [some (.ref 173), none], [.int (zhr S (zst S a))], (197, zU (zU i1 173 15 (nI (zst S a))) 173 17 0, zRF b, l)) := by
    rw [p1, b124_22, p2, c_here sc hn hb hs b l _ hT2 q14, Option.bind_some]
  by_cases c1 : S 17 0 ≤ zst S a
  · have e1 : zso S a = 0 := if_pos c1
    have e2 : zen S a = zst S a := if_pos c1
    refine ⟨zU (zU (zU i1 173 15 (nI (zst S a))) 173 17 0) 173 16 4, ?_, ⟨?_, ?_, ?_, ?_⟩, hf2.one (by decide) _⟩
    · rw [h39, show zhr S (zst S a) = -9 from if_neg (by omega), b124_39, if_pos rfl, b124_46, b124_260]
    · rw [zUn _ _ (Or.inr (by decide)), q14, e2]
    · rw [zUn _ _ (Or.inr (by decide)), q15]
    · rw [zUs, e1]
      rfl
    · intro z
      omega
  have hlt : zst S a < S 17 0 := by omega
  have hc := hb _ hlt
  have ehr : zhr S (zst S a) = nI (S 16 (zst S a)) := if_pos hlt
  have h62 : zev sc (124, 0, [some (.ref 173), none], [], (197, i, zRF b, l)) = zev sc (124, 62, [some (.ref 173), some (.int (nI (S 16 (zst S a))))], [.int (if zDi (S 16 (zst S a)) then 1 else 0)], (197, zU (zU i1 173 15 (nI (zst S a))) 173 17 0, zRF b, l)) := by
    have g := c_inD sc hb (zst S a) b l (zU (zU i1 173 15 (nI (zst S a))) 173 17 0)
    rw [ehr, zifc (show (zst S a < S 17 0 ∧ zDi (S 16 (zst S a))) ↔ zDi (S 16 (zst S a)) from ⟨fun z => z.2, fun z => ⟨hlt, z⟩⟩)] at g
    rw [h39, ehr, b124_39, if_neg (nI_ne9 (by omega)), b124_54, g, Option.bind_some]
  by_cases c3 : zDi (S 16 (zst S a))
  · have c2 : ¬ zLe (S 16 (zst S a)) := fun z => by have := z.1; have := c3.2; omega
    have e1 : zso S a = if (S 16 (zst S a) = 48 ∧ 1 < zrc S zDi (zst S a) - zst S a) ∨ 99 < zdv1 S (zst S a) then 4 else 2 := (if_neg c1).trans ((if_neg c2).trans (if_pos c3))
    have e2 : zen S a = zrc S zDi (zst S a) := (if_neg c1).trans ((if_neg c2).trans (if_pos c3))
    have e3 : zva S a = zdv1 S (zst S a) := if_neg c2
    have hg := zrc_ge S zDi (zst S a)
    have hle : zdv1 S (zst S a) ≤ 999 := zdg_le S _ _ 0 (by decide)
    obtain ⟨i', r1, r2, r3, r4, r5⟩ := c_mDg sc hn hb (nI (S 16 (zst S a))) b l (S 17 0 - zst S a) (zst S a) 0 (zU (zU i1 173 15 (nI (zst S a))) 173 17 0) rfl hs (by decide) hT2 q14 q17
    have r4' : i' 173 17 = nI (zdv1 S (zst S a)) := r4
    have r3' : i' 173 15 = nI (zst S a) := by rw [r3, q15]
    have htail : zev sc (124, 127, [some (.ref 173), some (.int (nI (S 16 (zst S a))))], [], (197, i', zRF b, l)) = some (.null, (197, zU i' 173 16 (nI (zms (zso S a))), zRF b, l)) := by
      rw [b124_127, r4', e1]
      by_cases d2 : 99 < zdv1 S (zst S a)
      · rw [if_pos (show (99 : Int32) < nI (zdv1 S (zst S a)) from (nI_ltI (a := 99) (by decide) (by omega)).mpr d2), if_pos (Or.inr d2), b124_156, b124_161, b124_260]
        rfl
      · rw [if_neg (show ¬ (99 : Int32) < nI (zdv1 S (zst S a)) from nI_nlt (a := 99) (by omega) (by decide)), b124_137]
        by_cases d1 : S 16 (zst S a) = 48
        · rw [if_pos (show nI (S 16 (zst S a)) = 48 by rw [d1]; rfl), b124_143, r2, r3', pk_sub hg.1]
          by_cases d3 : 1 < zrc S zDi (zst S a) - zst S a
          · rw [if_neg (show ¬ nI (zrc S zDi (zst S a) - zst S a) ≤ 1 from zq_nle (b := 1) d3 (by omega)), b124_156, b124_161, b124_260, if_pos (Or.inl ⟨d1, d3⟩)]
            rfl
          · rw [if_pos (show nI (zrc S zDi (zst S a) - zst S a) ≤ 1 from (nI_leI (b := 1) (by omega) (by decide)).mpr (by omega)), b124_160, b124_161, b124_260, if_neg (fun z => z.elim (fun z => d3 z.2) d2)]
            rfl
        · rw [if_neg (show ¬ nI (S 16 (zst S a)) = 48 from fun z => d1 ((nI_eq (b := 48) (by omega) (by decide)).mp z)), b124_160, b124_161, b124_260, if_neg (fun z => z.elim (fun z => d1 z.1) d2)]
          rfl
    refine ⟨zU i' 173 16 (nI (zms (zso S a))), ?_, ⟨?_, ?_, ?_, ?_⟩, (hf2.trans r5).one (by decide) _⟩
    · rw [h62, if_pos c3, b124_62, if_neg (by decide), r1, htail]
    · rw [zUn _ _ (Or.inr (by decide)), r2, e2]
    · rw [zUn _ _ (Or.inr (by decide)), r3']
    · rw [zUs]
    · intro _
      rw [zUn _ _ (Or.inr (by decide)), r4', e3]
  have h175 : zev sc (124, 0, [some (.ref 173), none], [], (197, i, zRF b, l)) = zev sc (124, 175, [some (.ref 173), some (.int (nI (S 16 (zst S a))))], [.int (if zLe (S 16 (zst S a)) then 1 else 0)], (197, zU (zU i1 173 15 (nI (zst S a))) 173 17 0, zRF b, l)) := by
    have g := c_inL sc hb (zst S a) b l (zU (zU i1 173 15 (nI (zst S a))) 173 17 0)
    rw [ehr, zifc (show (zst S a < S 17 0 ∧ zLe (S 16 (zst S a))) ↔ zLe (S 16 (zst S a)) from ⟨fun z => z.2, fun z => ⟨hlt, z⟩⟩)] at g
    rw [h62, if_neg c3, b124_62, if_pos rfl, b124_167, g, Option.bind_some]
  by_cases c2 : zLe (S 16 (zst S a))
  · have e1 : zso S a = 1 := (if_neg c1).trans (if_pos c2)
    have e2 : zen S a = zrc S zLe (zst S a) := (if_neg c1).trans (if_pos c2)
    have e3 : zva S a = if zrc S zLe (zst S a) - zst S a = 1 then S 16 (zst S a) else 0 := if_pos c2
    have hg := zrc_ge S zLe (zst S a)
    obtain ⟨i', r1, r2, r3, r4⟩ := c_mLt sc hn hb (nI (S 16 (zst S a))) b l (S 17 0 - zst S a) (zst S a) (zU (zU i1 173 15 (nI (zst S a))) 173 17 0) rfl hs hT2 q14
    have r3' : i' 173 15 = nI (zst S a) := by rw [r3, q15]
    refine ⟨zU (zU i' 173 17 (nI (zva S a))) 173 16 1, ?_, ⟨?_, ?_, ?_, ?_⟩, ((hf2.trans r4).one (by decide) _).one (by decide) _⟩
    · rw [h175, if_pos c2, b124_175, if_neg (by decide), r1, b124_205, r2, r3', pk_sub hg.1, e3]
      by_cases d : zrc S zLe (zst S a) - zst S a = 1
      · rw [if_pos (show nI (zrc S zLe (zst S a) - zst S a) = 1 by rw [d]; rfl), if_pos d, b124_219, b124_224, b124_260]
      · rw [if_neg (show ¬ nI (zrc S zLe (zst S a) - zst S a) = 1 from fun z => d ((nI_eq (b := 1) (by omega) (by decide)).mp z)), if_neg d, b124_223, b124_224, b124_260]
        rfl
    · rw [zUn _ _ (Or.inr (by decide)), zUn _ _ (Or.inr (by decide)), r2, e2]
    · rw [zUn _ _ (Or.inr (by decide)), zUn _ _ (Or.inr (by decide)), r3']
    · rw [zUs, e1]
      rfl
    · intro _
      rw [zUn _ _ (Or.inr (by decide)), zUs]
  · have e2 : zen S a = zst S a + 1 := (if_neg c1).trans ((if_neg c2).trans (if_neg c3))
    have e1 : zso S a = if S 16 (zst S a) = 59 then 3 else 4 := (if_neg c1).trans ((if_neg c2).trans (if_neg c3))
    refine ⟨zU (zU (zU (zU i1 173 15 (nI (zst S a))) 173 17 0) 173 14 (nI (zst S a + 1))) 173 16 (nI (zms (zso S a))), ?_, ⟨?_, ?_, ?_, ?_⟩, (hf2.one (by decide) _).one (by decide) _⟩
    · rw [h175, if_neg c2, b124_175, if_pos rfl, b124_235, q14, nI_1, e1]
      by_cases d : S 16 (zst S a) = 59
      · rw [if_pos (show nI (S 16 (zst S a)) = 59 by rw [d]; rfl), if_pos d, b124_252, b124_257, b124_260]
        rfl
      · rw [if_neg (show ¬ nI (S 16 (zst S a)) = 59 from fun z => d ((nI_eq (b := 59) (by omega) (by decide)).mp z)), if_neg d, b124_256, b124_257, b124_260]
        rfl
    · rw [zUn _ _ (Or.inr (by decide)), zUs, e2]
    · rw [zUn _ _ (Or.inr (by decide)), zUn _ _ (Or.inr (by decide)), q15]
    · rw [zUs]
    · intro z
      rw [e1] at z
      by_cases d : S 16 (zst S a) = 59
      · rw [if_pos d] at z
        omega
      · rw [if_neg d] at z
        omega
