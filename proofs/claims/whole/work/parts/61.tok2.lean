/-! downs: the class's step -/
theorem c_xStep (sc : zScr) {S : zS} (hn : S 17 0 ≤ 150) (hb : ∀ j, j < S 17 0 → S 16 j < 256) {a : Nat} (ha : a ≤ S 17 0) (b : Bool) (l : Nat → Nat → Int64) (i : Nat → Nat → Int32) (hT : XT S i) (h2 : i 1 2 = nI a) : ∃ i', zev sc (68, 0, [some (.ref 1)], [], (197, i, zRF b, l)) = some (.null, (197, i', zRF b, l)) ∧ i' 1 2 = nI (zen S a) ∧ i' 1 3 = nI (zso S a) ∧ i' 1 4 = nI (zst S a) ∧ (zso S a = 1 ∨ zso S a = 2 → i' 1 5 = nI (zva S a)) ∧ zFx i i' := by
  obtain ⟨i1, p1, p2, p3⟩ := c_xSk sc hn hb b l (S 17 0 - a) a i rfl ha hT h2
  have hs := (zst_ge S a).2 ha
  have hf2 : zFx i (zU i1 1 4 (nI (zst S a))) := p3.one (by decide) _
  have hT2 : XT S (zU i1 1 4 (nI (zst S a))) := hT.fx hf2
  have q2 : zU i1 1 4 (nI (zst S a)) 1 2 = nI (zst S a) := by rw [zUn _ _ (Or.inr (by decide)), p2]
  have h38 : zev sc (68, 0, [some (.ref 1)], [], (197, i, zRF b, l)) = if nI (zst S a) < nI (S 17 0) then zev sc (68, 65, [some (.ref 1)], [], (197, zU i1 1 4 (nI (zst S a)), zRF b, l)) else zev sc (68, 57, [some (.ref 1)], [], (197, zU i1 1 4 (nI (zst S a)), zRF b, l)) := by
    rw [p1, b68_38, p2, q2, hT2.2]
  have en : ∀ v w, zso S a = v → zen S a = w → zen S a = w ∧ zso S a = v := fun v w h1 h2 => ⟨h2, h1⟩
  by_cases c1 : S 17 0 ≤ zst S a
  · have e1 : zso S a = 0 := if_pos c1
    have e2 : zen S a = zst S a := if_pos c1
    refine ⟨zU (zU i1 1 4 (nI (zst S a))) 1 3 0, ?_, ?_, ?_, ?_, ?_, hf2.one (by decide) _⟩
    · rw [h38, if_neg (nI_nlt c1 (by omega)), b68_57, b68_142]
    · rw [zUn _ _ (Or.inr (by decide)), q2, e2]
    · rw [zUs, e1]
      rfl
    · rw [zUn _ _ (Or.inr (by decide)), zUs]
    · intro z
      omega
  have hlt : zst S a < S 17 0 := by omega
  have hc := hb _ hlt
  have hvp : vp_in (nI (zst S a)) 150 := vp_in_nI (by omega) (by decide)
  have hcl : (nI (zst S a)).toNatClampNeg = zst S a := nI_clamp (by omega)
  have h77 : zev sc (68, 0, [some (.ref 1)], [], (197, i, zRF b, l)) = zev sc (68, 77, [some (.ref 1)], [.int (if zLe (S 16 (zst S a)) then 1 else 0)], (197, zU i1 1 4 (nI (zst S a)), zRF b, l)) := by
    rw [h38, if_pos ((nI_ltI (by omega) (by omega)).mpr hlt), b68_65 _ _ _ _ (by rw [q2]; exact hvp), q2, hcl, hT2.1 _ hlt, c_isL sc (by omega), Option.bind_some]
  by_cases c2 : zLe (S 16 (zst S a))
  · have e1 : zso S a = 1 := (if_neg c1).trans (if_pos c2)
    have e2 : zen S a = zrc S zLe (zst S a + 1) := ((if_neg c1).trans (if_pos c2)).trans (zrc_yes hlt c2)
    have e3 : zva S a = if zrc S zLe (zst S a + 1) = zst S a + 1 then S 16 (zst S a) else 0 := by
      have hg := (zrc_ge S zLe (zst S a + 1)).1
      rw [show zva S a = _ from if_pos c2, zrc_yes hlt c2]
      exact zifc (by omega)
    have hf3 : zFx i (zU (zU (zU (zU i1 1 4 (nI (zst S a))) 1 3 1) 1 5 (nI (S 16 (zst S a)))) 1 2 (nI (zst S a + 1))) := ((hf2.one (by decide) _).one (by decide) _).one (by decide) _
    obtain ⟨i', r1, r2, r3, r4, r5, r6⟩ := c_xLt sc hn hb b l (S 17 0 - (zst S a + 1)) (zst S a + 1) (zU (zU (zU (zU i1 1 4 (nI (zst S a))) 1 3 1) 1 5 (nI (S 16 (zst S a)))) 1 2 (nI (zst S a + 1))) rfl (by omega) (hT.fx hf3) (by rw [zUs])
    have g4 : zU (zU i1 1 4 (nI (zst S a))) 1 3 1 1 4 = nI (zst S a) := by rw [zUn _ _ (Or.inr (by decide)), zUs]
    have g2 : zU (zU i1 1 4 (nI (zst S a))) 1 3 1 2 (zst S a) = nI (S 16 (zst S a)) := by rw [zUn _ _ (Or.inl (by decide)), hT2.1 _ hlt]
    refine ⟨i', ?_, by rw [r2, e2], ?_, ?_, fun _ => ?_, hf3.trans r6⟩
    · rw [h77, if_pos c2, b68_77, if_neg (by decide), b68_80, b69_0 _ _ _ _ (by rw [g4]; exact hvp), g4, hcl, g2, zUn (f := zU (zU i1 1 4 (nI (zst S a))) 1 3 1) (a := 1) (j := 5) _ (q := 1) (t := 2) (Or.inr (by decide)), zUn (f := zU i1 1 4 (nI (zst S a))) (a := 1) (j := 3) _ (q := 1) (t := 2) (Or.inr (by decide)), q2, nI_1, r1, Option.bind_some]
      dsimp only
      rw [b68_84, b68_142]
    · rw [r3, zUn _ _ (Or.inr (by decide)), zUn _ _ (Or.inr (by decide)), zUs, e1]
      rfl
    · rw [r4, zUn _ _ (Or.inr (by decide)), zUn _ _ (Or.inr (by decide)), g4]
    · rw [r5, e3, zUn _ _ (Or.inr (by decide)), zUs]
      by_cases q : zrc S zLe (zst S a + 1) = zst S a + 1
      · rw [if_pos q, if_pos q]
      · rw [if_neg q, if_neg q]
        rfl
  have h99 : zev sc (68, 0, [some (.ref 1)], [], (197, i, zRF b, l)) = zev sc (68, 99, [some (.ref 1)], [.int (if zDi (S 16 (zst S a)) then 1 else 0)], (197, zU i1 1 4 (nI (zst S a)), zRF b, l)) := by
    rw [h77, if_neg c2, b68_77, if_pos rfl, b68_87 _ _ _ _ (by rw [q2]; exact hvp), q2, hcl, hT2.1 _ hlt, c_isD sc (by omega), Option.bind_some]
  by_cases c3 : zDi (S 16 (zst S a))
  · have e1 : zso S a = if (S 16 (zst S a) = 48 ∧ 1 < zrc S zDi (zst S a) - zst S a) ∨ 99 < zdv1 S (zst S a) then 4 else 2 := (if_neg c1).trans ((if_neg c2).trans (if_pos c3))
    have e2 : zen S a = zrc S zDi (zst S a) := (if_neg c1).trans ((if_neg c2).trans (if_pos c3))
    have e3 : zva S a = zdv1 S (zst S a) := if_neg c2
    have hg := zrc_ge S zDi (zst S a)
    have hf3 : zFx i (zU (zU i1 1 4 (nI (zst S a))) 1 5 0) := hf2.one (by decide) _
    have hT3 : XT S (zU (zU i1 1 4 (nI (zst S a))) 1 5 0) := hT.fx hf3
    obtain ⟨i', r1, r2, r3, r4, r5, r6⟩ := c_xDg sc hn hb b l (S 17 0 - zst S a) (zst S a) 0 (zU (zU i1 1 4 (nI (zst S a))) 1 5 0) rfl hs (by decide) hT3 (by rw [zUn _ _ (Or.inr (by decide)), q2]) (by rw [zUs]; rfl)
    have r5' : i' 1 5 = nI (zcap (zdv1 S (zst S a))) := r5
    have hle : zdv1 S (zst S a) ≤ 999 := zdg_le S _ _ 0 (by decide)
    have hcap : zcap (zdv1 S (zst S a)) < 2 ^ 31 := by unfold zcap; split <;> omega
    have r4' : i' 1 4 = nI (zst S a) := by rw [r4, zUn _ _ (Or.inr (by decide)), zUs]
    have hf4 : zFx i i' := hf3.trans r6
    have hT4 : XT S i' := hT.fx hf4
    have htail : zev sc (70, 73, [some (.ref 1), none], [], (197, i', zRF b, l)) = some (.null, (197, zU i' 1 3 (nI (zso S a)), zRF b, l)) := by
      have hz : ∃ v : Int32, zev sc (70, 73, [some (.ref 1), none], [], (197, i', zRF b, l)) = (if S 16 (zst S a) = 48 ∧ 1 < zrc S zDi (zst S a) - zst S a then zev sc (70, 120, [some (.ref 1), some (.int v)], [.ref 1], (197, i', zRF b, l)) else zev sc (70, 111, [some (.ref 1), some (.int v)], [.ref 1], (197, i', zRF b, l))) := by
        rw [b70_73 _ _ _ _ (by rw [r4']; exact hvp), r4', hcl, hT4.1 _ hlt]
        by_cases d1 : S 16 (zst S a) = 48
        · rw [if_pos (show nI (S 16 (zst S a)) = 48 by rw [d1]; rfl), b70_87, r2, r4', pk_sub hg.1]
          by_cases d2 : 1 < zrc S zDi (zst S a) - zst S a
          · refine ⟨1, ?_⟩
            rw [if_neg (show ¬ nI (zrc S zDi (zst S a) - zst S a) ≤ 1 from zq_nle (b := 1) d2 (by omega)), b70_100, b70_105, if_neg (by decide), if_pos ⟨d1, d2⟩]
          · refine ⟨0, ?_⟩
            rw [if_pos (show nI (zrc S zDi (zst S a) - zst S a) ≤ 1 from (nI_leI (b := 1) (by omega) (by decide)).mpr (by omega)), b70_104, b70_105, if_pos rfl, if_neg (fun z => d2 z.2)]
        · refine ⟨0, ?_⟩
          rw [if_neg (show ¬ nI (S 16 (zst S a)) = 48 from fun z => d1 ((nI_eq (b := 48) (by omega) (by decide)).mp z)), b70_104, b70_105, if_pos rfl, if_neg (fun z => d1 z.1)]
      obtain ⟨v, hz⟩ := hz
      rw [hz, e1]
      by_cases d1 : S 16 (zst S a) = 48 ∧ 1 < zrc S zDi (zst S a) - zst S a
      · rw [if_pos d1, if_pos (Or.inl d1), b70_120, b70_125]
        rfl
      · rw [if_neg d1, b70_111, r5']
        by_cases d2 : 99 < zdv1 S (zst S a)
        · rw [if_neg (show ¬ nI (zcap (zdv1 S (zst S a))) ≤ 99 from zq_nle (b := 99) (by unfold zcap; split <;> omega) hcap), b70_120, b70_125, if_pos (Or.inr d2)]
          rfl
        · rw [if_pos (show nI (zcap (zdv1 S (zst S a))) ≤ 99 from (nI_leI (b := 99) hcap (by decide)).mpr (by unfold zcap; split <;> omega)), b70_124, b70_125, if_neg (fun z => z.elim d1 d2)]
          rfl
    refine ⟨zU i' 1 3 (nI (zso S a)), ?_, ?_, by rw [zUs], ?_, ?_, hf4.one (by decide) _⟩
    · rw [h99, if_pos c3, b68_99, if_neg (by decide), b68_102, b70_0, r1, htail, Option.bind_some]
      dsimp only
      rw [b68_106, b68_142]
    · rw [zUn _ _ (Or.inr (by decide)), r2, e2]
    · rw [zUn _ _ (Or.inr (by decide)), r4']
    · intro z
      have hv : ¬ 99 < zdv1 S (zst S a) := by
        intro y
        rw [e1, if_pos (Or.inr y)] at z
        omega
      rw [zUn _ _ (Or.inr (by decide)), r5', e3]
      unfold zcap
      rw [if_pos (by omega)]
  · have e2 : zen S a = zst S a + 1 := (if_neg c1).trans ((if_neg c2).trans (if_neg c3))
    have e1 : zso S a = if S 16 (zst S a) = 59 then 3 else 4 := (if_neg c1).trans ((if_neg c2).trans (if_neg c3))
    have e1' : nI (zso S a) = if S 16 (zst S a) = 59 then (3 : Int32) else 4 := by
      rw [e1]
      split <;> rfl
    refine ⟨zU (zU (zU i1 1 4 (nI (zst S a))) 1 3 (nI (zso S a))) 1 2 (nI (zst S a + 1)), ?_, by rw [zUs, e2], by rw [zUn _ _ (Or.inr (by decide)), zUs], by rw [zUn _ _ (Or.inr (by decide)), zUn _ _ (Or.inr (by decide)), zUs], ?_, (hf2.one (by decide) _).one (by decide) _⟩
    · have h129 : zev sc (68, 0, [some (.ref 1)], [], (197, i, zRF b, l)) = zev sc (68, 129, [some (.ref 1)], [.int (nI (zso S a)), .ref 1], (197, zU i1 1 4 (nI (zst S a)), zRF b, l)) := by
        rw [h99, if_neg c3, b68_99, if_pos rfl, b68_109 _ _ _ _ (by rw [q2]; exact hvp), q2, hcl, hT2.1 _ hlt, e1']
        by_cases d : S 16 (zst S a) = 59
        · rw [if_pos (show nI (S 16 (zst S a)) = 59 by rw [d]; rfl), if_pos d, b68_124]
        · rw [if_neg (show ¬ nI (S 16 (zst S a)) = 59 from fun z => d ((nI_eq (b := 59) (by omega) (by decide)).mp z)), if_neg d, b68_128]
      rw [h129, b68_129, zUn (f := zU i1 1 4 (nI (zst S a))) (a := 1) (j := 3) _ (q := 1) (t := 2) (Or.inr (by decide)), q2, nI_1, b68_142]
    · intro z
      rw [e1] at z
      by_cases d : S 16 (zst S a) = 59
      · rw [if_pos d] at z
        omega
      · rw [if_neg d] at z
        omega
