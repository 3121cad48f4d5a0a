/-! herd -/
theorem c_mTab (sc : zScr) {S : zS} (hI : Inv S) (v1 : Int32) (b : Bool) (l : Nat → Nat → Int64) (i : Nat → Nat → Int32) (hM : MR S i) : ∃ i' w3 w4 w5 w6, zev sc (175, 15, [some (.ref 173), some (.int v1), none, none, none, none, none], [], (197, i, zRF b, l)) = zev sc (175, 158, [some (.ref 173), some (.int v1), some (.int (-1)), w3, w4, w5, w6], [], (197, i', zRF b, l)) ∧ (∀ q, q ≤ S 3 0 → ∀ t, t < 2 ^ S 0 0 → i' 196 (256 * q + t) = sHm S (S 3 0 - q) t) ∧ ∀ c j, c ≠ 196 → i' c j = i c j := by
  have hF := hI.F
  have hB := hI.B
  have hA := z2p hF.2
  obtain ⟨i1, p1, p2, p3⟩ := c_mH0 sc hI v1 b l (2 ^ S 0 0) 0 i (by omega) hM (fun u hu => absurd hu (Nat.not_lt_zero _))
  have hM1 : MR S i1 := hM.congr hI (fun c j z => p3 c j (by unfold mrd at z; omega))
  obtain ⟨i', w3, w4, w5, w6, q1, q2, q3⟩ := c_mHk sc hI v1 b l (S 3 0) i1 none none none none (Nat.le_refl _) hM1 (fun q h1 h2 t ht => by
    have e : q = S 3 0 := by omega
    have hz : zpc t ≤ S 0 0 := by
      rw [zpc_F hF.2 ht]
      exact zbt_sum_le t _
    rw [e, p2 t ht, Nat.sub_self, show sHm S 0 t = nI (sHw S 0 t) from if_pos (by omega)]
    rfl)
  refine ⟨i', w3, w4, w5, w6, ?_, q2, fun c j h => by rw [q3 c j h, p3 c j h]⟩
  rw [show nI 0 = 0 from rfl] at p1
  rw [b175_15, p1, b175_54, hM1.B, q1]
theorem op_herd (sc : zScr) {S : zS} {i : Nat → Nat → Int32} (b : Bool) {l : Nat → Nat → Int64} (h : Rl S i l) (w : Int32) : zOp sc 98 175 [some (.ref 0), some (.int w)] [some (.ref 173), some (.int w), none, none, none, none, none] i b l := by
  obtain ⟨hI, hX, hM, hL⟩ := id h
  have hF := hI.F
  have hB := hI.B
  have hA1 := Nat.one_le_two_pow (n := S 0 0)
  by_cases hw : w = -1 ∨ (0 ≤ w ∧ w < nI (S 3 0))
  · have sx : zev sc (98, 0, [some (.ref 0), some (.int w)], [], (197, i, zRF b, l)) = zev sc (98, 15, [some (.ref 0), some (.int w)], [], (197, i, zRF b, l)) := by
      rw [b98_0]
      by_cases w1 : w = -1
      · rw [if_pos w1]
      · rw [if_neg w1, b98_5, c_xBeast sc _ _ _ _ _ hX.B, Option.bind_some]
        dsimp only
        rw [b98_10, show zis w (S 3 0) = 1 from if_pos (hw.resolve_left w1), if_neg (by decide)]
    have sm : ∀ i1 b1, MR S i1 → zev sc (175, 0, [some (.ref 173), some (.int w), none, none, none, none, none], [], (197, i1, zRF b1, l)) = zev sc (175, 15, [some (.ref 173), some (.int w), none, none, none, none, none], [], (197, i1, zRF b1, l)) := by
      intro i1 b1 hM1
      rw [b175_0]
      by_cases w1 : w = -1
      · rw [if_pos w1]
      · rw [if_neg w1, b175_5, c_mBeast sc _ _ (by omega) _ _ _ hM1.B, Option.bind_some]
        dsimp only
        rw [b175_10, show zis w (S 3 0) = 1 from if_pos (hw.resolve_left w1), if_neg (by decide)]
    have cx : ∀ i1 : Nat → Nat → Int32, (∀ c j, (c ≠ 77 ∧ c ≠ 78) → i1 c j = i c j) → ∀ c j, xrd c j ∨ 173 ≤ c → i1 c j = i c j := by
      intro i1 h1 c j z
      refine h1 c j ?_
      rcases z with z | z
      · have := z.2.2.2
        omega
      · omega
    have cm : ∀ i1 i2 : Nat → Nat → Int32, (∀ c j, c ≠ 196 → i2 c j = i1 c j) → ∀ c j, mrd c j ∨ c < 173 → i2 c j = i1 c j := by
      intro i1 i2 h1 c j z
      refine h1 c j ?_
      unfold mrd at z
      omega
    by_cases hBF : S 3 0 ≤ S 0 0
    · by_cases w1 : w = -1
      · subst w1
        have hw0 := sHw_le hI (S 3 0) 0 (Nat.le_refl _)
        refine zOp_q (r := .int (nI (sHw S (S 3 0) 0))) h ?_ ?_
        · obtain ⟨i', p1, p2, p3, p4⟩ := c_xMeas sc hI b l i hX
          refine ⟨i', b, ?_, cx i' p4⟩
          rw [sx, b98_15, hX.B, hX.F, if_pos ((nI_leI (by omega) (by omega)).mpr hBF), b98_35, if_pos rfl, b98_40, b8_0, p1, Option.bind_some]
          dsimp only
          rw [b8_4, Option.bind_some]
          dsimp only
          rw [b98_47, b98_58, p3 0 (by omega), show S 3 0 - zpc 0 = S 3 0 from rfl]
        · intro i1 b1 hM1
          obtain ⟨i2, w3, w4, w5, w6, p1, p2, p3⟩ := c_mTab sc hI (-1) b1 l i1 hM1
          have p0 := p2 0 (Nat.zero_le _) 0 (by omega)
          refine ⟨i2, ?_, cm i1 i2 p3⟩
          rw [sm i1 b1 hM1, p1, b175_158, if_pos rfl, b175_174, show i2 196 0 = sHm S (S 3 0 - 0) 0 from p0, Nat.sub_zero, show sHm S (S 3 0) 0 = nI (sHw S (S 3 0) 0) from if_pos (by rw [show zpc 0 = 0 by decide]; omega)]
      · obtain ⟨bq, hb, rfl⟩ := (zin_iff (by omega)).mp (hw.resolve_left w1)
        have hw0 := sHw_le hI (S 3 0) 0 (Nat.le_refl _)
        refine zOp_q (r := .int (nI (sHk S bq (sHt S bq)))) h ?_ ?_
        · obtain ⟨i', p1, p2, p3, p4⟩ := c_xMeas sc hI b l i hX
          have hX1 : XR S i' := hX.congr (fun c j z => p4 c j (by have := z.2.2.2; omega))
          have g := c_xFih sc hI hb hBF i' hX1 p2 p3 b l bq 0 (-9) (by omega)
          rw [show sHt S 0 = 0 from rfl, show nI 0 = 0 from rfl] at g
          refine ⟨i', b, ?_, cx i' p4⟩
          rw [sx, b98_15, hX.B, hX.F, if_pos ((nI_leI (by omega) (by omega)).mpr hBF), b98_35, if_neg w1, b98_50, b9_0, p1, Option.bind_some]
          dsimp only
          rw [b9_4, g, Option.bind_some]
          dsimp only
          rw [b98_58]
        · intro i1 b1 hM1
          obtain ⟨i2, w3, w4, w5, w6, p1, p2, p3⟩ := c_mTab sc hI (nI bq) b1 l i1 hM1
          have p0 := p2 0 (Nat.zero_le _) 0 (by omega)
          have hM2 : MR S i2 := hM1.congr hI (fun c j z => p3 c j (by unfold mrd at z; omega))
          have g := c_mFih sc hI hb hBF w5 w6 i2 hM2 p2 b1 l bq 0 (-9) (by omega)
          rw [show sHt S 0 = 0 from rfl, show nI 0 = 0 from rfl] at g
          refine ⟨i2, ?_, cm i1 i2 p3⟩
          rw [sm i1 b1 hM1, p1, b175_158, if_neg w1, b175_163, show i2 196 0 = sHm S (S 3 0 - 0) 0 from p0, Nat.sub_zero, show sHm S (S 3 0) 0 = nI (sHw S (S 3 0) 0) from if_pos (by rw [show zpc 0 = 0 by decide]; omega), if_neg (nI_ne9 (by omega)), b175_181, g]
    · refine zOp_q (r := .int (-9)) h ?_ ?_
      · refine ⟨i, b, ?_, fun _ _ _ => rfl⟩
        rw [sx, b98_15, hX.B, hX.F, if_neg (zq_nle (by omega) (by omega)), b98_32]
      · intro i1 b1 hM1
        obtain ⟨i2, w3, w4, w5, w6, p1, p2, p3⟩ := c_mTab sc hI w b1 l i1 hM1
        have p0 : i2 196 0 = sHm S (S 3 0 - 0) 0 := p2 0 (Nat.zero_le _) 0 (by omega)
        rw [Nat.sub_zero, show sHm S (S 3 0) 0 = -9 from if_neg (by omega)] at p0
        refine ⟨i2, ?_, cm i1 i2 p3⟩
        rw [sm i1 b1 hM1, p1, b175_158]
        by_cases w1 : w = -1
        · rw [if_pos w1, b175_174, p0]
        · rw [if_neg w1, b175_163, p0, if_pos rfl, b175_174, p0]
  · have w1 : ¬ w = -1 := fun z => hw (Or.inl z)
    have w2 : ¬ (0 ≤ w ∧ w < nI (S 3 0)) := fun z => hw (Or.inr z)
    refine zOp_p (r := .int (-1)) h ?_ ?_
    · rw [b98_0, if_neg w1, b98_5, c_xBeast sc _ _ _ _ _ hX.B, Option.bind_some]
      dsimp only
      rw [b98_10, zis_out w2, if_pos rfl, b98_13]
    · rw [b175_0, if_neg w1, b175_5, c_mBeast sc _ _ (by omega) _ _ _ hM.B, Option.bind_some]
      dsimp only
      rw [b175_10, zis_out w2, if_pos rfl, b175_13]
