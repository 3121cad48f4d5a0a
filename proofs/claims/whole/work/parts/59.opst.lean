/-! frost -/
theorem zodds {U L C : Nat} (hC : 0 < C) (hL : 0 < L) : C * U / Nat.gcd (C * U) (C * L) = U / Nat.gcd U L ∧ C * L / Nat.gcd (C * U) (C * L) = L / Nat.gcd U L := by
  rw [Nat.gcd_mul_left, Nat.mul_div_mul_left _ _ hC, Nat.mul_div_mul_left _ _ hC]
  exact ⟨rfl, rfl⟩
theorem zin40 {v : Int32} (h : 0 ≤ v ∧ v ≤ 40) : ∃ j, j ≤ 40 ∧ v = nI j := nI_of2 rfl (Int32.not_lt.mpr h.1) h.2
theorem zin10 {v : Int32} (h : 0 ≤ v ∧ v ≤ 10) : ∃ j, j ≤ 10 ∧ v = nI j := nI_of2 rfl (Int32.not_lt.mpr h.1) h.2
theorem op_frost (sc : zScr) {S : zS} {i : Nat → Nat → Int32} (b : Bool) {l : Nat → Nat → Int64} (h : Rl S i l) (u y x p q w : Int32) : zOp sc 99 177 [some (.ref 0), some (.int u), some (.int y), some (.int x), some (.int p), some (.int q), some (.int w), none, none, none] [some (.ref 173), some (.int u), some (.int y), some (.int x), some (.int p), some (.int q), some (.int w), none, none, none, none, none, none] i b l := by
  obtain ⟨hI, hX, hM, hL⟩ := id h
  have hE := hI.E
  have hF := hI.F
  have hK := hI.K
  rcases zix u (S 2 0) (by omega) with ⟨k, hk, rfl⟩ | nk
  rotate_left
  · refine zOp_p (r := .int (-1)) h ?_ ?_
    · rw [b99_0, c_xKind sc _ _ _ _ _ hX.K, Option.bind_some]
      dsimp only
      rw [b99_5, zis_out nk, if_pos rfl, b99_32]
    · rw [b177_0, c_mKind sc _ _ (by omega) _ _ _ hM.K, Option.bind_some]
      dsimp only
      rw [b177_5, zis_out nk, if_pos rfl, b177_56]
  have x1 : zev sc (99, 0, [some (.ref 0), some (.int (nI k)), some (.int y), some (.int x), some (.int p), some (.int q), some (.int w), none, none, none], [], (197, i, zRF b, l)) = zev sc (99, 13, [some (.ref 0), some (.int (nI k)), some (.int y), some (.int x), some (.int p), some (.int q), some (.int w), none, none, none], [.int (zis y (S 0 0))], (197, i, zRF b, l)) := by
    rw [b99_0, c_xKind sc _ _ _ _ _ hX.K, Option.bind_some]
    dsimp only
    rw [b99_5, zis_in (by omega) hk, if_neg (by decide), b99_8, c_xField sc _ _ _ _ _ hX.F, Option.bind_some]
  have m1 : ∀ i1 b1, MR S i1 → zev sc (177, 0, [some (.ref 173), some (.int (nI k)), some (.int y), some (.int x), some (.int p), some (.int q), some (.int w), none, none, none, none, none, none], [], (197, i1, zRF b1, l)) = zev sc (177, 13, [some (.ref 173), some (.int (nI k)), some (.int y), some (.int x), some (.int p), some (.int q), some (.int w), none, none, none, none, none, none], [.int (zis y (S 0 0))], (197, i1, zRF b1, l)) := by
    intro i1 b1 hM1
    rw [b177_0, c_mKind sc _ _ (by omega) _ _ _ hM1.K, Option.bind_some]
    dsimp only
    rw [b177_5, zis_in (by omega) hk, if_neg (by decide), b177_8, c_mField sc _ _ (by omega) _ _ _ hM1.F, Option.bind_some]
  rcases zix y (S 0 0) (by omega) with ⟨yy, hy, rfl⟩ | ny
  rotate_left
  · refine zOp_p (r := .int (-1)) h ?_ ?_
    · rw [x1, b99_13, zis_out ny, if_pos rfl, b99_32]
    · rw [m1 i b hM, b177_13, zis_out ny, if_pos rfl, b177_56]
  rcases zix x (S 0 0) (by omega) with ⟨xx, hx, rfl⟩ | nx
  rotate_left
  · refine zOp_p (r := .int (-1)) h ?_ ?_
    · rw [x1, b99_13, zis_in (by omega) hy, if_neg (by decide), b99_16, c_xField sc _ _ _ _ _ hX.F, Option.bind_some]
      dsimp only
      rw [b99_21, zis_out nx, if_pos rfl, b99_32]
    · rw [m1 i b hM, b177_13, zis_in (by omega) hy, if_neg (by decide), b177_16, c_mField sc _ _ (by omega) _ _ _ hM.F, Option.bind_some]
      dsimp only
      rw [b177_21, zis_out nx, if_pos rfl, b177_56]
  have x2 : zev sc (99, 0, [some (.ref 0), some (.int (nI k)), some (.int (nI yy)), some (.int (nI xx)), some (.int p), some (.int q), some (.int w), none, none, none], [], (197, i, zRF b, l)) = zev sc (99, 29, [some (.ref 0), some (.int (nI k)), some (.int (nI yy)), some (.int (nI xx)), some (.int p), some (.int q), some (.int w), none, none, none], [.int (if w = 0 ∨ w = 1 then 1 else 0)], (197, i, zRF b, l)) := by
    rw [x1, b99_13, zis_in (by omega) hy, if_neg (by decide), b99_16, c_xField sc _ _ _ _ _ hX.F, Option.bind_some]
    dsimp only
    rw [b99_21, zis_in (by omega) hx, if_neg (by decide), b99_24, c_xFlag, Option.bind_some]
  have m2 : ∀ i1 b1, MR S i1 → zev sc (177, 0, [some (.ref 173), some (.int (nI k)), some (.int (nI yy)), some (.int (nI xx)), some (.int p), some (.int q), some (.int w), none, none, none, none, none, none], [], (197, i1, zRF b1, l)) = zev sc (177, 32, [some (.ref 173), some (.int (nI k)), some (.int (nI yy)), some (.int (nI xx)), some (.int p), some (.int q), some (.int w), none, none, none, none, none, none], [.int (if 0 ≤ p ∧ p ≤ 40 then 1 else 0)], (197, i1, zRF b1, l)) := by
    intro i1 b1 hM1
    rw [m1 i1 b1 hM1, b177_13, zis_in (by omega) hy, if_neg (by decide), b177_16, c_mField sc _ _ (by omega) _ _ _ hM1.F, Option.bind_some]
    dsimp only
    rw [b177_21, zis_in (by omega) hx, if_neg (by decide), b177_24, c_in, Option.bind_some]
  by_cases hok : (0 ≤ p ∧ p ≤ 40) ∧ (0 ≤ q ∧ q ≤ 10) ∧ (w = 0 ∨ w = 1)
  rotate_left
  · have hx3 : zev sc (99, 29, [some (.ref 0), some (.int (nI k)), some (.int (nI yy)), some (.int (nI xx)), some (.int p), some (.int q), some (.int w), none, none, none], [.int (if w = 0 ∨ w = 1 then 1 else 0)], (197, i, zRF b, l)) = some (.int (-1), (197, i, zRF b, l)) := by
      rw [b99_29]
      by_cases hw : w = 0 ∨ w = 1
      · rw [if_pos hw, if_neg (by decide), b99_34]
        by_cases g1 : p < 0
        · rw [if_pos g1, b99_58]
        · rw [if_neg g1, b99_39]
          by_cases g2 : (40 : Int32) < p
          · rw [if_pos g2, b99_58]
          · rw [if_neg g2, b99_46]
            by_cases g3 : q < 0
            · rw [if_pos g3, b99_58]
            · rw [if_neg g3, b99_51, if_neg (fun g4 => hok ⟨⟨Int32.not_lt.mp g1, Int32.not_lt.mp g2⟩, ⟨Int32.not_lt.mp g3, g4⟩, hw⟩), b99_58]
      · rw [if_neg hw, if_pos rfl, b99_32]
    have hm3 : zev sc (177, 32, [some (.ref 173), some (.int (nI k)), some (.int (nI yy)), some (.int (nI xx)), some (.int p), some (.int q), some (.int w), none, none, none, none, none, none], [.int (if 0 ≤ p ∧ p ≤ 40 then 1 else 0)], (197, i, zRF b, l)) = some (.int (-1), (197, i, zRF b, l)) := by
      rw [b177_32]
      by_cases g1 : 0 ≤ p ∧ p ≤ 40
      · rw [if_pos g1, if_neg (by decide), b177_35, c_in, Option.bind_some]
        dsimp only
        rw [b177_43]
        by_cases g2 : 0 ≤ q ∧ q ≤ 10
        · rw [if_pos g2, if_neg (by decide), b177_46, c_in, Option.bind_some]
          dsimp only
          rw [b177_53, if_neg ((zflag w).resolve_left (fun g3 => hok ⟨g1, g2, g3⟩)), if_pos rfl, b177_56]
        · rw [if_neg g2, if_pos rfl, b177_56]
      · rw [if_neg g1, if_pos rfl, b177_56]
    exact zOp_p (r := .int (-1)) h (by rw [x2, hx3]) (by rw [m2 i b hM, hm3])
  obtain ⟨hpp, hqq, hww⟩ := hok
  obtain ⟨pp, hp, rfl⟩ := zin40 hpp
  obtain ⟨qq, hq, rfl⟩ := zin10 hqq
  have hA : ∀ f, sAu S k pp f → sMy S pp f := fun f z => ⟨sSnd_str z.1, z.2⟩
  have hUh : ∀ f, f < S 1 0 → sMy S pp f → ¬ sAu S k pp f → ∀ c, sUh S k yy xx (c ||| 2 ^ f) = sUh S k yy xx c := fun f _ g1 g2 c => sUh_or (Decidable.byContradiction (fun z => g2 ⟨z, g1.2⟩)) c
  have hU := sTt_two (x := qq) (P := sUh S k yy xx) hA hq (S 1 0) hUh 0
  have hCt := sCt_two (M := sMy S pp) (A := sAu S k pp) hA (S 1 0)
  have hUl := sTt_le (M := sAu S k pp) hq (sUh_le S k yy xx) (S 1 0) 0
  have hMl := sTt_le (M := sMy S pp) hq (sUh_le S k yy xx) (S 1 0) 0
  have hAc := sCt_le (sAu S k pp) (S 1 0)
  have hMc := sCt_le (sMy S pp) (S 1 0)
  have hA8 : 10 ^ sCt (sAu S k pp) (S 1 0) ≤ 100000000 := Nat.pow_le_pow_right (n := 10) (by decide) (show sCt (sAu S k pp) (S 1 0) ≤ 8 by omega)
  have hM8 : 10 ^ sCt (sMy S pp) (S 1 0) ≤ 100000000 := Nat.pow_le_pow_right (n := 10) (by decide) (show sCt (sMy S pp) (S 1 0) ≤ 8 by omega)
  have hA1 : 0 < 10 ^ sCt (sAu S k pp) (S 1 0) := Nat.pow_pos (by decide)
  have hM1 : 0 < 10 ^ sCt (sMy S pp) (S 1 0) := Nat.pow_pos (by decide)
  have hC1 : 0 < 10 ^ sCt (fun f => sMy S pp f ∧ ¬ sAu S k pp f) (S 1 0) := Nat.pow_pos (by decide)
  have hD : 10 ^ sCt (sMy S pp) (S 1 0) = 10 ^ sCt (fun f => sMy S pp f ∧ ¬ sAu S k pp f) (S 1 0) * 10 ^ sCt (sAu S k pp) (S 1 0) := by
    rw [hCt, Nat.pow_add, Nat.mul_comm]
  obtain ⟨o1, o2⟩ := zodds (U := sTt (sAu S k pp) qq (sUh S k yy xx) (S 1 0) 0) hC1 hA1
  rw [← hU, ← hD] at o1 o2
  have hg1 := Nat.gcd_pos_of_pos_right (sTt (sAu S k pp) qq (sUh S k yy xx) (S 1 0) 0) hA1
  have hgl := Nat.gcd_le_right (sTt (sAu S k pp) qq (sUh S k yy xx) (S 1 0) 0) hA1
  have hm1 := Nat.gcd_pos_of_pos_right (sTt (sMy S pp) qq (sUh S k yy xx) (S 1 0) 0) hM1
  have hml := Nat.gcd_le_right (sTt (sMy S pp) qq (sUh S k yy xx) (S 1 0) 0) hM1
  have hgm : (if (1 : Int32) < nI (Nat.gcd (sTt (sAu S k pp) qq (sUh S k yy xx) (S 1 0) 0) (10 ^ sCt (sAu S k pp) (S 1 0))) then nI (Nat.gcd (sTt (sAu S k pp) qq (sUh S k yy xx) (S 1 0) 0) (10 ^ sCt (sAu S k pp) (S 1 0))) else 1) = nI (Nat.gcd (sTt (sAu S k pp) qq (sUh S k yy xx) (S 1 0) 0) (10 ^ sCt (sAu S k pp) (S 1 0))) := by
    by_cases e : Nat.gcd (sTt (sAu S k pp) qq (sUh S k yy xx) (S 1 0) 0) (10 ^ sCt (sAu S k pp) (S 1 0)) = 1
    · rw [e]
      decide
    · exact if_pos ((nI_ltI (a := 1) (by decide) (by omega)).mpr (by omega))
  refine zOp_q (r := .int (if w = 0 then nI (sTt (sAu S k pp) qq (sUh S k yy xx) (S 1 0) 0 / Nat.gcd (sTt (sAu S k pp) qq (sUh S k yy xx) (S 1 0) 0) (10 ^ sCt (sAu S k pp) (S 1 0))) else nI (10 ^ sCt (sAu S k pp) (S 1 0) / Nat.gcd (sTt (sAu S k pp) qq (sUh S k yy xx) (S 1 0) 0) (10 ^ sCt (sAu S k pp) (S 1 0))))) h ?_ ?_
  · have hne : ∀ c t, c ≠ 72 → zU (zU i 72 5 0) 72 4 0 c t = i c t := fun c t z => by rw [zUn _ _ (Or.inl z), zUn _ _ (Or.inl z)]
    have hX0 : XR S (zU (zU i 72 5 0) 72 4 0) := hX.congr (fun c t z => hne c t (by have := z.2.2.2; omega))
    obtain ⟨i', p1, p2, p3, p4, p5⟩ := c_xFp sc (p := pp) hI hk hp b l (S 1 0) 0 (zU (zU i 72 5 0) 72 4 0) (by omega) hX0 (by rw [zUn _ _ (Or.inr (by decide)), zUs]; rfl) (by rw [zUs]; rfl) (fun g hg => absurd hg (Nat.not_lt_zero _))
    have hX1 : XR S i' := hX0.congr (fun c t z => p5 c t (by have := z.2.2.2; omega) (by have := z.2.2.2; omega))
    have hu := c_xFu sc (p := pp) hI hq hy hx i' hX1 p2 p3 p4 b l (2 ^ sCt (sAu S k pp) (S 1 0)) 0 none none (by omega)
    rw [show zsum (sGx S k pp qq yy xx) (2 ^ sCt (sAu S k pp) (S 1 0)) = sTt (sAu S k pp) qq (sUh S k yy xx) (S 1 0) 0 from sSn_sum qq (sUh S k yy xx) (S 1 0) hE 0, show zsum (sGx S k pp qq yy xx) 0 = 0 from rfl, show nI 0 = 0 from rfl] at hu
    have hcd := c_cd sc (nI (sTt (sAu S k pp) qq (sUh S k yy xx) (S 1 0) 0)) (nI (10 ^ sCt (sAu S k pp) (S 1 0))) b l i' 27 0 (sTt (sAu S k pp) qq (sUh S k yy xx) (S 1 0) 0) (10 ^ sCt (sAu S k pp) (S 1 0)) none (by omega) (by omega) (by omega) (by decide)
    rw [show nI 0 = 0 from rfl] at p1 hcd
    refine ⟨i', b, ?_, fun c t z => ?_⟩
    · rw [x2, b99_29, if_pos hww, if_neg (by decide), b99_34, if_neg (Int32.not_lt.mpr hpp.1), b99_39, if_neg (Int32.not_lt.mpr hpp.2), b99_46, if_neg (Int32.not_lt.mpr hqq.1), b99_51, if_pos hqq.2, b99_60, b48_0, p1, b48_92, p3, show (10 : Int32) = nI 10 from rfl, c_power sc (by omega), Option.bind_some]
      dsimp only
      rw [b48_101, Option.bind_some]
      dsimp only
      rw [b99_70, b49_0, hu, Option.bind_some]
      dsimp only
      rw [b99_83, b53_0, hcd, Option.bind_some]
      dsimp only
      have hgn : ¬ nI (Nat.gcd (sTt (sAu S k pp) qq (sUh S k yy xx) (S 1 0) 0) (10 ^ sCt (sAu S k pp) (S 1 0))) = 0 := fun z => by have := (nI_eq0 (by omega)).mp z; omega
      rw [b99_93, hgm]
      by_cases e : w = 0
      · rw [if_pos e, if_pos e, b99_103, b99_110 _ _ _ _ _ _ _ _ _ _ _ _ _ _ hgn, zdv (by omega) (by omega)]
      · rw [if_neg e, if_neg e, b99_108, b99_110 _ _ _ _ _ _ _ _ _ _ _ _ _ _ hgn, zdv (by omega) (by omega)]
    · have z1 : c ≠ 72 ∧ c ≠ 74 := by
        rcases z with z | z
        · have := z.2.2.2
          omega
        · omega
      rw [p5 c t z1.1 z1.2, hne c t z1.1]
  · intro i1 b1 hM2
    refine ⟨i1, ?_, fun _ _ _ => rfl⟩
    obtain ⟨w10, g1⟩ := c_mMay sc (p := pp) hI hp (nI k) (nI yy) (nI xx) (nI qq) w i1 hM2 b1 l (S 1 0) 0 none (by omega)
    obtain ⟨w11, w12, g2⟩ := c_mUp sc (p := pp) hI hk hq hy hx (nI pp) w (nI (10 ^ sCt (sMy S pp) (S 1 0))) i1 hM2 b1 l (sBt (sMy S pp) (S 1 0) + 1) 0 none none (by omega)
    rw [sHx_sum hI] at g2
    obtain ⟨w13, g3⟩ := c_mGcd sc (nI k) (nI yy) (nI xx) (nI pp) (nI qq) w (nI (sBt (sMy S pp) (S 1 0))) (nI (10 ^ sCt (sMy S pp) (S 1 0))) (nI (sTt (sMy S pp) qq (sUh S k yy xx) (S 1 0) 0)) b1 l i1 (10 ^ sCt (sMy S pp) (S 1 0)) (sTt (sMy S pp) qq (sUh S k yy xx) (S 1 0) 0) (10 ^ sCt (sMy S pp) (S 1 0)) w12 (Nat.le_refl _) (by omega) (by omega)
    rw [show nI 0 = 0 from rfl, show nI (sBt (sMy S pp) 0) = 0 from rfl, show nI (10 ^ sCt (sMy S pp) 0) = 1 from rfl] at g1
    rw [show nI 0 = 0 from rfl, show nI (zsum (sHx S k pp qq yy xx) 0) = 0 from rfl] at g2
    have hw01 : 0 ≤ w ∧ w ≤ 1 := by
      rcases hww with z | z
      · rw [z]
        decide
      · rw [z]
        decide
    have hgn : ¬ nI (Nat.gcd (sTt (sMy S pp) qq (sUh S k yy xx) (S 1 0) 0) (10 ^ sCt (sMy S pp) (S 1 0))) = 0 := fun z => by have := (nI_eq0 (by omega)).mp z; omega
    rw [m2 i1 b1 hM2, b177_32, if_pos hpp, if_neg (by decide), b177_35, c_in, Option.bind_some]
    dsimp only
    rw [b177_43, if_pos hqq, if_neg (by decide), b177_46, c_in, Option.bind_some]
    dsimp only
    rw [b177_53, if_pos hw01, if_neg (by decide), b177_58, g1, b177_149, g2, b177_259, g3, b177_290]
    by_cases e : w = 0
    · rw [if_pos e, if_pos e, b177_295 _ _ _ _ _ _ _ _ _ _ _ _ _ _ _ _ hgn, b177_308, zdv (by omega) (by omega), o1]
    · rw [if_neg e, if_neg e, b177_303 _ _ _ _ _ _ _ _ _ _ _ _ _ _ _ _ hgn, b177_308, zdv (by omega) (by omega), o2]
