/-! now: the fewest, in the model; now -/
theorem c_mFt (sc : zScr) {S : zS} (hI : Inv S) (b : Bool) (l : Nat → Nat → Int64) (i : Nat → Nat → Int32) (hM : MR S i) : zev sc (157, 0, [some (.ref 173), some (.int 0), none, none, none, none], [], (197, i, zRF b, l)) = some (.int (nI (sFt S)), (197, i, zRF b, l)) := by
  have hE := hI.E
  have h2 := z2p hE
  have h3 := Nat.one_le_two_pow (n := S 1 0)
  have h := c_mGw sc (P := fun s => sHo (fun f => sPn S f (S 1 0)) s (S 1 0)) (A := 2 ^ S 1 0 - 1) (by omega) 0 i b l (fun v2 v3 v5 s hs => by
    have hq := c_mQ2 sc hI (s := s) (by omega) i hM b l (S 1 0) 0 1 none (by omega) (Or.inr rfl)
    rw [show nI 0 = 0 from rfl, show nI 1 = 1 from rfl, sQ_ho hI] at hq
    rw [b157_57, if_pos rfl, b157_61, b155_0, hq, Option.bind_some]
    dsimp only
    rw [b157_67]
    by_cases q : sHo (fun f => sPn S f (S 1 0)) s (S 1 0)
    · rw [if_pos q, if_pos q, if_neg (by decide), b157_70]
    · rw [if_neg q, if_neg q, if_pos (show nI 0 = 0 from rfl)]) (2 ^ S 1 0 - 1) 0 none (by omega)
  rw [sFG (zpc_all (S 1 0) hE), show sGw (fun s => sHo (fun f => sPn S f (S 1 0)) s (S 1 0)) (2 ^ S 1 0 - 1) 0 = 2 ^ S 1 0 - 1 from rfl, show 2 ^ S 1 0 - 1 + 1 = 2 ^ S 1 0 by omega] at h
  rw [b157_0, if_pos rfl, b157_4, hM.E, b157_19, c_allOf sc hE, Option.bind_some]
  dsimp only
  rw [b157_22, h]
  rfl
theorem c_mFe (sc : zScr) {S : zS} (hI : Inv S) (b : Bool) (l : Nat → Nat → Int64) (i : Nat → Nat → Int32) (hM : MR S i) : zev sc (157, 0, [some (.ref 173), some (.int 1), none, none, none, none], [], (197, i, zRF b, l)) = some (.int (nI (sFe S)), (197, i, zRF b, l)) := by
  have hF := hI.F
  have h2 := z2p hF.2
  have h3 := Nat.one_le_two_pow (n := S 0 0)
  have h := c_mGw sc (P := fun s => sHo (fun x => sEr S (S 1 0) x) s (S 0 0)) (A := 2 ^ S 0 0 - 1) (by omega) 1 i b l (fun v2 v3 v5 s hs => by
    have hq := c_mH1 sc hI (s := s) (by omega) i hM b l (S 1 0) 0 1 (by omega) (Or.inr rfl)
    rw [show nI 0 = 0 from rfl, show nI 1 = 1 from rfl, sH_ho hI] at hq
    rw [b157_57, if_neg (by decide), b157_73, b156_0, hq, Option.bind_some]
    dsimp only
    rw [b157_79]
    by_cases q : sHo (fun x => sEr S (S 1 0) x) s (S 0 0)
    · rw [if_pos q, if_pos q, if_neg (by decide)]
    · rw [if_neg q, if_neg q, if_pos (show nI 0 = 0 from rfl)]) (2 ^ S 0 0 - 1) 0 none (by omega)
  rw [sFG (zpc_all (S 0 0) hF.2), show sGw (fun s => sHo (fun x => sEr S (S 1 0) x) s (S 0 0)) (2 ^ S 0 0 - 1) 0 = 2 ^ S 0 0 - 1 from rfl, show 2 ^ S 0 0 - 1 + 1 = 2 ^ S 0 0 by omega] at h
  rw [b157_0, if_neg (by decide), b157_13, hM.F, b157_19, c_allOf sc hF.2, Option.bind_some]
  dsimp only
  rw [b157_22, h]
  rfl
theorem op_now (sc : zScr) {S : zS} {i : Nat → Nat → Int32} (b : Bool) {l : Nat → Nat → Int64} (h : Rl S i l) (w : Int32) : zOp sc 87 158 [some (.ref 0), some (.int w)] [some (.ref 173), some (.int w)] i b l := by
  obtain ⟨hI, hX, hM, hL⟩ := id h
  by_cases w0 : w = 0
  · subst w0
    exact zOp_p (r := .int (nI (S 9 16))) h (by rw [b87_0]; show zev sc (87, 44, _, _, _) = _; rw [b87_44, hX.wet]) (by rw [b158_0]; show zev sc (158, 44, _, _, _) = _; rw [b158_44, hM.now (by decide)])
  by_cases w1 : w = 1
  · subst w1
    exact zOp_p (r := .int (nI (S 9 14))) h (by rw [b87_0]; show zev sc (87, 52, _, _, _) = _; rw [b87_52, hX.cut]) (by rw [b158_0]; show zev sc (158, 52, _, _, _) = _; rw [b158_52, hM.now (by decide)])
  by_cases w2 : w = 2
  · subst w2
    exact zOp_p (r := .int (nI (S 9 15))) h (by rw [b87_0]; show zev sc (87, 60, _, _, _) = _; rw [b87_60, hX.down]) (by rw [b158_0]; show zev sc (158, 60, _, _, _) = _; rw [b158_60, hM.now (by decide)])
  by_cases w3 : w = 3
  · subst w3
    exact zOp_p (r := .int (nI (S 9 17))) h (by rw [b87_0]; show zev sc (87, 68, _, _, _) = _; rw [b87_68, hX.sung]) (by rw [b158_0]; show zev sc (158, 68, _, _, _) = _; rw [b158_68, hM.now (by decide)])
  have sx : ∀ c t, xrd c t ∨ 173 ≤ c → c ≠ 76 := by
    intro c t z
    rcases z with z | z
    · have := z.2.2.2
      omega
    · omega
  by_cases w4 : w = 4
  · subst w4
    refine zOp_q (r := .int (nI (sLk S))) h ?_ ?_
    · obtain ⟨i1, a1, a2, a3⟩ := c_xPa sc hI b l (S 1 0) 0 i none (by omega) hX (fun t ht => absurd ht (Nat.not_lt_zero _))
      have hX1 : XR S i1 := hX.congr (fun c t z => a3 c t (sx c t (Or.inl z)))
      have g := c_xLk sc hI b l i1 hX1 a2 (S 1 0) 0 (by omega)
      refine ⟨i1, b, ?_, fun c t z => a3 c t (sx c t z)⟩
      rw [show nI 0 = 0 from rfl] at a1 g
      rw [b87_0]
      show zev sc (87, 76, _, _, _) = _
      rw [b87_76, b1_0, b4_0, a1, Option.bind_some]
      dsimp only
      rw [b1_4, show zev sc (1, 8, [some (.ref 75), some (.int 0), some (.int 0)], [], (197, i1, zRF b, l)) = some (.int (nI (sLk S)), (197, i1, zRF b, l)) from g, Option.bind_some]
      dsimp only
      rw [b87_83]
    · intro i1 b1 hM1
      refine ⟨i1, ?_, fun _ _ _ => rfl⟩
      have g := c_mLk sc hI i1 hM1 b1 l (S 1 0) 0 none (by omega)
      rw [b158_0]
      show zev sc (158, 76, _, _, _) = _
      rw [b158_76, b154_0, show zev sc (154, 4, [some (.ref 173), some (.int 0), some (.int 0), none], [], (197, i1, zRF b1, l)) = some (.int (nI (sLk S)), (197, i1, zRF b1, l)) from g, Option.bind_some]
      dsimp only
      rw [b158_80]
  by_cases w5 : w = 5
  · subst w5
    refine zOp_q (r := .int (nI (sFt S))) h ?_ ?_
    · obtain ⟨i1, a1, a3⟩ := c_xFt sc hI b l i hX
      refine ⟨i1, b, ?_, fun c t z => a3 c t (sx c t z)⟩
      rw [b87_0]
      show zev sc (87, 84, _, _, _) = _
      rw [b87_84, a1, Option.bind_some]
      dsimp only
      rw [b87_91]
    · intro i1 b1 hM1
      refine ⟨i1, ?_, fun _ _ _ => rfl⟩
      rw [b158_0]
      show zev sc (158, 81, _, _, _) = _
      rw [b158_81, c_mFt sc hI b1 l i1 hM1, Option.bind_some]
      dsimp only
      rw [b158_86]
  by_cases w6 : w = 6
  · subst w6
    refine zOp_q (r := .int (nI (sFe S))) h ?_ ?_
    · obtain ⟨i1, a1, a3⟩ := c_xFe sc hI b l i hX
      refine ⟨i1, b, ?_, fun c t z => a3 c t (sx c t z)⟩
      rw [b87_0]
      show zev sc (87, 92, _, _, _) = _
      rw [b87_92, a1, Option.bind_some]
      dsimp only
      rw [b87_99]
    · intro i1 b1 hM1
      refine ⟨i1, ?_, fun _ _ _ => rfl⟩
      rw [b158_0]
      show zev sc (158, 87, _, _, _) = _
      rw [b158_87, c_mFe sc hI b1 l i1 hM1, Option.bind_some]
      dsimp only
      rw [b158_92]
  have z : ∀ d a0 a1 a2 a3 a4 a5 a6, zcs w d [((0 : Int32), a0), (1, a1), (2, a2), (3, a3), (4, a4), (5, a5), (6, a6)] = d := by
    intro d a0 a1 a2 a3 a4 a5 a6
    simp only [zcs, if_neg w0, if_neg w1, if_neg w2, if_neg w3, if_neg w4, if_neg w5, if_neg w6]
  exact zOp_p (r := .int (-1)) h (by rw [b87_0, z, b87_100]) (by rw [b158_0, z, b158_93])
