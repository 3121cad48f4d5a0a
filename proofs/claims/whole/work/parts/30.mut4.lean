/-! rains, cuts, lays -/
theorem op_rains (sc : zScr) {S : zS} {i : Nat → Nat → Int32} (b : Bool) {l : Nat → Nat → Int64} (h : Rl S i l) (w : Int32) : zOp sc 85 151 [some (.ref 0), some (.int w), none] [some (.ref 173), some (.int w)] i b l := by
  obtain ⟨hI, hX, hM, hL⟩ := id h
  have hE := hI.E
  have hB := hI.B
  refine (Decidable.em (((-9 : Int32) ≤ w ∧ w ≤ 9) ∧ ¬ w = 0)).elim (fun hw => ?_) (fun hw => by
    refine zOp_p (r := .int (-1)) h ?_ ?_
    · rw [b85_0]
      by_cases h1 : w < -9
      · rw [if_pos h1, b85_16]
      rw [if_neg h1, b85_6]
      by_cases h2 : 9 < w
      · rw [if_pos h2, b85_16]
      rw [if_neg h2, b85_12]
      rw [if_pos (Decidable.byContradiction (fun z => hw ⟨⟨Int32.not_lt.mp h1, Int32.not_lt.mp h2⟩, z⟩)), b85_16]
    · rw [b151_0, c_in, Option.bind_some]
      dsimp only
      rw [b151_8]
      by_cases h1 : (-9 : Int32) ≤ w ∧ w ≤ 9
      · rw [if_neg (fun z => (zin_m _ _ _).mp z h1), b151_11, if_pos (Decidable.byContradiction (fun z => hw ⟨h1, z⟩)), b151_15]
      · rw [if_pos ((zin_m _ _ _).mpr h1), b151_15])
  obtain ⟨⟨hw1, hw2⟩, hw0⟩ := hw
  have xh : zev sc (85, 0, [some (.ref 0), some (.int w), none], [], (197, i, zRF b, l)) = if nI (S 9 16) + w < 0 then zev sc (85, 38, [some (.ref 0), some (.int w), some (.int (nI (S 9 16) + w))], [], (197, i, zRF b, l)) else zev sc (85, 32, [some (.ref 0), some (.int w), some (.int (nI (S 9 16) + w))], [], (197, i, zRF b, l)) := by
    rw [b85_0, if_neg (Int32.not_lt.mpr hw1), b85_6, if_neg (Int32.not_lt.mpr hw2), b85_12, if_neg hw0, b85_18, hX.wet]
  have mh : ∀ i', MR S i' → zev sc (151, 0, [some (.ref 173), some (.int w)], [], (197, i', zRF b, l)) = if (if (0 : Int32) ≤ nI (S 9 16) + w ∧ nI (S 9 16) + w ≤ 9 then (1 : Int32) else 0) = 0 then zev sc (151, 35, [some (.ref 173), some (.int w)], [], (197, i', zRF b, l)) else zev sc (151, 38, [some (.ref 173), some (.int w)], [], (197, i', zRF b, l)) := by
    intro i' hM'
    rw [b151_0, c_in, Option.bind_some]
    dsimp only
    rw [b151_8, if_neg (fun z => (zin_m _ _ _).mp z ⟨hw1, hw2⟩), b151_11, if_neg hw0, b151_17, hM'.now (by decide), c_in, Option.bind_some]
    dsimp only
    rw [b151_32]
  by_cases hd : (0 : Int32) ≤ nI (S 9 16) + w ∧ nI (S 9 16) + w ≤ 9
  · obtain ⟨v, hv, ev⟩ : ∃ v, v ≤ 9 ∧ nI (S 9 16) + w = nI v := by
      obtain ⟨v, h1, h2⟩ := nI_of2 (x := nI (S 9 16) + w) (M := 9) (n := 9) rfl (Int32.not_lt.mpr hd.1) hd.2
      exact ⟨v, h1, h2⟩
    obtain ⟨i1, n1, n2, n3⟩ := c_xNote sc hI i hX b l
    refine zOp_n (r := .int (nI v)) (row := sSt (rN S) 16 v) (i1' := zU i1 19 6 (nI v)) h (hI.now.scal hE hB 16 v (by decide) hv) n2 n3 (n2.now.scal hE hB 16 v (by decide)) (fun c j hc => zUn _ _ (Or.inl (by omega))) ?_ ?_
    · rw [xh, if_neg (Int32.not_lt.mpr hd.1), b85_32, if_pos hd.2, b85_41, n1, Option.bind_some]
      dsimp only
      rw [b85_52, ev]
    · intro hM1 i2 m1 m2
      refine ⟨zU i2 187 16 (nI v), ?_, zMn m1 _ _, fun c j hc => zUn _ _ (Or.inl hc)⟩
      rw [mh _ hM1, if_neg (fun z => (zin_m _ _ _).mp z hd), b151_38, m2, Option.bind_some]
      dsimp only
      rw [b151_42, m1.now (by decide), show sKn S 9 16 = S 9 16 from rfl, ev, zUs]
  · refine zOp_p (r := .int (-2)) h ?_ ?_
    · rw [xh]
      by_cases h1 : nI (S 9 16) + w < 0
      · rw [if_pos h1, b85_38]
      · rw [if_neg h1, b85_32, if_neg (fun z => hd ⟨Int32.not_lt.mp h1, z⟩), b85_38]
    · rw [mh i hM, if_pos ((zin_m _ _ _).mpr hd), b151_35]
theorem op_cuts (sc : zScr) {S : zS} {i : Nat → Nat → Int32} (b : Bool) {l : Nat → Nat → Int64} (h : Rl S i l) (f w : Int32) : zOp sc 82 148 [some (.ref 0), some (.int f), some (.int w)] [some (.ref 173), some (.int f), some (.int w)] i b l := by
  obtain ⟨hI, hX, hM, hL⟩ := id h
  have hE := hI.E
  have hB := hI.B
  have bad : (¬ (0 ≤ f ∧ f < nI (S 1 0)) ∨ ¬ (w = 0 ∨ w = 1)) → zOp sc 82 148 [some (.ref 0), some (.int f), some (.int w)] [some (.ref 173), some (.int f), some (.int w)] i b l := by
    intro hb
    refine zOp_p (r := .int (-1)) h ?_ ?_
    · rw [b82_0, c_xFence sc _ _ _ _ _ hX.E, Option.bind_some]
      dsimp only
      rw [b82_5]
      by_cases h1 : 0 ≤ f ∧ f < nI (S 1 0)
      · rw [show zis f (S 1 0) = 1 from if_pos h1, if_neg (by decide), b82_8, c_xFlag, Option.bind_some]
        dsimp only
        rw [if_neg (hb.resolve_left (fun z => z h1)), b82_12, if_pos rfl, b82_15]
      · rw [zis_out h1, if_pos rfl, b82_15]
    · rw [b148_0, c_mFence sc _ _ (by omega) _ _ _ hM.E, Option.bind_some]
      dsimp only
      rw [b148_5]
      by_cases h1 : 0 ≤ f ∧ f < nI (S 1 0)
      · rw [show zis f (S 1 0) = 1 from if_pos h1, if_neg (by decide), b148_8, c_in, Option.bind_some]
        dsimp only
        rw [b148_14, if_pos ((zin_m _ _ _).mpr ((zflag w).resolve_left (hb.resolve_left (fun z => z h1)))), b148_17]
      · rw [zis_out h1, if_pos rfl, b148_17]
  refine (zix f (S 1 0) (by omega)).elim ?_ (fun hn => bad (Or.inl hn))
  rintro ⟨k, hk, rfl⟩
  refine (Decidable.em (w = 0 ∨ w = 1)).elim (fun hw => ?_) (fun hw => bad (Or.inr hw))
  obtain ⟨v, hv, rfl⟩ : ∃ v, v ≤ 1 ∧ w = nI v := by
    rcases hw with rfl | rfl
    · exact ⟨0, by decide, rfl⟩
    · exact ⟨1, by decide, rfl⟩
  have hz := zis_in (j := k) (n := S 1 0) (by omega) hk
  have hc' := hI.cut'
  have h01 := zbt_01 (S 9 14) k
  have hin01 : (0 : Int32) ≤ nI v ∧ nI v ≤ 1 := ⟨nI_pos' (by omega), by rw [L1]; exact (nI_leI (by omega) (by decide)).mpr hv⟩
  have xh : zev sc (82, 0, [some (.ref 0), some (.int (nI k)), some (.int (nI v))], [], (197, i, zRF b, l)) = if nI (zbt (S 9 14) k) = nI v then zev sc (82, 32, [some (.ref 0), some (.int (nI k)), some (.int (nI v))], [], (197, i, zRF b, l)) else zev sc (82, 35, [some (.ref 0), some (.int (nI k)), some (.int (nI v))], [], (197, i, zRF b, l)) := by
    rw [b82_0, c_xFence sc _ _ _ _ _ hX.E, Option.bind_some]
    dsimp only
    rw [hz, b82_5, if_neg (by decide), b82_8, c_xFlag, Option.bind_some]
    dsimp only
    rw [if_pos hw, b82_12, if_neg (by decide), b82_17, hX.cut, zbit (by omega) (by omega)]
  have mh : ∀ i', MR S i' → zev sc (148, 0, [some (.ref 173), some (.int (nI k)), some (.int (nI v))], [], (197, i', zRF b, l)) = if nI (zbt (S 9 14) k) = nI v then zev sc (148, 43, [some (.ref 173), some (.int (nI k)), some (.int (nI v))], [], (197, i', zRF b, l)) else zev sc (148, 46, [some (.ref 173), some (.int (nI k)), some (.int (nI v))], [], (197, i', zRF b, l)) := by
    intro i' hM'
    rw [b148_0, c_mFence sc _ _ (by omega) _ _ _ hM'.E, Option.bind_some]
    dsimp only
    rw [hz, b148_5, if_neg (by decide), b148_8, c_in, Option.bind_some]
    dsimp only
    rw [b148_14, if_neg (fun z => (zin_m _ _ _).mp z hin01), b148_19, hM'.now (by decide), c_has sc (by omega) (by omega), Option.bind_some]
    dsimp only
    rw [b148_30]
    have hv2 : v = 0 ∨ v = 1 := by omega
    rcases hv2 with rfl | rfl
    · rw [if_neg (by decide), b148_39, b148_40]
      rfl
    · rw [if_pos (by decide), b148_35, b148_40]
      rfl
  by_cases h0 : zbt (S 9 14) k = v
  · refine zOp_p (r := .int (-2)) h ?_ ?_
    · rw [xh, if_pos (by rw [h0]), b82_32]
    · rw [mh i hM, if_pos (by rw [h0]), b148_43]
  have h0' : ¬ nI (zbt (S 9 14) k) = nI v := fun z => h0 ((nI_eq (by omega) (by omega)).mp z)
  have hlt : S 9 14 ^^^ 2 ^ k < 2 ^ S 1 0 := Nat.xor_lt_two_pow hI.cut (Nat.pow_lt_pow_right (by decide) hk)
  have hlt' : S 9 14 ^^^ 2 ^ k < 256 := Nat.lt_of_lt_of_le hlt (z2p hE)
  have ex : nI (S 9 14) ^^^ ((1 : Int32) <<< (nI k &&& 31)) = nI (S 9 14 ^^^ 2 ^ k) := by rw [zsh1 (by omega), nx_xor]
  obtain ⟨i1, n1, n2, n3⟩ := c_xNote sc hI i hX b l
  refine zOp_n (r := .int (nI (zpc (S 9 14 ^^^ 2 ^ k)))) (row := sSt (rN S) 14 (S 9 14 ^^^ 2 ^ k)) (i1' := zU i1 19 4 (nI (S 9 14 ^^^ 2 ^ k))) h (hI.now.scal hE hB 14 _ (by decide) hlt) n2 n3 (n2.now.scal hE hB 14 _ (by decide)) (fun c j hc => zUn _ _ (Or.inl (by omega))) ?_ ?_
  · have e1 : i1 19 4 = nI (S 9 14) := n2.cut
    rw [xh, if_neg h0', b82_35, n1, Option.bind_some]
    dsimp only
    rw [b82_46, zUs, e1, ex, c_bitCount sc hlt', Option.bind_some]
    dsimp only
    rw [b82_71]
  · intro hM1 i2 m1 m2
    refine ⟨zU i2 187 14 (nI (S 9 14 ^^^ 2 ^ k)), ?_, zMn m1 _ _, fun c j hc => zUn _ _ (Or.inl hc)⟩
    have e1 : i2 187 14 = nI (S 9 14) := m1.now (by decide)
    rw [mh _ hM1, if_neg h0', b148_46, m2, Option.bind_some]
    dsimp only
    rw [b148_50, zUs, e1, ex, c_bitsOf sc hlt', Option.bind_some]
    dsimp only
    rw [b148_73]
theorem op_lays (sc : zScr) {S : zS} {i : Nat → Nat → Int32} (b : Bool) {l : Nat → Nat → Int64} (h : Rl S i l) (w : Int32) : zOp sc 84 150 [some (.ref 0), some (.int w), none] [some (.ref 173), some (.int w), none] i b l := by
  obtain ⟨hI, hX, hM, hL⟩ := id h
  have hE := hI.E
  have hB := hI.B
  have hd' := hI.down'
  refine (zflag w).elim (fun hw => ?_) (fun hw => ?_)
  · have h2 := Nat.one_le_two_pow (n := S 1 0)
    have ew : ∃ v, v < 2 ^ S 1 0 ∧ (if w = 1 then nI (2 ^ S 1 0) - 1 else (0 : Int32)) = nI v := by
      by_cases h1 : w = 1
      · exact ⟨2 ^ S 1 0 - 1, by omega, by rw [if_pos h1, zall hE]⟩
      · exact ⟨0, by omega, by rw [if_neg h1]; rfl⟩
    obtain ⟨v, hv, ev⟩ := ew
    have hin01 : (0 : Int32) ≤ w ∧ w ≤ 1 := by rcases hw with rfl | rfl <;> exact ⟨by decide, by decide⟩
    have hlt' : S 9 15 ^^^ v < 256 := Nat.lt_of_lt_of_le (Nat.xor_lt_two_pow hI.down hv) (z2p hE)
    obtain ⟨i1, n1, n2, n3⟩ := c_xNote sc hI i hX b l
    refine zOp_n (r := .int (nI (zpc (S 9 15 ^^^ v)))) (row := sSt (rN S) 15 v) (i1' := zU i1 19 5 (nI v)) h (hI.now.scal hE hB 15 _ (by decide) hv) n2 n3 (n2.now.scal hE hB 15 _ (by decide)) (fun c j hc => zUn _ _ (Or.inl (by omega))) ?_ ?_
    · have e1 : i1 19 5 = nI (S 9 15) := n2.down
      have e2 : i1 3 1 = nI (S 1 0) := n2.E
      have fin : zev sc (84, 52, [some (.ref 0), some (.int w), some (.int (nI (S 9 15)))], [.int (nI v), .ref 19], (197, i1, zRF b, l)) = some (.int (nI (zpc (S 9 15 ^^^ v))), (197, zU i1 19 5 (nI v), zRF b, l)) := by
        rw [b84_52, zUs, nx_xor, c_bitCount sc hlt', Option.bind_some]
        dsimp only
        rw [b84_67]
      rw [b84_0, c_xFlag, Option.bind_some]
      dsimp only
      rw [if_pos hw, b84_4, if_neg (by decide), b84_9, n1, Option.bind_some]
      dsimp only
      rw [b84_20, e1]
      by_cases h1 : w = 1
      · rw [if_pos h1] at ev
        rw [if_pos h1, b84_37, e2, zsh1 (by omega), ev, fin]
      · rw [if_neg h1] at ev
        rw [if_neg h1, b84_51, ev, fin]
    · intro hM1 i2 m1 m2
      refine ⟨zU i2 187 15 (nI v), ?_, zMn m1 _ _, fun c j hc => zUn _ _ (Or.inl hc)⟩
      have e1 : i2 187 15 = nI (S 9 15) := m1.now (by decide)
      have e2 : i2 176 0 = nI (S 1 0) := m1.E
      have fin : zev sc (150, 47, [some (.ref 173), some (.int w), some (.int (nI (S 9 15)))], [.int (nI v), .int 15, .ref 187], (197, i2, zRF b, l)) = some (.int (nI (zpc (S 9 15 ^^^ v))), (197, zU i2 187 15 (nI v), zRF b, l)) := by
        rw [L15, b150_47 _ _ _ _ _ _ _ _ (vp_in_nI (by decide) (by decide)), nI_clamp (by decide), zUs, nx_xor, c_bitsOf sc hlt', Option.bind_some]
        dsimp only
        rw [b150_60]
      rw [b150_0, c_in, Option.bind_some]
      dsimp only
      rw [b150_6, if_neg (fun z => (zin_m _ _ _).mp z hin01), b150_11, m2, Option.bind_some]
      dsimp only
      rw [b150_15, e1]
      by_cases h1 : w = 1
      · rw [if_pos h1, zall hE] at ev
        rw [if_pos h1, b150_34, e2, c_allOf sc hE, Option.bind_some]
        dsimp only
        rw [b150_43, ev, fin]
      · rw [if_neg h1] at ev
        rw [if_neg h1, b150_46, ev, fin]
  · have hn : ¬ (w = 0 ∨ w = 1) := fun z => hw (by rcases z with rfl | rfl <;> exact ⟨by decide, by decide⟩)
    refine zOp_p (r := .int (-1)) h ?_ ?_
    · rw [b84_0, c_xFlag, Option.bind_some]
      dsimp only
      rw [if_neg hn, b84_4, if_pos rfl, b84_7]
    · rw [b150_0, c_in, Option.bind_some]
      dsimp only
      rw [b150_6, if_pos ((zin_m _ _ _).mpr hw), b150_9]
