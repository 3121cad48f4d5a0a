/-! downs: the loop over the items -/
def zswd (S : zS) (a : Nat) : Nat := if zso S a = 1 then zva S a else 0
theorem zswd_le {S : zS} (hb : ∀ j, j < S 17 0 → S 16 j < 256) (a : Nat) : zswd S a ≤ 999 := by
  unfold zswd
  by_cases h : zso S a = 1
  · rw [if_pos h]
    exact zva_le hb (Or.inl h)
  · rw [if_neg h]
    omega
theorem zAl_1 {S D : zS} {a : Nat} (h : zAl D (zswd S a)) : zso S a = 1 := by
  refine Decidable.byContradiction (fun z => ?_)
  have e : zswd S a = 0 := if_neg z
  rw [e] at h
  omega
theorem x_no (sc : zScr) {D : zS} (hV : VD D) (h13 : D 13 0 ≤ 150) {w : Nat} (hw : w < 2 ^ 31) (hno : ¬ zAl D w) (w3 : Option Value) (b : Bool) (l : Nat → Nat → Int64) (i : Nat → Nat → Int32) (hX : XD D i) : zev sc (60, 52, [some (.ref 1), some (.ref 11), some (.int (nI (D 13 0))), w3], [.int (nI w)], (197, i, zRF b, l)) = zev sc (60, 228, [some (.ref 1), some (.ref 11), some (.int (nI (D 13 0))), some (.int 0)], [], (197, i, zRF b, l)) := by
  obtain ⟨v1, v2, v3, v4, v5, v6, v7, v8, v9⟩ := hV
  obtain ⟨x1, x2, x3, x4, x5, x6, -⟩ := hX
  have ne : ∀ c : Nat, c < 2 ^ 31 → w ≠ c → ¬ nI w = nI c := fun c hc h z => h ((nI_eq hw hc).mp z)
  rw [b60_52]
  by_cases e1 : w = 110
  · rw [e1]
    show zev sc (60, 104, _, _, _) = _
    rw [b60_104, if_neg (fun z => by have := (nI_eq0 (by omega)).mp z; omega), b60_120, b60_121]
  by_cases e2 : w = 102
  · rw [e2]
    show zev sc (60, 125, _, _, _) = _
    rw [b60_125, x2, if_pos (show (8 : Int32) ≤ nI (D 1 0) from (nI_leI (a := 8) (by decide) (by omega)).mpr (by omega)), b60_146, b60_147]
  by_cases e3 : w = 107
  · rw [e3]
    show zev sc (60, 151, _, _, _) = _
    rw [b60_151, x3, if_pos (show (4 : Int32) ≤ nI (D 2 0) from (nI_leI (a := 4) (by decide) (by omega)).mpr (by omega)), b60_171, b60_172]
  by_cases e4 : w = 98
  · rw [e4]
    show zev sc (60, 176, _, _, _) = _
    rw [b60_176, x4, if_pos (show (6 : Int32) ≤ nI (D 3 0) from (nI_leI (a := 6) (by decide) (by omega)).mpr (by omega)), b60_197, b60_198]
  by_cases e5 : w = 119
  · rw [e5]
    show zev sc (60, 202, _, _, _) = _
    rw [b60_202, x6, if_neg (fun z => by have := (nI_eq0 (by omega)).mp z; omega), b60_221, b60_222]
  have hz : zcs (nI w) 226 [((98 : Int32), 176), ((102 : Int32), 125), ((107 : Int32), 151), ((110 : Int32), 104), ((119 : Int32), 202)] = 226 := by
    simp only [zcs, if_neg (show ¬ nI w = 98 from ne 98 (by decide) e4), if_neg (show ¬ nI w = 102 from ne 102 (by decide) e2), if_neg (show ¬ nI w = 107 from ne 107 (by decide) e3), if_neg (show ¬ nI w = 110 from ne 110 (by decide) e1), if_neg (show ¬ nI w = 119 from ne 119 (by decide) e5)]
  rw [hz, b60_226]
theorem x_step (sc : zScr) {S D : zS} (hn : S 17 0 ≤ 150) (hb : ∀ j, j < S 17 0 → S 16 j < 256) {a : Nat} (ha : a ≤ S 17 0) (h13 : D 13 0 ≤ 150) (hso : zso S a ≠ 0) (w3 : Option Value) (b : Bool) (l : Nat → Nat → Int64) (i : Nat → Nat → Int32) (hi : zXx S D a i) : ∃ i1, zev sc (60, 16, [some (.ref 1), some (.ref 11), some (.int (nI (D 13 0))), w3], [], (197, i, zRF b, l)) = zev sc (60, 52, [some (.ref 1), some (.ref 11), some (.int (nI (D 13 0))), w3], [.int (nI (zswd S a))], (197, i1, zRF b, l)) ∧ zXx S D (zen S a) i1 ∧ i1 1 4 = nI (zst S a) ∧ zFy i i1 := by
  have hs4 := zso_le S a
  obtain ⟨i1, p1, p2, p3, p4, p5, p6⟩ := c_xStep sc hn hb ha b l i hi.1 hi.2.1
  refine ⟨i1, ?_, ⟨hi.1.fx p6, p2, hi.2.2.fx p6⟩, p4, p6.fy⟩
  rw [b60_16, if_neg (show ¬ (150 : Int32) < nI (D 13 0) from nI_nlt (a := 150) h13 (by decide)), b60_23, p1, Option.bind_some]
  dsimp only
  rw [b60_27, p3, if_neg (fun z => hso ((nI_eq0 (by omega)).mp z)), b60_36, p3]
  unfold zswd
  by_cases h : zso S a = 1
  · rw [if_pos (show nI (zso S a) = 1 by rw [h]; rfl), if_pos h, b60_44, p5 (Or.inl h)]
  · rw [if_neg (show ¬ nI (zso S a) = 1 from fun z => h ((nI_eq (b := 1) (by omega) (by decide)).mp z)), if_neg h, b60_51]
    rfl
theorem m_word (sc : zScr) {S D : zS} (hb : ∀ j, j < S 17 0 → S 16 j < 256) {a : Nat} (hV : VD D) (h13 : D 13 0 ≤ 150) (hso : zso S a ≠ 0) (w2 : Option Value) (b : Bool) (l : Nat → Nat → Int64) (i : Nat → Nat → Int32) (hi : zMm S D a i) : zev sc (129, 56, [some (.ref 173), some (.int (nI (D 12 0))), w2], [], (197, i, zRF b, l)) = zev sc (129, 111, [some (.ref 173), some (.int (nI (D 12 0))), some (.int (nI (zswd S a)))], [.int (if zAl D (zswd S a) then 1 else 0), .ref 173], (197, i, zRF b, l)) := by
  have hs4 := zso_le S a
  have hle := zms_le hs4
  have hsw := zswd_le hb a
  obtain ⟨hT, hK, h18, hM⟩ := hi
  rw [b129_56, hK.2.2.1, if_neg (show ¬ nI (zms (zso S a)) = 4 from fun z => hso ((zms_4 hs4).mp ((nI_eq (b := 4) (by omega) (by decide)).mp z))), b129_64, if_pos h18, b129_71, hK.2.2.1]
  by_cases h : zso S a = 1
  · have e : zswd S a = zva S a := if_pos h
    rw [if_pos (show nI (zms (zso S a)) = 1 by rw [(zms_1 _).mpr h]; rfl), b129_79, hK.2.2.2 (Or.inl h), ← e, b129_87, hK.2.2.1, if_pos (show nI (zms (zso S a)) = 1 by rw [(zms_1 _).mpr h]; rfl), b129_97, c_may sc hV h13 (by omega) b l i hM, Option.bind_some]
    dsimp only
    rw [b129_103]
    by_cases g : zAl D (zswd S a)
    · rw [if_pos g, if_neg (by decide), b129_106]
    · rw [if_neg g, if_pos rfl, b129_110]
  · have e : zswd S a = 0 := if_neg h
    have hna : ¬ zAl D (zswd S a) := fun z => h (zAl_1 z)
    have hn1 : ¬ nI (zms (zso S a)) = 1 := fun z => h ((zms_1 _).mp ((nI_eq (b := 1) (by omega) (by decide)).mp z))
    rw [if_neg hn1, b129_86, b129_87, hK.2.2.1, if_neg hn1, b129_110, if_neg hna, e]
    rfl
theorem m_yes (sc : zScr) {S D : zS} (hn : S 17 0 ≤ 150) (hb : ∀ j, j < S 17 0 → S 16 j < 256) {a : Nat} (ha : a ≤ S 17 0) (hV : VD D) (w2 : Option Value) {w : Nat} (hw : w < 2 ^ 31) (b : Bool) (l : Nat → Nat → Int64) (i : Nat → Nat → Int32) (hi : zMm S D a i) (hh : zev sc (129, 56, [some (.ref 173), some (.int (nI (D 12 0))), w2], [], (197, i, zRF b, l)) = zev sc (129, 111, [some (.ref 173), some (.int (nI (D 12 0))), some (.int (nI w))], [.int 1, .ref 173], (197, i, zRF b, l))) : ∃ i1, zev sc (129, 56, [some (.ref 173), some (.int (nI (D 12 0))), w2], [], (197, i, zRF b, l)) = (zev sc (127, 0, [some (.ref 173), some (.int (nI w)), none, none], [], (197, i1, zRF b, l))).bind (fun x => zev sc (129, 142, [some (.ref 173), some (.int (nI (if nI w = 119 then 1 else D 12 0))), some (.int (nI w))], [], x.2)) ∧ zMm S D (zen S a) i1 ∧ zFd i i1 := by
  obtain ⟨hT, hK, h18, hM⟩ := hi
  have h12 := hV.2.2.2.2.2.2.2.2
  obtain ⟨i1, p1, p2, p3⟩ := c_mDueY sc hn hb ha b l i hT hK h18
  have h181 : i1 173 18 = 0 := by rw [p3 _ _ (by omega)]; exact h18
  refine ⟨i1, ?_, ⟨hT.fm p3, p2, h181, hM.fm p3⟩, p3.fd⟩
  rw [hh, b129_111, p1, Option.bind_some]
  dsimp only
  rw [b129_114, if_pos h181, b129_121]
  by_cases g : D 12 0 = 0
  · rw [if_pos ((nI_eq0 (by omega)).mpr g), b129_125]
    by_cases e : nI w = 119
    · rw [if_pos e, if_pos e, b129_131, b129_136]
      rfl
    · rw [if_neg e, if_neg e, b129_135, b129_136, g]
      rfl
  · have g1 : D 12 0 = 1 := by omega
    have e1 : (if nI w = 119 then 1 else D 12 0) = 1 := by
      split
      · rfl
      · exact g1
    rw [if_neg (fun z => g ((nI_eq0 (by omega)).mp z)), b129_131, b129_136, e1]
    rfl
theorem zLoop (sc : zScr) {S : zS} (hn : S 17 0 ≤ 150) (hb : ∀ j, j < S 17 0 → S 16 j < 256) (b : Bool) (l : Nat → Nat → Int64) : ∀ (n : Nat) (D : zS) (a : Nat) (w3 w2 : Option Value), 150 < a + n → a ≤ S 17 0 → VD D → D 13 0 ≤ a → (D 13 0 = 0 → D 1 0 = 0 ∧ D 3 0 = 0) → zCon b l (fun i => zev sc (60, 16, [some (.ref 1), some (.ref 11), some (.int (nI (D 13 0))), w3], [], (197, i, zRF b, l))) (fun i => zev sc (129, 56, [some (.ref 173), some (.int (nI (D 12 0))), w2], [], (197, i, zRF b, l))) (zXx S D a) (zMm S D a)
  | 0, D, a, w3, w2, hna, ha, hV, h13, hZ => by omega
  | n + 1, D, a, w3, w2, hna, ha, hV, h13, hZ => by
    have hs4 := zso_le S a
    have hle := zms_le hs4
    have hz := zen_ge ha
    have hs := zst_ge S a
    have hsw := zswd_le hb a
    by_cases hso : zso S a = 0
    · refine Or.inr ⟨D, hV, by omega, fun i hi => ?_, fun i hi => ?_⟩
      · obtain ⟨i1, p1, p2, p3, p4, p5, p6⟩ := c_xStep sc hn hb ha b l i hi.1 hi.2.1
        refine ⟨i1, ?_, hi.2.2.fx p6, p6.fy⟩
        show zev sc _ = _
        rw [b60_16, if_neg (show ¬ (150 : Int32) < nI (D 13 0) from nI_nlt (a := 150) (by omega) (by decide)), b60_23, p1, Option.bind_some]
        dsimp only
        rw [b60_27, p3, if_pos ((nI_eq0 (by omega)).mpr hso), b60_34]
      · refine ⟨i, ?_, hi.2.2.1, hi.2.2.2, zFd.refl i⟩
        show zev sc _ = _
        rw [b129_56, hi.2.1.2.2.1, if_pos (show nI (zms (zso S a)) = 4 by rw [(zms_4 hs4).mpr hso]; rfl), b129_172]
    by_cases hal : zAl D (zswd S a)
    rotate_left
    · refine Or.inl ⟨zst S a, by have := hs.2 ha; omega, fun i hi => ?_, fun i hi => ?_⟩
      · obtain ⟨i1, p1, p2, p3, p4⟩ := x_step sc hn hb ha (by omega) hso w3 b l i hi
        refine ⟨i1, ?_, p4⟩
        show zev sc _ = _
        rw [p1, x_no sc hV (by omega) (by omega) hal w3 b l i1 p2.2.2, b60_228, if_pos rfl, b60_239, p3]
      · refine ⟨zU i 173 18 1, ?_, ⟨by rw [zUs], by rw [zUn _ _ (Or.inr (by decide)), hi.2.1.2.1]⟩, zFd.m18 i 1⟩
        show zev sc _ = _
        rw [m_word sc hb hV (by omega) hso w2 b l i hi, if_neg hal, b129_111, c_mDueN sc b l i hi.2.2.1, Option.bind_some]
        dsimp only
        rw [b129_114, zUs, if_neg (by decide), b129_169, m_end sc b l _ _ _ (by rw [zUs])]
    have hze := hz.2.2 hso
    have IH : ∀ D' a', VD D' → zen S a ≤ a' → a' ≤ S 17 0 → D' 13 0 = D 13 0 + 1 → D' 12 0 = (if nI (zswd S a) = 119 then 1 else D 12 0) → zCon b l (fun i => zev sc (60, 16, [some (.ref 1), some (.ref 11), some (.int (nI (D' 13 0))), some (.int 1)], [], (197, i, zRF b, l))) (fun i => zev sc (129, 56, [some (.ref 173), some (.int (nI (D' 12 0))), some (.int (nI (zswd S a)))], [], (197, i, zRF b, l))) (zXx S D' a') (zMm S D' a') := fun D' a' hV' h1 h2 h3 _ => zLoop sc hn hb b l n D' a' (some (.int 1)) (some (.int (nI (zswd S a)))) (by omega) h2 hV' (by omega) (fun z => by omega)
    have fin : ∀ (kx Pw : Nat) (ax : List (Option Value)), (zItF sc S D (zen S a) b l kx ax (nI (zswd S a)) ∨ zItS sc S D (zen S a) b l kx ax (nI (zswd S a))) → (∀ i i' : Nat → Nat → Int32, ∀ r : Int32, (r = 0 ∨ r = 1) → zev sc (kx, 0, ax, [], (197, i, zRF b, l)) = some (.int r, (197, i', zRF b, l)) → zev sc (60, Pw, [some (.ref 1), some (.ref 11), some (.int (nI (D 13 0))), w3], [], (197, i, zRF b, l)) = zev sc (60, 228, [some (.ref 1), some (.ref 11), some (.int (nI (D 13 0))), some (.int r)], [], (197, i', zRF b, l))) → (∀ i, XD D i → zev sc (60, 52, [some (.ref 1), some (.ref 11), some (.int (nI (D 13 0))), w3], [.int (nI (zswd S a))], (197, i, zRF b, l)) = zev sc (60, Pw, [some (.ref 1), some (.ref 11), some (.int (nI (D 13 0))), w3], [], (197, i, zRF b, l))) → zCon b l (fun i => zev sc (60, 16, [some (.ref 1), some (.ref 11), some (.int (nI (D 13 0))), w3], [], (197, i, zRF b, l))) (fun i => zev sc (129, 56, [some (.ref 173), some (.int (nI (D 12 0))), w2], [], (197, i, zRF b, l))) (zXx S D a) (zMm S D a) := by
      intro kx Pw ax hit hP h52
      refine (zAft sc hn hb b l (by omega) hit hP IH).mono (fun i hi => ?_) (fun i hi => ?_)
      · obtain ⟨i1, p1, p2, p3, p4⟩ := x_step sc hn hb ha (by omega) hso w3 b l i hi
        exact ⟨i1, by rw [p1, h52 i1 p2.2.2], p2, p4⟩
      · exact m_yes sc hn hb ha hV w2 (by omega) b l i hi (by rw [m_word sc hb hV (by omega) hso w2 b l i hi, if_pos hal])
    have alt := hal
    rcases alt with ⟨e, h⟩ | ⟨e, h⟩ | ⟨e, h⟩ | ⟨e, h⟩ | ⟨e, h⟩
    · refine fin 61 108 [some (.ref 1), some (.ref 11)] ?_ (fun i i' r hr hc => ?_) (fun i hX => ?_)
      · rw [e]
        exact it_n sc hn hb hz.2.1 hV (hZ h).1 (hZ h).2 b l
      · rw [b60_108, hc, Option.bind_some]
        dsimp only
        rw [b60_113]
        rcases hr with rfl | rfl
        · rw [if_pos rfl, b60_120, b60_121]
        · rw [if_neg (by decide), b60_116, b60_121]
      · rw [e, b60_52]
        show zev sc (60, 104, _, _, _) = _
        rw [b60_104, h, if_pos (show nI 0 = 0 from rfl)]
    · refine fin 62 134 [some (.ref 1), some (.ref 11), none] ?_ (fun i i' r hr hc => ?_) (fun i hX => ?_)
      · rw [e]
        exact it_f sc hn hb hz.2.1 hV h b l
      · rw [b60_134, hc, Option.bind_some]
        dsimp only
        rw [b60_139]
        rcases hr with rfl | rfl
        · rw [if_pos rfl, b60_146, b60_147]
        · rw [if_neg (by decide), b60_142, b60_147]
      · rw [e, b60_52]
        show zev sc (60, 125, _, _, _) = _
        rw [b60_125, hX.2.1, if_neg (show ¬ (8 : Int32) ≤ nI (D 1 0) from zq_nle (a := 8) h (by decide))]
    · refine fin 63 159 [some (.ref 1), some (.ref 11), none] ?_ (fun i i' r hr hc => ?_) (fun i hX => ?_)
      · rw [e]
        exact it_k sc hn hb hz.2.1 hV h b l
      · rw [b60_159, hc, Option.bind_some]
        dsimp only
        rw [b60_164]
        rcases hr with rfl | rfl
        · rw [if_pos rfl, b60_171, b60_172]
        · rw [if_neg (by decide), b60_167, b60_172]
      · rw [e, b60_52]
        show zev sc (60, 151, _, _, _) = _
        rw [b60_151, hX.2.2.1, if_neg (show ¬ (4 : Int32) ≤ nI (D 2 0) from zq_nle (a := 4) h (by decide))]
    · refine fin 64 185 [some (.ref 1), some (.ref 11), none] ?_ (fun i i' r hr hc => ?_) (fun i hX => ?_)
      · rw [e]
        exact it_b sc hn hb hz.2.1 hV h b l
      · rw [b60_185, hc, Option.bind_some]
        dsimp only
        rw [b60_190]
        rcases hr with rfl | rfl
        · rw [if_pos rfl, b60_197, b60_198]
        · rw [if_neg (by decide), b60_193, b60_198]
      · rw [e, b60_52]
        show zev sc (60, 176, _, _, _) = _
        rw [b60_176, hX.2.2.2.1, if_neg (show ¬ (6 : Int32) ≤ nI (D 3 0) from zq_nle (a := 6) h (by decide))]
    · refine fin 65 209 [some (.ref 1), some (.ref 11)] ?_ (fun i i' r hr hc => ?_) (fun i hX => ?_)
      · rw [e]
        exact it_w sc hn hb hz.2.1 hV b l
      · rw [b60_209, hc, Option.bind_some]
        dsimp only
        rw [b60_214]
        rcases hr with rfl | rfl
        · rw [if_pos rfl, b60_221, b60_222]
        · rw [if_neg (by decide), b60_217, b60_222]
      · rw [e, b60_52]
        show zev sc (60, 202, _, _, _) = _
        rw [b60_202, hX.2.2.2.2.2.1, h, if_pos (show nI 0 = 0 from rfl)]
