/-! downs: a text is told -/
def zCon (b : Bool) (l : Nat → Nat → Int64) (RX RM : (Nat → Nat → Int32) → Option zRs) (PX PM : (Nat → Nat → Int32) → Prop) : Prop := (∃ p, p ≤ 150 ∧ (∀ i, PX i → ∃ i', RX i = some (.int (-10 - nI p), (197, i', zRF b, l)) ∧ zFy i i') ∧ ∀ i, PM i → ∃ i', RM i = some (.null, (197, i', zRF b, l)) ∧ zWw p i' ∧ zFd i i') ∨ ∃ D' : zS, VD D' ∧ D' 13 0 ≤ 150 ∧ (∀ i, PX i → ∃ i', RX i = some (.int (nI (D' 13 0)), (197, i', zRF b, l)) ∧ XD D' i' ∧ zFy i i') ∧ ∀ i, PM i → ∃ i', RM i = some (.null, (197, i', zRF b, l)) ∧ i' 173 18 = 0 ∧ MD D' i' ∧ zFd i i'
theorem zCon.mono {b : Bool} {l : Nat → Nat → Int64} {RX RM RX1 RM1 : (Nat → Nat → Int32) → Option zRs} {PX PM PX1 PM1 : (Nat → Nat → Int32) → Prop} (h : zCon b l RX1 RM1 PX1 PM1) (hx : ∀ i, PX i → ∃ i1, RX i = RX1 i1 ∧ PX1 i1 ∧ zFy i i1) (hm : ∀ i, PM i → ∃ i1, RM i = RM1 i1 ∧ PM1 i1 ∧ zFd i i1) : zCon b l RX RM PX PM := by
  rcases h with ⟨p, hp, h1, h2⟩ | ⟨D', h3, h4, h1, h2⟩
  · refine Or.inl ⟨p, hp, fun i hi => ?_, fun i hi => ?_⟩
    · obtain ⟨i1, a1, a2, a3⟩ := hx i hi
      obtain ⟨i', b1, b2⟩ := h1 i1 a2
      exact ⟨i', by rw [a1, b1], a3.trans b2⟩
    · obtain ⟨i1, a1, a2, a3⟩ := hm i hi
      obtain ⟨i', b1, b2, b3⟩ := h2 i1 a2
      exact ⟨i', by rw [a1, b1], b2, a3.trans b3⟩
  · refine Or.inr ⟨D', h3, h4, fun i hi => ?_, fun i hi => ?_⟩
    · obtain ⟨i1, a1, a2, a3⟩ := hx i hi
      obtain ⟨i', b1, b2, b3⟩ := h1 i1 a2
      exact ⟨i', by rw [a1, b1], b2, a3.trans b3⟩
    · obtain ⟨i1, a1, a2, a3⟩ := hm i hi
      obtain ⟨i', b1, b2, b3, b4⟩ := h2 i1 a2
      exact ⟨i', by rw [a1, b1], b2, b3, a3.trans b4⟩
abbrev zAl (D : zS) (w : Nat) : Prop := (w = 110 ∧ D 13 0 = 0) ∨ (w = 102 ∧ D 1 0 < 8) ∨ (w = 107 ∧ D 2 0 < 4) ∨ (w = 98 ∧ D 3 0 < 6) ∨ (w = 119 ∧ D 12 0 = 0)
theorem c_may (sc : zScr) {D : zS} (hV : VD D) (h13 : D 13 0 ≤ 150) {w : Nat} (hw : w < 2 ^ 31) (b : Bool) (l : Nat → Nat → Int64) (i : Nat → Nat → Int32) (hM : MD D i) : zev sc (128, 0, [some (.ref 173), some (.int (nI w)), some (.int (nI (D 12 0)))], [], (197, i, zRF b, l)) = some (.int (if zAl D w then 1 else 0), (197, i, zRF b, l)) := by
  obtain ⟨v1, v2, v3, v4, v5, v6, v7, v8, v9⟩ := hV
  obtain ⟨m1, m2, m3, m4, m5, m6, -⟩ := hM
  have ne : ∀ c : Nat, c < 2 ^ 31 → w ≠ c → ¬ nI w = nI c := fun c hc h z => h ((nI_eq hw hc).mp z)
  rw [b128_0]
  by_cases e1 : w = 110
  · rw [e1]
    show zev sc (128, 44, _, _, _) = _
    rw [b128_44, m6]
    by_cases g : D 13 0 = 0
    · rw [if_pos ((nI_eq0 (by omega)).mpr g), b128_51, b128_56 _ _ _ _ _ _ _ (Or.inr rfl), if_pos (Or.inl ⟨rfl, g⟩)]
    · rw [if_neg (fun z => g ((nI_eq0 (by omega)).mp z)), b128_55, b128_56 _ _ _ _ _ _ _ (Or.inl rfl), if_neg (by omega)]
  by_cases e2 : w = 102
  · rw [e2]
    show zev sc (128, 57, _, _, _) = _
    rw [b128_57, m2]
    by_cases g : D 1 0 < 8
    · rw [if_neg (show ¬ (8 : Int32) ≤ nI (D 1 0) from zq_nle (a := 8) g (by decide)), b128_68, b128_73 _ _ _ _ _ _ _ (Or.inr rfl), if_pos (Or.inr (Or.inl ⟨rfl, g⟩))]
    · rw [if_pos (show (8 : Int32) ≤ nI (D 1 0) from (nI_leI (a := 8) (by decide) (by omega)).mpr (by omega)), b128_72, b128_73 _ _ _ _ _ _ _ (Or.inl rfl), if_neg (by omega)]
  by_cases e3 : w = 107
  · rw [e3]
    show zev sc (128, 74, _, _, _) = _
    rw [b128_74, m3]
    by_cases g : D 2 0 < 4
    · rw [if_neg (show ¬ (4 : Int32) ≤ nI (D 2 0) from zq_nle (a := 4) g (by decide)), b128_84, b128_89 _ _ _ _ _ _ _ (Or.inr rfl), if_pos (Or.inr (Or.inr (Or.inl ⟨rfl, g⟩)))]
    · rw [if_pos (show (4 : Int32) ≤ nI (D 2 0) from (nI_leI (a := 4) (by decide) (by omega)).mpr (by omega)), b128_88, b128_89 _ _ _ _ _ _ _ (Or.inl rfl), if_neg (by omega)]
  by_cases e4 : w = 98
  · rw [e4]
    show zev sc (128, 90, _, _, _) = _
    rw [b128_90, m4]
    by_cases g : D 3 0 < 6
    · rw [if_neg (show ¬ (6 : Int32) ≤ nI (D 3 0) from zq_nle (a := 6) g (by decide)), b128_101, b128_106 _ _ _ _ _ _ _ (Or.inr rfl), if_pos (Or.inr (Or.inr (Or.inr (Or.inl ⟨rfl, g⟩))))]
    · rw [if_pos (show (6 : Int32) ≤ nI (D 3 0) from (nI_leI (a := 6) (by decide) (by omega)).mpr (by omega)), b128_105, b128_106 _ _ _ _ _ _ _ (Or.inl rfl), if_neg (by omega)]
  have hz : zcs (nI w) 107 [((98 : Int32), 90), ((102 : Int32), 57), ((107 : Int32), 74), ((110 : Int32), 44)] = 107 := by
    simp only [zcs, if_neg (show ¬ nI w = 98 from ne 98 (by decide) e4), if_neg (show ¬ nI w = 102 from ne 102 (by decide) e2), if_neg (show ¬ nI w = 107 from ne 107 (by decide) e3), if_neg (show ¬ nI w = 110 from ne 110 (by decide) e1)]
  rw [hz, b128_107]
  by_cases e5 : w = 119
  · rw [if_pos (show nI w = 119 by rw [e5]; rfl), b128_113]
    by_cases g : D 12 0 = 0
    · rw [if_pos ((nI_eq0 (by omega)).mpr g), b128_117, b128_122 _ _ _ _ _ _ _ (Or.inr rfl), if_pos (Or.inr (Or.inr (Or.inr (Or.inr ⟨e5, g⟩))))]
    · rw [if_neg (fun z => g ((nI_eq0 (by omega)).mp z)), b128_121, b128_122 _ _ _ _ _ _ _ (Or.inl rfl), if_neg (by omega)]
  · rw [if_neg (show ¬ nI w = 119 from ne 119 (by decide) e5), b128_121, b128_122 _ _ _ _ _ _ _ (Or.inl rfl), if_neg (by omega)]
theorem m_end (sc : zScr) (b : Bool) (l : Nat → Nat → Int64) (v1 : Int32) (w2 : Option Value) (i : Nat → Nat → Int32) (h18 : i 173 18 = 1) : zev sc (129, 56, [some (.ref 173), some (.int v1), w2], [], (197, i, zRF b, l)) = some (.null, (197, i, zRF b, l)) := by
  rw [b129_56]
  by_cases h : i 173 16 = 4
  · rw [if_pos h, b129_172]
  · rw [if_neg h, b129_64, h18, if_neg (by decide), b129_172]
theorem m_wrong (sc : zScr) (b : Bool) (l : Nat → Nat → Int64) (v1 v2 s0 : Int32) (i : Nat → Nat → Int32) (h18 : i 173 18 = 1) : zev sc (129, 142, [some (.ref 173), some (.int v1), some (.int v2)], [], (197, i, zRF b, l)) = some (.null, (197, zU i 173 19 (i 173 19 + 1), zRF b, l)) := by
  have h : ∀ u : Int32, zev sc (129, 156, [some (.ref 173), some (.int v1), some (.int v2)], [.int u, .ref 173], (197, i, zRF b, l)) = some (.null, (197, zU i 173 19 (i 173 19 + 1), zRF b, l)) := by
    intro u
    rw [b129_156, c_mDueW sc u b l i h18, Option.bind_some]
    dsimp only
    rw [b129_159, b129_169, m_end sc b l _ _ _ (by rw [zUn _ _ (Or.inr (by decide))]; exact h18)]
  rw [b129_142]
  by_cases g : i 173 16 = 3
  · rw [if_pos g, b129_151, h]
  · rw [if_neg g, b129_155, h]
theorem XD.d13 {D : zS} {i : Nat → Nat → Int32} (h : XD D i) (v : Nat) : XD (zU D 13 0 v) i := by
  obtain ⟨x1, x2, x3, x4, x5, x6, x7, x8, x9⟩ := h
  have n1 : ∀ c t, c ≠ 13 → zU D 13 0 v c t = D c t := fun c t h => zUn _ _ (Or.inl h)
  refine ⟨by rw [n1 _ _ (by decide)]; exact x1, by rw [n1 _ _ (by decide)]; exact x2, by rw [n1 _ _ (by decide)]; exact x3, by rw [n1 _ _ (by decide)]; exact x4, by rw [n1 _ _ (by decide)]; exact x5, by rw [n1 _ _ (by decide)]; exact x6, fun f hf => ?_, fun k hk => ?_, fun c hc => ?_⟩
  · rw [n1 _ _ (by decide)] at hf
    rw [n1 _ _ (by decide), n1 _ _ (by decide), n1 _ _ (by decide)]; exact x7 f hf
  · rw [n1 _ _ (by decide)] at hk
    rw [n1 _ _ (by decide), n1 _ _ (by decide)]; exact x8 k hk
  · rw [n1 _ _ (by decide)] at hc
    rw [n1 _ _ (by decide), n1 _ _ (by decide)]; exact x9 c hc
theorem MD.d13 {D : zS} {i : Nat → Nat → Int32} (h : MD D i) (v : Nat) : MD (zU D 13 0 v) (zU i 173 19 (nI v)) := by
  obtain ⟨x1, x2, x3, x4, x5, x6, x7, x8, x9⟩ := h
  have n1 : ∀ c t, c ≠ 13 → zU D 13 0 v c t = D c t := fun c t h => zUn _ _ (Or.inl h)
  have n2 : ∀ c t, c ≠ 173 → zU i 173 19 (nI v) c t = i c t := fun c t h => zUn _ _ (Or.inl h)
  refine ⟨by rw [n1 _ _ (by decide), n2 _ _ (by decide)]; exact x1, by rw [n1 _ _ (by decide), n2 _ _ (by decide)]; exact x2, by rw [n1 _ _ (by decide), n2 _ _ (by decide)]; exact x3, by rw [n1 _ _ (by decide), n2 _ _ (by decide)]; exact x4, by rw [n1 _ _ (by decide), n2 _ _ (by decide)]; exact x5, by rw [zUs, zUs], fun f hf => ?_, fun k hk => ?_, fun c hc => ?_⟩
  · rw [n1 _ _ (by decide)] at hf
    rw [n1 _ _ (by decide), n1 _ _ (by decide), n1 _ _ (by decide), n2 _ _ (by decide), n2 _ _ (by decide), n2 _ _ (by decide)]; exact x7 f hf
  · rw [n1 _ _ (by decide)] at hk
    rw [n1 _ _ (by decide), n1 _ _ (by decide), n2 _ _ (by decide), n2 _ _ (by decide)]; exact x8 k hk
  · rw [n1 _ _ (by decide)] at hc
    rw [n1 _ _ (by decide), n1 _ _ (by decide), n2 _ _ (by decide), n2 _ _ (by decide)]; exact x9 c hc
theorem VD.d13 {D : zS} (h : VD D) (v : Nat) : VD (zU D 13 0 v) := by
  obtain ⟨x1, x2, x3, x4, x5, x6, x7, x8, x9⟩ := h
  have n1 : ∀ c t, c ≠ 13 → zU D 13 0 v c t = D c t := fun c t h => zUn _ _ (Or.inl h)
  refine ⟨by rw [n1 _ _ (by decide)]; exact x1, by rw [n1 _ _ (by decide)]; exact x2, by rw [n1 _ _ (by decide)]; exact x3, by rw [n1 _ _ (by decide)]; exact x4, fun f hf => ?_, fun k hk => ?_, fun c hc => ?_, by rw [n1 _ _ (by decide)]; exact x8, by rw [n1 _ _ (by decide)]; exact x9⟩
  · rw [n1 _ _ (by decide)] at hf
    rw [n1 _ _ (by decide), n1 _ _ (by decide), n1 _ _ (by decide), n1 _ _ (by decide)]; exact x5 f hf
  · rw [n1 _ _ (by decide)] at hk
    rw [n1 _ _ (by decide), n1 _ _ (by decide)]; exact x6 k hk
  · rw [n1 _ _ (by decide)] at hc
    rw [n1 _ _ (by decide), n1 _ _ (by decide), n1 _ _ (by decide), n1 _ _ (by decide)]; exact x7 c hc
theorem zms_3 {n : Nat} (h : n ≤ 4) : zms n = 3 ↔ n = 3 := by
  unfold zms
  repeat' split
  all_goals omega
theorem zms_4 {n : Nat} (h : n ≤ 4) : zms n = 4 ↔ n = 0 := by
  unfold zms
  repeat' split
  all_goals omega
theorem zms_1 (n : Nat) : zms n = 1 ↔ n = 1 := by
  unfold zms
  repeat' split
  all_goals omega
/-- the run behind a letter that may stand: the item, its stop, what follows -/
theorem zAft (sc : zScr) {S D : zS} (hn : S 17 0 ≤ 150) (hb : ∀ j, j < S 17 0 → S 16 j < 256) {a : Nat} (b : Bool) (l : Nat → Nat → Int64) {kx Pw w : Nat} {ax : List (Option Value)} {w3 : Option Value} (h13 : D 13 0 ≤ 150) (hit : zItF sc S D a b l kx ax (nI w) ∨ zItS sc S D a b l kx ax (nI w))
    (hP : ∀ i i' : Nat → Nat → Int32, ∀ r : Int32, (r = 0 ∨ r = 1) → zev sc (kx, 0, ax, [], (197, i, zRF b, l)) = some (.int r, (197, i', zRF b, l)) → zev sc (60, Pw, [some (.ref 1), some (.ref 11), some (.int (nI (D 13 0))), w3], [], (197, i, zRF b, l)) = zev sc (60, 228, [some (.ref 1), some (.ref 11), some (.int (nI (D 13 0))), some (.int r)], [], (197, i', zRF b, l)))
    (IH : ∀ D' a', VD D' → a ≤ a' → a' ≤ S 17 0 → D' 13 0 = D 13 0 + 1 → D' 12 0 = (if nI w = 119 then 1 else D 12 0) → zCon b l (fun i => zev sc (60, 16, [some (.ref 1), some (.ref 11), some (.int (nI (D' 13 0))), some (.int 1)], [], (197, i, zRF b, l))) (fun i => zev sc (129, 56, [some (.ref 173), some (.int (nI (D' 12 0))), some (.int (nI w))], [], (197, i, zRF b, l))) (zXx S D' a') (zMm S D' a')) :
    zCon b l (fun i => zev sc (60, Pw, [some (.ref 1), some (.ref 11), some (.int (nI (D 13 0))), w3], [], (197, i, zRF b, l))) (fun i => (zev sc (127, 0, [some (.ref 173), some (.int (nI w)), none, none], [], (197, i, zRF b, l))).bind (fun x => zev sc (129, 142, [some (.ref 173), some (.int (nI (if nI w = 119 then 1 else D 12 0))), some (.int (nI w))], [], x.2))) (zXx S D a) (zMm S D a) := by
  rcases hit with ⟨p, hp, h1, h2⟩ | ⟨D', a', hV', ⟨ha1, ha2⟩, e13, e12, h1, h2⟩
  · refine Or.inl ⟨p, by omega, fun i hi => ?_, fun i hi => ?_⟩
    · obtain ⟨i', q1, q2, q3⟩ := h1 i hi
      refine ⟨i', ?_, q3⟩
      show zev sc _ = _
      rw [hP i i' 0 (Or.inl rfl) q1, b60_228, if_pos rfl, b60_239, q2]
    · obtain ⟨i', q1, q2, q3⟩ := h2 i hi
      refine ⟨zU i' 173 19 (i' 173 19 + 1), ?_, ⟨by rw [zUn _ _ (Or.inr (by decide))]; exact q2.1, by rw [zUn _ _ (Or.inr (by decide))]; exact q2.2⟩, q3.one (by unfold mrd; omega) _⟩
      show Option.bind _ _ = _
      rw [q1, Option.bind_some]
      dsimp only
      rw [m_wrong sc b l _ _ 0 i' q2.1]
  · have hz := zen_ge ha2
    have hs := zst_ge S a'
    by_cases hst : zso S a' = 3
    · refine (IH (zU D' 13 0 (D' 13 0 + 1)) (zen S a') (hV'.d13 _) (by omega) hz.2.1 (by rw [zUs, e13]) (by rw [zUn _ _ (Or.inl (by decide))]; exact e12)).mono (fun i hi => ?_) (fun i hi => ?_)
      · obtain ⟨i', q1, q2, q3⟩ := h1 i hi
        obtain ⟨i2, r1, r2, r3, r4⟩ := c_xStop sc hn hb ha2 b l i' q2.1 q2.2.1
        refine ⟨i2, ?_, ⟨q2.1.fx r4, r2, (q2.2.2.fx r4).d13 _⟩, q3.trans r4.fy⟩
        show zev sc _ = zev sc _
        rw [hP i i' 1 (Or.inr rfl) q1, b60_228, if_neg (by decide), b60_232, r1, if_pos hst, Option.bind_some]
        dsimp only
        rw [b60_236, if_neg (by decide), b60_247, zUs, e13, nI_1]
      · obtain ⟨i', q1, q2, q3⟩ := h2 i hi
        obtain ⟨i2, r1, r2, r3⟩ := c_mDueY sc hn hb ha2 b l i' q2.1 q2.2.1 q2.2.2.1
        have e19 : i2 173 19 = nI (D' 13 0) := by rw [r3 _ _ (by omega)]; exact q2.2.2.2.2.2.2.2.2.1
        have hM2 := (q2.2.2.2.fm r3).d13 (D' 13 0 + 1)
        have hfd : zFd i (zU i2 173 19 (nI (D' 13 0 + 1))) := (q3.trans r3.fd).one (by unfold mrd; omega) _
        refine ⟨zU i2 173 19 (nI (D' 13 0 + 1)), ?_, ⟨hi.1.fd hfd, r2.congr (fun t _ _ => zUn _ _ (Or.inr (by omega))), by rw [zUn _ _ (Or.inr (by decide)), r3 _ _ (by omega)]; exact q2.2.2.1, hM2⟩, hfd⟩
        show Option.bind _ _ = zev sc _
        rw [q1, Option.bind_some]
        dsimp only
        rw [b129_142, q2.2.1.2.2.1, if_pos (show nI (zms (zso S a')) = 3 by rw [hst]; rfl), b129_151, b129_156, r1, Option.bind_some]
        dsimp only
        rw [b129_159, e19, nI_1, b129_169, zUn (f := D') (a := 13) (j := 0) _ (q := 12) (t := 0) (Or.inl (by decide)), e12]
    · have hle := zms_le (zso_le S a')
      refine Or.inl ⟨zst S a', by have := hs.2 ha2; omega, fun i hi => ?_, fun i hi => ?_⟩
      · obtain ⟨i', q1, q2, q3⟩ := h1 i hi
        obtain ⟨i2, r1, r2, r3, r4⟩ := c_xStop sc hn hb ha2 b l i' q2.1 q2.2.1
        refine ⟨i2, ?_, q3.trans r4.fy⟩
        show zev sc _ = _
        rw [hP i i' 1 (Or.inr rfl) q1, b60_228, if_neg (by decide), b60_232, r1, if_neg hst, Option.bind_some]
        dsimp only
        rw [b60_236, if_pos rfl, b60_239, r3]
      · obtain ⟨i', q1, q2, q3⟩ := h2 i hi
        refine ⟨zU (zU i' 173 18 1) 173 19 (zU i' 173 18 1 173 19 + 1), ?_, ⟨by rw [zUn _ _ (Or.inr (by decide)), zUs], by rw [zUn _ _ (Or.inr (by decide)), zUn _ _ (Or.inr (by decide)), q2.2.1.2.1]⟩, ((q3.one (by unfold mrd; omega) _).one (by unfold mrd; omega) _)⟩
        show Option.bind _ _ = _
        rw [q1, Option.bind_some]
        dsimp only
        rw [b129_142, q2.2.1.2.2.1, if_neg (show ¬ nI (zms (zso S a')) = 3 from fun z => hst ((zms_3 (zso_le S a')).mp ((nI_eq (b := 3) (by omega) (by decide)).mp z))), b129_155, b129_156, c_mDueN sc b l i' q2.2.2.1, Option.bind_some]
        dsimp only
        rw [b129_159, b129_169, m_end sc b l _ _ _ (by rw [zUn _ _ (Or.inr (by decide)), zUs])]
