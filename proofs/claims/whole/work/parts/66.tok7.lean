/-! downs: the items k, b -/
theorem VD.kind {D : zS} (h : VD D) {u v : Nat} (hu : u ≤ 6) (hv : v ≤ 9) (hf : D 2 0 < 4) : VD (zU (zU (zU D 6 (D 2 0) u) 7 (D 2 0) v) 2 0 (D 2 0 + 1)) := by
  obtain ⟨v1, v2, v3, v4, v5, v6, v7, v8, v9⟩ := h
  have n1 : ∀ c t, (c ≠ 2 ∨ t ≠ 0) → (c ≠ 7 ∨ t ≠ D 2 0) → (c ≠ 6 ∨ t ≠ D 2 0) → zU (zU (zU D 6 (D 2 0) u) 7 (D 2 0) v) 2 0 (D 2 0 + 1) c t = D c t := fun c t g1 g2 g3 => by rw [zUn _ _ g1, zUn _ _ g2, zUn _ _ g3]
  refine ⟨by rw [n1 _ _ (by omega) (by omega) (by omega)]; exact v1, by rw [n1 _ _ (by omega) (by omega) (by omega)]; exact v2, by rw [zUs]; omega, by rw [n1 _ _ (by omega) (by omega) (by omega)]; exact v4, fun g hg => ?_, fun k hk => ?_, fun c hc => ?_, by rw [n1 _ _ (by omega) (by omega) (by omega)]; exact v8, by rw [n1 _ _ (by omega) (by omega) (by omega)]; exact v9⟩
  · rw [n1 _ _ (by omega) (by omega) (by omega)] at hg
    rw [n1 0 0 (by omega) (by omega) (by omega), n1 4 g (by omega) (by omega) (by omega), n1 5 g (by omega) (by omega) (by omega), n1 9 (6 + g) (by omega) (by omega) (by omega)]
    exact v5 g hg
  · rw [zUs] at hk
    by_cases e : k = D 2 0
    · rw [e, zUn (a := 2) (j := 0) _ _ (by omega), zUn (a := 7) (j := D 2 0) _ _ (by omega), zUs, zUn (a := 2) (j := 0) _ _ (by omega), zUs]
      exact ⟨hu, hv⟩
    · rw [n1 6 k (by omega) (by omega) (by omega), n1 7 k (by omega) (by omega) (by omega)]
      exact v6 k (by omega)
  · rw [n1 3 0 (by omega) (by omega) (by omega)] at hc
    have := v7 c hc
    rw [n1 8 c (by omega) (by omega) (by omega), zUs, n1 9 c (by omega) (by omega) (by omega), n1 0 0 (by omega) (by omega) (by omega)]
    exact ⟨by omega, this.2⟩
theorem XD.kind {D : zS} {i i' : Nat → Nat → Int32} (h : XD D i) (hV : VD D) {u v : Nat} (hf : D 2 0 < 4) (he : ∀ c t, (c ≠ 1 ∨ t < 2 ∨ 5 < t) → i' c t = zU (zU (zU i 15 (D 2 0) (nI u - 3)) 16 (D 2 0) (nI v)) 11 5 (nI (D 2 0 + 1)) c t) : XD (zU (zU (zU D 6 (D 2 0) u) 7 (D 2 0) v) 2 0 (D 2 0 + 1)) i' := by
  obtain ⟨x1, x2, x3, x4, x5, x6, x7, x8, x9⟩ := h
  have n1 : ∀ c t, (c ≠ 2 ∨ t ≠ 0) → (c ≠ 7 ∨ t ≠ D 2 0) → (c ≠ 6 ∨ t ≠ D 2 0) → zU (zU (zU D 6 (D 2 0) u) 7 (D 2 0) v) 2 0 (D 2 0 + 1) c t = D c t := fun c t g1 g2 g3 => by rw [zUn _ _ g1, zUn _ _ g2, zUn _ _ g3]
  have n2 : ∀ c t, (c ≠ 1 ∨ t < 2 ∨ 5 < t) → (c ≠ 11 ∨ t ≠ 5) → (c ≠ 16 ∨ t ≠ D 2 0) → (c ≠ 15 ∨ t ≠ D 2 0) → i' c t = i c t := fun c t g0 g1 g2 g3 => by rw [he c t g0, zUn _ _ g1, zUn _ _ g2, zUn _ _ g3]
  refine ⟨by rw [n1 _ _ (by omega) (by omega) (by omega), n2 _ _ (by omega) (by omega) (by omega) (by omega)]; exact x1, by rw [n1 _ _ (by omega) (by omega) (by omega), n2 _ _ (by omega) (by omega) (by omega) (by omega)]; exact x2, by rw [he _ _ (by omega), zUs, zUs], by rw [n1 _ _ (by omega) (by omega) (by omega), n2 _ _ (by omega) (by omega) (by omega) (by omega)]; exact x4, by rw [n1 _ _ (by omega) (by omega) (by omega), n2 _ _ (by omega) (by omega) (by omega) (by omega)]; exact x5, by rw [n1 _ _ (by omega) (by omega) (by omega), n2 _ _ (by omega) (by omega) (by omega) (by omega)]; exact x6, fun g hg => ?_, fun k hk => ?_, fun c hc => ?_⟩
  · rw [n1 _ _ (by omega) (by omega) (by omega)] at hg
    have hg8 := hV.2.1
    rw [n1 4 g (by omega) (by omega) (by omega), n1 5 g (by omega) (by omega) (by omega), n1 9 (6 + g) (by omega) (by omega) (by omega), n2 12 g (by omega) (by omega) (by omega) (by omega), n2 13 g (by omega) (by omega) (by omega) (by omega), n2 14 g (by omega) (by omega) (by omega) (by omega)]
    exact x7 g hg
  · rw [zUs] at hk
    by_cases e : k = D 2 0
    · rw [e, he 15 _ (by omega), he 16 _ (by omega)]
      refine ⟨?_, ?_⟩
      · rw [zUn _ _ (by omega), zUn _ _ (by omega), zUs, zUn (a := 2) (j := 0) _ _ (by omega), zUn (a := 7) (j := D 2 0) _ _ (by omega), zUs]
      · rw [zUn _ _ (by omega), zUs, zUn (a := 2) (j := 0) _ _ (by omega), zUs]
    · rw [n1 6 k (by omega) (by omega) (by omega), n1 7 k (by omega) (by omega) (by omega), n2 15 k (by omega) (by omega) (by omega) (by omega), n2 16 k (by omega) (by omega) (by omega) (by omega)]
      exact x8 k (by omega)
  · rw [n1 3 0 (by omega) (by omega) (by omega)] at hc
    rw [n1 8 c (by omega) (by omega) (by omega), n1 9 c (by omega) (by omega) (by omega), n2 17 c (by omega) (by omega) (by omega) (by omega), n2 18 c (by omega) (by omega) (by omega) (by omega)]
    exact x9 c hc
theorem MD.kind {D : zS} {i i' : Nat → Nat → Int32} (h : MD D i) (hV : VD D) {u v : Nat} (hf : D 2 0 < 4) (he : ∀ c t, (175 ≤ c ∧ c ≤ 186 ∨ c = 173 ∧ t = 19) → i' c t = zU (zU (zU i 181 (4 + D 2 0) (nI u - 3)) 182 (4 + D 2 0) (nI v)) 180 1 (nI (D 2 0 + 1)) c t) : MD (zU (zU (zU D 6 (D 2 0) u) 7 (D 2 0) v) 2 0 (D 2 0 + 1)) i' := by
  obtain ⟨x1, x2, x3, x4, x5, x6, x7, x8, x9⟩ := h
  have n1 : ∀ c t, (c ≠ 2 ∨ t ≠ 0) → (c ≠ 7 ∨ t ≠ D 2 0) → (c ≠ 6 ∨ t ≠ D 2 0) → zU (zU (zU D 6 (D 2 0) u) 7 (D 2 0) v) 2 0 (D 2 0 + 1) c t = D c t := fun c t g1 g2 g3 => by rw [zUn _ _ g1, zUn _ _ g2, zUn _ _ g3]
  have n2 : ∀ c t, (175 ≤ c ∧ c ≤ 186 ∨ c = 173 ∧ t = 19) → (c ≠ 180 ∨ t ≠ 1) → (c ≠ 182 ∨ t ≠ 4 + D 2 0) → (c ≠ 181 ∨ t ≠ 4 + D 2 0) → i' c t = i c t := fun c t g0 g1 g2 g3 => by rw [he c t g0, zUn _ _ g1, zUn _ _ g2, zUn _ _ g3]
  refine ⟨by rw [n1 _ _ (by omega) (by omega) (by omega), n2 _ _ (by omega) (by omega) (by omega) (by omega)]; exact x1, by rw [n1 _ _ (by omega) (by omega) (by omega), n2 _ _ (by omega) (by omega) (by omega) (by omega)]; exact x2, by rw [he _ _ (by omega), zUs, zUs], by rw [n1 _ _ (by omega) (by omega) (by omega), n2 _ _ (by omega) (by omega) (by omega) (by omega)]; exact x4, by rw [n1 _ _ (by omega) (by omega) (by omega), n2 _ _ (by omega) (by omega) (by omega) (by omega)]; exact x5, by rw [n1 _ _ (by omega) (by omega) (by omega), n2 _ _ (by omega) (by omega) (by omega) (by omega)]; exact x6, fun g hg => ?_, fun k hk => ?_, fun c hc => ?_⟩
  · rw [n1 _ _ (by omega) (by omega) (by omega)] at hg
    have hg8 := hV.2.1
    rw [n1 4 g (by omega) (by omega) (by omega), n1 5 g (by omega) (by omega) (by omega), n1 9 (6 + g) (by omega) (by omega) (by omega), n2 177 (8 + g) (by omega) (by omega) (by omega) (by omega), n2 178 (8 + g) (by omega) (by omega) (by omega) (by omega), n2 179 (8 + g) (by omega) (by omega) (by omega) (by omega)]
    exact x7 g hg
  · rw [zUs] at hk
    by_cases e : k = D 2 0
    · rw [e, he 181 _ (by omega), he 182 _ (by omega)]
      refine ⟨?_, ?_⟩
      · rw [zUn _ _ (by omega), zUn _ _ (by omega), zUs, zUn (a := 2) (j := 0) _ _ (by omega), zUn (a := 7) (j := D 2 0) _ _ (by omega), zUs]
      · rw [zUn _ _ (by omega), zUs, zUn (a := 2) (j := 0) _ _ (by omega), zUs]
    · rw [n1 6 k (by omega) (by omega) (by omega), n1 7 k (by omega) (by omega) (by omega), n2 181 (4 + k) (by omega) (by omega) (by omega) (by omega), n2 182 (4 + k) (by omega) (by omega) (by omega) (by omega)]
      exact x8 k (by omega)
  · rw [n1 3 0 (by omega) (by omega) (by omega)] at hc
    rw [n1 8 c (by omega) (by omega) (by omega), n1 9 c (by omega) (by omega) (by omega), n2 184 (6 + c) (by omega) (by omega) (by omega) (by omega), n2 185 (6 + c) (by omega) (by omega) (by omega) (by omega)]
    exact x9 c hc
theorem c_mkind2 (sc : zScr) {f : Nat} (hf : f < 4) (w s0 : Int32) (b : Bool) (l : Nat → Nat → Int64) (i : Nat → Nat → Int32) : zev sc (127, 205, [some (.ref 173), some (.int w), none, none], [.int s0, .int (nI (4 + f)), .ref 182], (197, i, zRF b, l)) = some (.null, (197, zU (zU i 182 (4 + f) s0) 180 1 (i 180 1 + 1), zRF b, l)) := by
  rw [b127_205 _ _ _ _ _ _ _ (vp_in_nI (by omega) (by decide)), nI_clamp (by omega), zUn (f := i) (a := 182) (j := 4 + f) _ (q := 180) (t := 1) (Or.inl (by decide)), b127_299]
theorem it_k (sc : zScr) {S D : zS} (hn : S 17 0 ≤ 150) (hb : ∀ j, j < S 17 0 → S 16 j < 256) {a : Nat} (ha : a ≤ S 17 0) (hV : VD D) (hf : D 2 0 < 4) (b : Bool) (l : Nat → Nat → Int64) : zItF sc S D a b l 63 [some (.ref 1), some (.ref 11), none] 107 ∨ zItS sc S D a b l 63 [some (.ref 1), some (.ref 11), none] 107 := by
  have hF := hV.1
  have hz1 := zen_ge ha
  have hs1 := zst_ge S a
  have hz2 := zen_ge hz1.2.1
  have hs2 := zst_ge S (zen S a)
  have cf : (nI (D 2 0)).toNatClampNeg = D 2 0 := nI_clamp (by omega)
  have gf : vp_in (nI (D 2 0)) 4 := vp_in_nI hf (by decide)
  have c8 : (nI (4 + D 2 0)).toNatClampNeg = 4 + D 2 0 := nI_clamp (by omega)
  have g8 : vp_in (nI (4 + D 2 0)) 8 := vp_in_nI (by omega) (by decide)
  have e8 : (4 : Int32) + nI (D 2 0) = nI (4 + D 2 0) := by rw [L4, nI_add]
  have x0 : ∀ i, zXx S D a i → ∃ i1, zev sc (63, 0, [some (.ref 1), some (.ref 11), none], [], (197, i, zRF b, l)) = zev sc (63, 12, [some (.ref 1), some (.ref 11), some (.int (nI (D 2 0)))], [.int (if zOk S a 0 (6) then 1 else 0)], (197, i1, zRF b, l)) ∧ i1 1 2 = nI (zen S a) ∧ i1 1 4 = nI (zst S a) ∧ (zOk S a 0 (6) → i1 1 5 = nI (zva S a)) ∧ zFx i i1 := by
    rintro i ⟨hT, h2, hX⟩
    obtain ⟨i1, p1, p2, p3, p4, p5⟩ := c_xNum sc hn hb ha 0 (6) b l i hT h2
    refine ⟨i1, ?_, p2, p3, p4, p5⟩
    rw [b63_0, hX.2.2.1, p1, Option.bind_some]
  have m0 : ∀ i, MD D i → zev sc (127, 0, [some (.ref 173), some (.int 107), none, none], [], (197, i, zRF b, l)) = (zev sc (126, 0, [some (.ref 173), some (.int 0), some (.int (6)), none], [], (197, i, zRF b, l))).bind (fun x => zev sc (127, 183, [some (.ref 173), some (.int 107), none, none], [x.1, .int (nI (4 + D 2 0)), .ref 181], x.2)) := by
    intro i hM
    rw [b127_0]
    show zev sc (127, 164, _, _, _) = _
    rw [b127_164, hM.2.2.1, e8]
  have m1 : ∀ (i1 : Nat → Nat → Int32) (s0 : Int32), i1 180 1 = nI (D 2 0) → zev sc (127, 183, [some (.ref 173), some (.int 107), none, none], [.int s0, .int (nI (4 + D 2 0)), .ref 181], (197, i1, zRF b, l)) = (zev sc (126, 0, [some (.ref 173), some (.int 0), some (.int (9)), none], [], (197, zU i1 181 (4 + D 2 0) (s0 - 3), zRF b, l))).bind (fun x => zev sc (127, 205, [some (.ref 173), some (.int 107), none, none], [x.1, .int (nI (4 + D 2 0)), .ref 182], x.2)) := by
    intro i1 s0 hc
    rw [b127_183 _ _ _ _ _ _ _ g8, c8, zUn (f := i1) (a := 181) (j := 4 + D 2 0) _ (q := 180) (t := 1) (Or.inl (by decide)), hc, e8]
  by_cases h1 : zOk S a 0 (6)
  rotate_left
  · refine Or.inl ⟨zst S a, zst_len ha, ?_, ?_⟩
    · intro i hX
      obtain ⟨i1, p1, p2, p3, p4, p5⟩ := x0 i hX
      exact ⟨i1, by rw [p1, if_neg h1, b63_12, if_pos rfl, b63_15], p3, p5.fy⟩
    · rintro i ⟨hT, hK, h18, hM⟩
      obtain ⟨v, hv⟩ := c_mNumW sc 0 (9) b l (zU (zU i 173 18 1) 181 (4 + D 2 0) (i 173 17 - 3)) (by rw [zUn _ _ (by omega), zUs])
      refine ⟨zU (zU (zU (zU i 173 18 1) 181 (4 + D 2 0) (i 173 17 - 3)) 182 (4 + D 2 0) v) 180 1 (zU (zU i 173 18 1) 181 (4 + D 2 0) (i 173 17 - 3) 180 1 + 1), ?_, ⟨?_, ?_⟩, ((((zFd.m18 i 1).one (by unfold mrd; omega) _).one (by unfold mrd; omega) _).one (by unfold mrd; omega) _)⟩
      · rw [m0 i hM, c_mNumN sc b l i hK h18 h1, Option.bind_some]
        dsimp only
        rw [m1 (zU i 173 18 1) (i 173 17) (by rw [zUn _ _ (by omega)]; exact hM.2.2.1), hv, Option.bind_some]
        dsimp only
        rw [c_mkind2 sc hf]
      · rw [zUn _ _ (by omega), zUn _ _ (by omega), zUn _ _ (by omega), zUs]
      · rw [zUn _ _ (by omega), zUn _ _ (by omega), zUn _ _ (by omega), zUn _ _ (by omega), hK.2.1]
  have hso1 := h1.1
  have hva1 := zva_le hb (Or.inr hso1)
  have x1 : ∀ i, zXx S D a i → ∃ i2, zev sc (63, 0, [some (.ref 1), some (.ref 11), none], [], (197, i, zRF b, l)) = zev sc (63, 36, [some (.ref 1), some (.ref 11), some (.int (nI (D 2 0)))], [.int (if zOk S (zen S a) 0 (9) then 1 else 0)], (197, i2, zRF b, l)) ∧ i2 1 2 = nI (zen S (zen S a)) ∧ i2 1 4 = nI (zst S (zen S a)) ∧ (zOk S (zen S a) 0 (9) → i2 1 5 = nI (zva S (zen S a))) ∧ (∀ c t, (c ≠ 1 ∨ t < 2 ∨ 5 < t) → i2 c t = zU i 15 (D 2 0) (nI (zva S a) - 3) c t) ∧ XT S i2 := by
    intro i hX
    obtain ⟨i1, p1, p2, p3, p4, p5⟩ := x0 i hX
    have hT1 : XT S (zU i1 15 (D 2 0) (nI (zva S a) - 3)) := hX.1.fy (p5.fy.one (by omega) _)
    obtain ⟨i2, q1, q2, q3, q4, q5⟩ := c_xNum sc hn hb hz1.2.1 0 (9) b l (zU i1 15 (D 2 0) (nI (zva S a) - 3)) hT1 (by rw [zUn _ _ (Or.inl (by decide))]; exact p2)
    refine ⟨i2, ?_, q2, q3, q4, fun c t z => (q5 c t z).trans (zU_congr (p5 c t z) _ _ _), hT1.fx q5⟩
    rw [p1, if_pos h1, b63_12, if_neg (by decide), b63_17 _ _ _ _ _ gf, cf, p4 h1, q1, Option.bind_some]
  have m2 : ∀ i, zMm S D a i → ∃ i1, zev sc (127, 0, [some (.ref 173), some (.int 107), none, none], [], (197, i, zRF b, l)) = (zev sc (126, 0, [some (.ref 173), some (.int 0), some (.int (9)), none], [], (197, zU i1 181 (4 + D 2 0) (nI (zva S a) - 3), zRF b, l))).bind (fun x => zev sc (127, 205, [some (.ref 173), some (.int 107), none, none], [x.1, .int (nI (4 + D 2 0)), .ref 182], x.2)) ∧ MK S (zen S a) (zU i1 181 (4 + D 2 0) (nI (zva S a) - 3)) ∧ zU i1 181 (4 + D 2 0) (nI (zva S a) - 3) 173 18 = 0 ∧ zFm i i1 := by
    rintro i ⟨hT, hK, h18, hM⟩
    obtain ⟨i1, p1, p2, p3⟩ := c_mNumY sc hn hb ha b l i hT hK h18 h1
    refine ⟨i1, ?_, p2.congr (fun t _ _ => zUn _ _ (Or.inl (by decide))), by rw [zUn _ _ (Or.inl (by decide)), p3 _ _ (by omega)]; exact h18, p3⟩
    rw [m0 i hM, p1, Option.bind_some]
    dsimp only
    rw [m1 i1 (nI (zva S a)) (by rw [p3 _ _ (by omega)]; exact hM.2.2.1)]
  by_cases h2 : zOk S (zen S a) 0 (9)
  · have hu := (zOk_in hb (lo := 0) (hi := 6) (by decide) (by decide) h1).2
    have hv := (zOk_in hb (lo := 0) (hi := 9) (by decide) (by decide) h2).2
    refine Or.inr ⟨zU (zU (zU D 6 (D 2 0) (zva S a)) 7 (D 2 0) (zva S (zen S a))) 2 0 (D 2 0 + 1), zen S (zen S a), hV.kind hu hv hf, ⟨by omega, hz2.2.1⟩, ?_, ?_, ?_, ?_⟩
    · rw [zUn _ _ (by omega), zUn _ _ (by omega), zUn _ _ (by omega)]
    · rw [zUn _ _ (by omega), zUn _ _ (by omega), zUn _ _ (by omega), if_neg (by decide)]
    · intro i hX
      obtain ⟨i2, p1, p2, p3, p4, p5, p6⟩ := x1 i hX
      have he : ∀ c t, (c ≠ 1 ∨ t < 2 ∨ 5 < t) → zU (zU i2 16 (D 2 0) (nI (zva S (zen S a)))) 11 5 (nI (D 2 0 + 1)) c t = zU (zU (zU i 15 (D 2 0) (nI (zva S a) - 3)) 16 (D 2 0) (nI (zva S (zen S a)))) 11 5 (nI (D 2 0 + 1)) c t := fun c t z => zU_congr (zU_congr (p5 c t z) _ _ _) _ _ _
      refine ⟨zU (zU i2 16 (D 2 0) (nI (zva S (zen S a)))) 11 5 (nI (D 2 0 + 1)), ?_, ⟨p6.congr (fun c t z => by rw [zUn _ _ (by omega), zUn _ _ (by omega)]), by rw [zUn _ _ (by omega), zUn _ _ (by omega)]; exact p2, hX.2.2.kind hV hf he⟩, fun c t q1 q2 => ?_⟩
      · rw [p1, if_pos h2, b63_36, if_neg (by decide), b63_41 _ _ _ _ _ gf, cf, p4 h2, zUn (f := i2) (a := 16) (j := D 2 0) _ (q := 11) (t := 5) (Or.inl (by decide)), p5 11 5 (by omega), zUn (a := 15) (j := D 2 0) _ _ (q := 11) (t := 5) (by omega), hX.2.2.2.2.1, nI_1]
      · rw [he c t (by omega), zUn _ _ (by omega), zUn _ _ (by omega), zUn _ _ (by omega)]
    · intro i hM
      obtain ⟨i1, p1, p2, p3, p4⟩ := m2 i hM
      have hfd1 : zFd i (zU i1 181 (4 + D 2 0) (nI (zva S a) - 3)) := p4.fd.one (by unfold mrd; omega) _
      obtain ⟨i2, q1, q2, q3⟩ := c_mNumY sc hn hb hz1.2.1 b l (zU i1 181 (4 + D 2 0) (nI (zva S a) - 3)) (hM.1.fd hfd1) p2 p3 h2
      have he3 : ∀ c t, (c ≠ 173 ∨ t < 14 ∨ 17 < t) → i2 c t = zU i 181 (4 + D 2 0) (nI (zva S a) - 3) c t := fun c t z => (q3 c t z).trans (zU_congr (p4 c t z) _ _ _)
      have hfd : zFd i (zU (zU i2 182 (4 + D 2 0) (nI (zva S (zen S a)))) 180 1 (nI (D 2 0 + 1))) := (((hfd1.trans q3.fd).one (by unfold mrd; omega) _).one (by unfold mrd; omega) _)
      refine ⟨zU (zU i2 182 (4 + D 2 0) (nI (zva S (zen S a)))) 180 1 (nI (D 2 0 + 1)), ?_, ⟨hM.1.fd hfd, q2.congr (fun t _ _ => by rw [zUn _ _ (by omega), zUn _ _ (by omega)]), ?_, hM.2.2.2.kind hV hf (fun c t z => zU_congr (zU_congr (he3 c t (by omega)) _ _ _) _ _ _)⟩, hfd⟩
      · rw [p1, q1, Option.bind_some]
        dsimp only
        rw [c_mkind2 sc hf, he3 180 1 (by omega), zUn _ _ (by omega), hM.2.2.2.2.2.1, nI_1]
      · rw [zUn _ _ (by omega), zUn _ _ (by omega), he3 _ _ (by omega), zUn _ _ (by omega)]
        exact hM.2.2.1
  · refine Or.inl ⟨zst S (zen S a), zst_len hz1.2.1, ?_, ?_⟩
    · intro i hX
      obtain ⟨i2, p1, p2, p3, p4, p5, p6⟩ := x1 i hX
      exact ⟨i2, by rw [p1, if_neg h2, b63_36, if_pos rfl, b63_39], p3, fun c t q1 q2 => by rw [p5 c t (by omega), zUn _ _ (by omega)]⟩
    · intro i hM
      obtain ⟨i1, p1, p2, p3, p4⟩ := m2 i hM
      refine ⟨zU (zU (zU (zU i1 181 (4 + D 2 0) (nI (zva S a) - 3)) 173 18 1) 182 (4 + D 2 0) (zU i1 181 (4 + D 2 0) (nI (zva S a) - 3) 173 17)) 180 1 (zU (zU i1 181 (4 + D 2 0) (nI (zva S a) - 3)) 173 18 1 180 1 + 1), ?_, ⟨?_, ?_⟩, ((((p4.fd.one (by unfold mrd; omega) _).one (by unfold mrd; omega) _).one (by unfold mrd; omega) _).one (by unfold mrd; omega) _)⟩
      · rw [p1, c_mNumN sc b l _ p2 p3 h2, Option.bind_some]
        dsimp only
        rw [c_mkind2 sc hf]
      · rw [zUn _ _ (by omega), zUn _ _ (by omega), zUs]
      · rw [zUn _ _ (by omega), zUn _ _ (by omega), zUn _ _ (by omega), p2.2.1]
theorem VD.beast {D : zS} (h : VD D) {u v : Nat} (hu : u < D 2 0) (hv : v < D 0 0) (hf : D 3 0 < 6) : VD (zU (zU (zU D 8 (D 3 0) u) 9 (D 3 0) v) 3 0 (D 3 0 + 1)) := by
  obtain ⟨v1, v2, v3, v4, v5, v6, v7, v8, v9⟩ := h
  have n1 : ∀ c t, (c ≠ 3 ∨ t ≠ 0) → (c ≠ 9 ∨ t ≠ D 3 0) → (c ≠ 8 ∨ t ≠ D 3 0) → zU (zU (zU D 8 (D 3 0) u) 9 (D 3 0) v) 3 0 (D 3 0 + 1) c t = D c t := fun c t g1 g2 g3 => by rw [zUn _ _ g1, zUn _ _ g2, zUn _ _ g3]
  refine ⟨by rw [n1 _ _ (by omega) (by omega) (by omega)]; exact v1, by rw [n1 _ _ (by omega) (by omega) (by omega)]; exact v2, by rw [n1 _ _ (by omega) (by omega) (by omega)]; exact v3, by rw [zUs]; omega, fun g hg => ?_, fun k hk => ?_, fun c hc => ?_, by rw [n1 _ _ (by omega) (by omega) (by omega)]; exact v8, by rw [n1 _ _ (by omega) (by omega) (by omega)]; exact v9⟩
  · rw [n1 _ _ (by omega) (by omega) (by omega)] at hg
    rw [n1 0 0 (by omega) (by omega) (by omega), n1 4 g (by omega) (by omega) (by omega), n1 5 g (by omega) (by omega) (by omega), n1 9 (6 + g) (by omega) (by omega) (by omega)]
    exact v5 g hg
  · rw [n1 2 0 (by omega) (by omega) (by omega)] at hk
    rw [n1 6 k (by omega) (by omega) (by omega), n1 7 k (by omega) (by omega) (by omega)]
    exact v6 k hk
  · rw [zUs] at hc
    rw [n1 2 0 (by omega) (by omega) (by omega), n1 0 0 (by omega) (by omega) (by omega)]
    by_cases e : c = D 3 0
    · rw [e, zUn (a := 3) (j := 0) _ _ (by omega), zUn (a := 9) (j := D 3 0) _ _ (by omega), zUs, zUn (a := 3) (j := 0) _ _ (by omega), zUs]
      exact ⟨hu, hv⟩
    · rw [n1 8 c (by omega) (by omega) (by omega), n1 9 c (by omega) (by omega) (by omega)]
      exact v7 c (by omega)
theorem XD.beast {D : zS} {i i' : Nat → Nat → Int32} (h : XD D i) (hV : VD D) {u v : Nat} (hf : D 3 0 < 6) (he : ∀ c t, (c ≠ 1 ∨ t < 2 ∨ 5 < t) → i' c t = zU (zU (zU i 17 (D 3 0) (nI u)) 18 (D 3 0) (nI v)) 11 8 (nI (D 3 0 + 1)) c t) : XD (zU (zU (zU D 8 (D 3 0) u) 9 (D 3 0) v) 3 0 (D 3 0 + 1)) i' := by
  obtain ⟨x1, x2, x3, x4, x5, x6, x7, x8, x9⟩ := h
  have n1 : ∀ c t, (c ≠ 3 ∨ t ≠ 0) → (c ≠ 9 ∨ t ≠ D 3 0) → (c ≠ 8 ∨ t ≠ D 3 0) → zU (zU (zU D 8 (D 3 0) u) 9 (D 3 0) v) 3 0 (D 3 0 + 1) c t = D c t := fun c t g1 g2 g3 => by rw [zUn _ _ g1, zUn _ _ g2, zUn _ _ g3]
  have n2 : ∀ c t, (c ≠ 1 ∨ t < 2 ∨ 5 < t) → (c ≠ 11 ∨ t ≠ 8) → (c ≠ 18 ∨ t ≠ D 3 0) → (c ≠ 17 ∨ t ≠ D 3 0) → i' c t = i c t := fun c t g0 g1 g2 g3 => by rw [he c t g0, zUn _ _ g1, zUn _ _ g2, zUn _ _ g3]
  refine ⟨by rw [n1 _ _ (by omega) (by omega) (by omega), n2 _ _ (by omega) (by omega) (by omega) (by omega)]; exact x1, by rw [n1 _ _ (by omega) (by omega) (by omega), n2 _ _ (by omega) (by omega) (by omega) (by omega)]; exact x2, by rw [n1 _ _ (by omega) (by omega) (by omega), n2 _ _ (by omega) (by omega) (by omega) (by omega)]; exact x3, by rw [he _ _ (by omega), zUs, zUs], by rw [n1 _ _ (by omega) (by omega) (by omega), n2 _ _ (by omega) (by omega) (by omega) (by omega)]; exact x5, by rw [n1 _ _ (by omega) (by omega) (by omega), n2 _ _ (by omega) (by omega) (by omega) (by omega)]; exact x6, fun g hg => ?_, fun k hk => ?_, fun c hc => ?_⟩
  · rw [n1 _ _ (by omega) (by omega) (by omega)] at hg
    have hg8 := hV.2.1
    rw [n1 4 g (by omega) (by omega) (by omega), n1 5 g (by omega) (by omega) (by omega), n1 9 (6 + g) (by omega) (by omega) (by omega), n2 12 g (by omega) (by omega) (by omega) (by omega), n2 13 g (by omega) (by omega) (by omega) (by omega), n2 14 g (by omega) (by omega) (by omega) (by omega)]
    exact x7 g hg
  · rw [n1 2 0 (by omega) (by omega) (by omega)] at hk
    rw [n1 6 k (by omega) (by omega) (by omega), n1 7 k (by omega) (by omega) (by omega), n2 15 k (by omega) (by omega) (by omega) (by omega), n2 16 k (by omega) (by omega) (by omega) (by omega)]
    exact x8 k hk
  · rw [zUs] at hc
    by_cases e : c = D 3 0
    · rw [e, he 17 _ (by omega), he 18 _ (by omega)]
      refine ⟨?_, ?_⟩
      · rw [zUn _ _ (by omega), zUn _ _ (by omega), zUs, zUn (a := 3) (j := 0) _ _ (by omega), zUn (a := 9) (j := D 3 0) _ _ (by omega), zUs]
      · rw [zUn _ _ (by omega), zUs, zUn (a := 3) (j := 0) _ _ (by omega), zUs]
    · rw [n1 8 c (by omega) (by omega) (by omega), n1 9 c (by omega) (by omega) (by omega), n2 17 c (by omega) (by omega) (by omega) (by omega), n2 18 c (by omega) (by omega) (by omega) (by omega)]
      exact x9 c (by omega)
theorem MD.beast {D : zS} {i i' : Nat → Nat → Int32} (h : MD D i) (hV : VD D) {u v : Nat} (hf : D 3 0 < 6) (he : ∀ c t, (175 ≤ c ∧ c ≤ 186 ∨ c = 173 ∧ t = 19) → i' c t = zU (zU (zU i 184 (6 + D 3 0) (nI u)) 185 (6 + D 3 0) (nI v)) 183 1 (nI (D 3 0 + 1)) c t) : MD (zU (zU (zU D 8 (D 3 0) u) 9 (D 3 0) v) 3 0 (D 3 0 + 1)) i' := by
  obtain ⟨x1, x2, x3, x4, x5, x6, x7, x8, x9⟩ := h
  have n1 : ∀ c t, (c ≠ 3 ∨ t ≠ 0) → (c ≠ 9 ∨ t ≠ D 3 0) → (c ≠ 8 ∨ t ≠ D 3 0) → zU (zU (zU D 8 (D 3 0) u) 9 (D 3 0) v) 3 0 (D 3 0 + 1) c t = D c t := fun c t g1 g2 g3 => by rw [zUn _ _ g1, zUn _ _ g2, zUn _ _ g3]
  have n2 : ∀ c t, (175 ≤ c ∧ c ≤ 186 ∨ c = 173 ∧ t = 19) → (c ≠ 183 ∨ t ≠ 1) → (c ≠ 185 ∨ t ≠ 6 + D 3 0) → (c ≠ 184 ∨ t ≠ 6 + D 3 0) → i' c t = i c t := fun c t g0 g1 g2 g3 => by rw [he c t g0, zUn _ _ g1, zUn _ _ g2, zUn _ _ g3]
  refine ⟨by rw [n1 _ _ (by omega) (by omega) (by omega), n2 _ _ (by omega) (by omega) (by omega) (by omega)]; exact x1, by rw [n1 _ _ (by omega) (by omega) (by omega), n2 _ _ (by omega) (by omega) (by omega) (by omega)]; exact x2, by rw [n1 _ _ (by omega) (by omega) (by omega), n2 _ _ (by omega) (by omega) (by omega) (by omega)]; exact x3, by rw [he _ _ (by omega), zUs, zUs], by rw [n1 _ _ (by omega) (by omega) (by omega), n2 _ _ (by omega) (by omega) (by omega) (by omega)]; exact x5, by rw [n1 _ _ (by omega) (by omega) (by omega), n2 _ _ (by omega) (by omega) (by omega) (by omega)]; exact x6, fun g hg => ?_, fun k hk => ?_, fun c hc => ?_⟩
  · rw [n1 _ _ (by omega) (by omega) (by omega)] at hg
    have hg8 := hV.2.1
    rw [n1 4 g (by omega) (by omega) (by omega), n1 5 g (by omega) (by omega) (by omega), n1 9 (6 + g) (by omega) (by omega) (by omega), n2 177 (8 + g) (by omega) (by omega) (by omega) (by omega), n2 178 (8 + g) (by omega) (by omega) (by omega) (by omega), n2 179 (8 + g) (by omega) (by omega) (by omega) (by omega)]
    exact x7 g hg
  · rw [n1 2 0 (by omega) (by omega) (by omega)] at hk
    rw [n1 6 k (by omega) (by omega) (by omega), n1 7 k (by omega) (by omega) (by omega), n2 181 (4 + k) (by omega) (by omega) (by omega) (by omega), n2 182 (4 + k) (by omega) (by omega) (by omega) (by omega)]
    exact x8 k hk
  · rw [zUs] at hc
    by_cases e : c = D 3 0
    · rw [e, he 184 _ (by omega), he 185 _ (by omega)]
      refine ⟨?_, ?_⟩
      · rw [zUn _ _ (by omega), zUn _ _ (by omega), zUs, zUn (a := 3) (j := 0) _ _ (by omega), zUn (a := 9) (j := D 3 0) _ _ (by omega), zUs]
      · rw [zUn _ _ (by omega), zUs, zUn (a := 3) (j := 0) _ _ (by omega), zUs]
    · rw [n1 8 c (by omega) (by omega) (by omega), n1 9 c (by omega) (by omega) (by omega), n2 184 (6 + c) (by omega) (by omega) (by omega) (by omega), n2 185 (6 + c) (by omega) (by omega) (by omega) (by omega)]
      exact x9 c (by omega)
theorem c_mbeast2 (sc : zScr) {f : Nat} (hf : f < 6) (w s0 : Int32) (b : Bool) (l : Nat → Nat → Int64) (i : Nat → Nat → Int32) : zev sc (127, 272, [some (.ref 173), some (.int w), none, none], [.int s0, .int (nI (6 + f)), .ref 185], (197, i, zRF b, l)) = some (.null, (197, zU (zU i 185 (6 + f) s0) 183 1 (i 183 1 + 1), zRF b, l)) := by
  rw [b127_272 _ _ _ _ _ _ _ (vp_in_nI (by omega) (by decide)), nI_clamp (by omega), zUn (f := i) (a := 185) (j := 6 + f) _ (q := 183) (t := 1) (Or.inl (by decide)), b127_299]
theorem it_b (sc : zScr) {S D : zS} (hn : S 17 0 ≤ 150) (hb : ∀ j, j < S 17 0 → S 16 j < 256) {a : Nat} (ha : a ≤ S 17 0) (hV : VD D) (hf : D 3 0 < 6) (b : Bool) (l : Nat → Nat → Int64) : zItF sc S D a b l 64 [some (.ref 1), some (.ref 11), none] 98 ∨ zItS sc S D a b l 64 [some (.ref 1), some (.ref 11), none] 98 := by
  have hF := hV.1
  have hz1 := zen_ge ha
  have hs1 := zst_ge S a
  have hz2 := zen_ge hz1.2.1
  have hs2 := zst_ge S (zen S a)
  have cf : (nI (D 3 0)).toNatClampNeg = D 3 0 := nI_clamp (by omega)
  have gf : vp_in (nI (D 3 0)) 6 := vp_in_nI hf (by decide)
  have c8 : (nI (6 + D 3 0)).toNatClampNeg = 6 + D 3 0 := nI_clamp (by omega)
  have g8 : vp_in (nI (6 + D 3 0)) 12 := vp_in_nI (by omega) (by decide)
  have e8 : (6 : Int32) + nI (D 3 0) = nI (6 + D 3 0) := by rw [L6, nI_add]
  have x0 : ∀ i, zXx S D a i → ∃ i1, zev sc (64, 0, [some (.ref 1), some (.ref 11), none], [], (197, i, zRF b, l)) = zev sc (64, 16, [some (.ref 1), some (.ref 11), some (.int (nI (D 3 0)))], [.int (if zOk S a 0 (nI (D 2 0) - 1) then 1 else 0)], (197, i1, zRF b, l)) ∧ i1 1 2 = nI (zen S a) ∧ i1 1 4 = nI (zst S a) ∧ (zOk S a 0 (nI (D 2 0) - 1) → i1 1 5 = nI (zva S a)) ∧ zFx i i1 := by
    rintro i ⟨hT, h2, hX⟩
    obtain ⟨i1, p1, p2, p3, p4, p5⟩ := c_xNum sc hn hb ha 0 (nI (D 2 0) - 1) b l i hT h2
    refine ⟨i1, ?_, p2, p3, p4, p5⟩
    rw [b64_0, hX.2.2.1, hX.2.2.2.1, p1, Option.bind_some]
  have m0 : ∀ i, MD D i → zev sc (127, 0, [some (.ref 173), some (.int 98), none, none], [], (197, i, zRF b, l)) = (zev sc (126, 0, [some (.ref 173), some (.int 0), some (.int (nI (D 2 0) - 1)), none], [], (197, i, zRF b, l))).bind (fun x => zev sc (127, 245, [some (.ref 173), some (.int 98), none, none], [x.1, .int (nI (6 + D 3 0)), .ref 184], x.2)) := by
    intro i hM
    rw [b127_0]
    show zev sc (127, 219, _, _, _) = _
    rw [b127_219, hM.2.2.1, hM.2.2.2.1, e8]
  have m1 : ∀ (i1 : Nat → Nat → Int32) (s0 : Int32), i1 183 1 = nI (D 3 0) → i1 175 1 = nI (D 0 0) → zev sc (127, 245, [some (.ref 173), some (.int 98), none, none], [.int s0, .int (nI (6 + D 3 0)), .ref 184], (197, i1, zRF b, l)) = (zev sc (126, 0, [some (.ref 173), some (.int 0), some (.int (nI (D 0 0) - 1)), none], [], (197, zU i1 184 (6 + D 3 0) (s0), zRF b, l))).bind (fun x => zev sc (127, 272, [some (.ref 173), some (.int 98), none, none], [x.1, .int (nI (6 + D 3 0)), .ref 185], x.2)) := by
    intro i1 s0 hc h175
    rw [b127_245 _ _ _ _ _ _ _ g8, c8, zUn (f := i1) (a := 184) (j := 6 + D 3 0) _ (q := 183) (t := 1) (Or.inl (by decide)), hc, e8, zUn (f := i1) (a := 184) (j := 6 + D 3 0) _ (q := 175) (t := 1) (Or.inl (by decide)), h175]
  by_cases h1 : zOk S a 0 (nI (D 2 0) - 1)
  rotate_left
  · refine Or.inl ⟨zst S a, zst_len ha, ?_, ?_⟩
    · intro i hX
      obtain ⟨i1, p1, p2, p3, p4, p5⟩ := x0 i hX
      exact ⟨i1, by rw [p1, if_neg h1, b64_16, if_pos rfl, b64_19], p3, p5.fy⟩
    · rintro i ⟨hT, hK, h18, hM⟩
      obtain ⟨v, hv⟩ := c_mNumW sc 0 (nI (D 0 0) - 1) b l (zU (zU i 173 18 1) 184 (6 + D 3 0) (i 173 17)) (by rw [zUn _ _ (by omega), zUs])
      refine ⟨zU (zU (zU (zU i 173 18 1) 184 (6 + D 3 0) (i 173 17)) 185 (6 + D 3 0) v) 183 1 (zU (zU i 173 18 1) 184 (6 + D 3 0) (i 173 17) 183 1 + 1), ?_, ⟨?_, ?_⟩, ((((zFd.m18 i 1).one (by unfold mrd; omega) _).one (by unfold mrd; omega) _).one (by unfold mrd; omega) _)⟩
      · rw [m0 i hM, c_mNumN sc b l i hK h18 h1, Option.bind_some]
        dsimp only
        rw [m1 (zU i 173 18 1) (i 173 17) (by rw [zUn _ _ (by omega)]; exact hM.2.2.2.1) (by rw [zUn _ _ (by omega)]; exact hM.1), hv, Option.bind_some]
        dsimp only
        rw [c_mbeast2 sc hf]
      · rw [zUn _ _ (by omega), zUn _ _ (by omega), zUn _ _ (by omega), zUs]
      · rw [zUn _ _ (by omega), zUn _ _ (by omega), zUn _ _ (by omega), zUn _ _ (by omega), hK.2.1]
  have hso1 := h1.1
  have hva1 := zva_le hb (Or.inr hso1)
  have x1 : ∀ i, zXx S D a i → ∃ i2, zev sc (64, 0, [some (.ref 1), some (.ref 11), none], [], (197, i, zRF b, l)) = zev sc (64, 42, [some (.ref 1), some (.ref 11), some (.int (nI (D 3 0)))], [.int (if zOk S (zen S a) 0 (nI (D 0 0) - 1) then 1 else 0)], (197, i2, zRF b, l)) ∧ i2 1 2 = nI (zen S (zen S a)) ∧ i2 1 4 = nI (zst S (zen S a)) ∧ (zOk S (zen S a) 0 (nI (D 0 0) - 1) → i2 1 5 = nI (zva S (zen S a))) ∧ (∀ c t, (c ≠ 1 ∨ t < 2 ∨ 5 < t) → i2 c t = zU i 17 (D 3 0) (nI (zva S a)) c t) ∧ XT S i2 := by
    intro i hX
    obtain ⟨i1, p1, p2, p3, p4, p5⟩ := x0 i hX
    have hT1 : XT S (zU i1 17 (D 3 0) (nI (zva S a))) := hX.1.fy (p5.fy.one (by omega) _)
    obtain ⟨i2, q1, q2, q3, q4, q5⟩ := c_xNum sc hn hb hz1.2.1 0 (nI (D 0 0) - 1) b l (zU i1 17 (D 3 0) (nI (zva S a))) hT1 (by rw [zUn _ _ (Or.inl (by decide))]; exact p2)
    refine ⟨i2, ?_, q2, q3, q4, fun c t z => (q5 c t z).trans (zU_congr (p5 c t z) _ _ _), hT1.fx q5⟩
    rw [p1, if_pos h1, b64_16, if_neg (by decide), b64_21 _ _ _ _ _ gf, cf, p4 h1, zUn (f := i1) (a := 17) (j := D 3 0) _ (q := 11) (t := 0) (Or.inl (by decide)), p5 11 0 (by omega), hX.2.2.1, q1, Option.bind_some]
  have m2 : ∀ i, zMm S D a i → ∃ i1, zev sc (127, 0, [some (.ref 173), some (.int 98), none, none], [], (197, i, zRF b, l)) = (zev sc (126, 0, [some (.ref 173), some (.int 0), some (.int (nI (D 0 0) - 1)), none], [], (197, zU i1 184 (6 + D 3 0) (nI (zva S a)), zRF b, l))).bind (fun x => zev sc (127, 272, [some (.ref 173), some (.int 98), none, none], [x.1, .int (nI (6 + D 3 0)), .ref 185], x.2)) ∧ MK S (zen S a) (zU i1 184 (6 + D 3 0) (nI (zva S a))) ∧ zU i1 184 (6 + D 3 0) (nI (zva S a)) 173 18 = 0 ∧ zFm i i1 := by
    rintro i ⟨hT, hK, h18, hM⟩
    obtain ⟨i1, p1, p2, p3⟩ := c_mNumY sc hn hb ha b l i hT hK h18 h1
    refine ⟨i1, ?_, p2.congr (fun t _ _ => zUn _ _ (Or.inl (by decide))), by rw [zUn _ _ (Or.inl (by decide)), p3 _ _ (by omega)]; exact h18, p3⟩
    rw [m0 i hM, p1, Option.bind_some]
    dsimp only
    rw [m1 i1 (nI (zva S a)) (by rw [p3 _ _ (by omega)]; exact hM.2.2.2.1) (by rw [p3 _ _ (by omega)]; exact hM.1)]
  by_cases h2 : zOk S (zen S a) 0 (nI (D 0 0) - 1)
  · have hu := ((zOk_lt hb (by have := hV.2.2.1; omega)).mp h1).2
    have hv := ((zOk_lt hb (by omega)).mp h2).2
    refine Or.inr ⟨zU (zU (zU D 8 (D 3 0) (zva S a)) 9 (D 3 0) (zva S (zen S a))) 3 0 (D 3 0 + 1), zen S (zen S a), hV.beast hu hv hf, ⟨by omega, hz2.2.1⟩, ?_, ?_, ?_, ?_⟩
    · rw [zUn _ _ (by omega), zUn _ _ (by omega), zUn _ _ (by omega)]
    · rw [zUn _ _ (by omega), zUn _ _ (by omega), zUn _ _ (by omega), if_neg (by decide)]
    · intro i hX
      obtain ⟨i2, p1, p2, p3, p4, p5, p6⟩ := x1 i hX
      have he : ∀ c t, (c ≠ 1 ∨ t < 2 ∨ 5 < t) → zU (zU i2 18 (D 3 0) (nI (zva S (zen S a)))) 11 8 (nI (D 3 0 + 1)) c t = zU (zU (zU i 17 (D 3 0) (nI (zva S a))) 18 (D 3 0) (nI (zva S (zen S a)))) 11 8 (nI (D 3 0 + 1)) c t := fun c t z => zU_congr (zU_congr (p5 c t z) _ _ _) _ _ _
      refine ⟨zU (zU i2 18 (D 3 0) (nI (zva S (zen S a)))) 11 8 (nI (D 3 0 + 1)), ?_, ⟨p6.congr (fun c t z => by rw [zUn _ _ (by omega), zUn _ _ (by omega)]), by rw [zUn _ _ (by omega), zUn _ _ (by omega)]; exact p2, hX.2.2.beast hV hf he⟩, fun c t q1 q2 => ?_⟩
      · rw [p1, if_pos h2, b64_42, if_neg (by decide), b64_47 _ _ _ _ _ gf, cf, p4 h2, zUn (f := i2) (a := 18) (j := D 3 0) _ (q := 11) (t := 8) (Or.inl (by decide)), p5 11 8 (by omega), zUn (a := 17) (j := D 3 0) _ _ (q := 11) (t := 8) (by omega), hX.2.2.2.2.2.1, nI_1]
      · rw [he c t (by omega), zUn _ _ (by omega), zUn _ _ (by omega), zUn _ _ (by omega)]
    · intro i hM
      obtain ⟨i1, p1, p2, p3, p4⟩ := m2 i hM
      have hfd1 : zFd i (zU i1 184 (6 + D 3 0) (nI (zva S a))) := p4.fd.one (by unfold mrd; omega) _
      obtain ⟨i2, q1, q2, q3⟩ := c_mNumY sc hn hb hz1.2.1 b l (zU i1 184 (6 + D 3 0) (nI (zva S a))) (hM.1.fd hfd1) p2 p3 h2
      have he3 : ∀ c t, (c ≠ 173 ∨ t < 14 ∨ 17 < t) → i2 c t = zU i 184 (6 + D 3 0) (nI (zva S a)) c t := fun c t z => (q3 c t z).trans (zU_congr (p4 c t z) _ _ _)
      have hfd : zFd i (zU (zU i2 185 (6 + D 3 0) (nI (zva S (zen S a)))) 183 1 (nI (D 3 0 + 1))) := (((hfd1.trans q3.fd).one (by unfold mrd; omega) _).one (by unfold mrd; omega) _)
      refine ⟨zU (zU i2 185 (6 + D 3 0) (nI (zva S (zen S a)))) 183 1 (nI (D 3 0 + 1)), ?_, ⟨hM.1.fd hfd, q2.congr (fun t _ _ => by rw [zUn _ _ (by omega), zUn _ _ (by omega)]), ?_, hM.2.2.2.beast hV hf (fun c t z => zU_congr (zU_congr (he3 c t (by omega)) _ _ _) _ _ _)⟩, hfd⟩
      · rw [p1, q1, Option.bind_some]
        dsimp only
        rw [c_mbeast2 sc hf, he3 183 1 (by omega), zUn _ _ (by omega), hM.2.2.2.2.2.2.1, nI_1]
      · rw [zUn _ _ (by omega), zUn _ _ (by omega), he3 _ _ (by omega), zUn _ _ (by omega)]
        exact hM.2.2.1
  · refine Or.inl ⟨zst S (zen S a), zst_len hz1.2.1, ?_, ?_⟩
    · intro i hX
      obtain ⟨i2, p1, p2, p3, p4, p5, p6⟩ := x1 i hX
      exact ⟨i2, by rw [p1, if_neg h2, b64_42, if_pos rfl, b64_45], p3, fun c t q1 q2 => by rw [p5 c t (by omega), zUn _ _ (by omega)]⟩
    · intro i hM
      obtain ⟨i1, p1, p2, p3, p4⟩ := m2 i hM
      refine ⟨zU (zU (zU (zU i1 184 (6 + D 3 0) (nI (zva S a))) 173 18 1) 185 (6 + D 3 0) (zU i1 184 (6 + D 3 0) (nI (zva S a)) 173 17)) 183 1 (zU (zU i1 184 (6 + D 3 0) (nI (zva S a))) 173 18 1 183 1 + 1), ?_, ⟨?_, ?_⟩, ((((p4.fd.one (by unfold mrd; omega) _).one (by unfold mrd; omega) _).one (by unfold mrd; omega) _).one (by unfold mrd; omega) _)⟩
      · rw [p1, c_mNumN sc b l _ p2 p3 h2, Option.bind_some]
        dsimp only
        rw [c_mbeast2 sc hf]
      · rw [zUn _ _ (by omega), zUn _ _ (by omega), zUs]
      · rw [zUn _ _ (by omega), zUn _ _ (by omega), zUn _ _ (by omega), p2.2.1]
