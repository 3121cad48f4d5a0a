/-! downs: the item f -/
theorem VD.fence {D : zS} (h : VD D) {u v p : Nat} (hf : D 1 0 < 8) (hu : u < D 0 0) (hv : v < D 0 0) (hne : v ≠ u) (hp : p ≤ 40) : VD (zU (zU (zU (zU D 4 (D 1 0) u) 5 (D 1 0) v) 9 (6 + D 1 0) p) 1 0 (D 1 0 + 1)) := by
  obtain ⟨v1, v2, v3, v4, v5, v6, v7, v8, v9⟩ := h
  have n1 : ∀ c t, (c ≠ 1 ∨ t ≠ 0) → (c ≠ 9 ∨ t ≠ 6 + D 1 0) → (c ≠ 5 ∨ t ≠ D 1 0) → (c ≠ 4 ∨ t ≠ D 1 0) → zU (zU (zU (zU D 4 (D 1 0) u) 5 (D 1 0) v) 9 (6 + D 1 0) p) 1 0 (D 1 0 + 1) c t = D c t := fun c t g1 g2 g3 g4 => by rw [zUn _ _ g1, zUn _ _ g2, zUn _ _ g3, zUn _ _ g4]
  refine ⟨by rw [n1 _ _ (by omega) (by omega) (by omega) (by omega)]; exact v1, by rw [zUs]; omega, by rw [n1 _ _ (by omega) (by omega) (by omega) (by omega)]; exact v3, by rw [n1 _ _ (by omega) (by omega) (by omega) (by omega)]; exact v4, fun g hg => ?_, fun k hk => ?_, fun c hc => ?_, by rw [n1 _ _ (by omega) (by omega) (by omega) (by omega)]; exact v8, by rw [n1 _ _ (by omega) (by omega) (by omega) (by omega)]; exact v9⟩
  · rw [zUs] at hg
    rw [n1 0 0 (by omega) (by omega) (by omega) (by omega)]
    by_cases e : g = D 1 0
    · rw [e]
      have e4 : zU (zU (zU (zU D 4 (D 1 0) u) 5 (D 1 0) v) 9 (6 + D 1 0) p) 1 0 (D 1 0 + 1) 4 (D 1 0) = u := by rw [zUn _ _ (by omega), zUn _ _ (by omega), zUn _ _ (by omega), zUs]
      have e5 : zU (zU (zU (zU D 4 (D 1 0) u) 5 (D 1 0) v) 9 (6 + D 1 0) p) 1 0 (D 1 0 + 1) 5 (D 1 0) = v := by rw [zUn _ _ (by omega), zUn _ _ (by omega), zUs]
      have e9 : zU (zU (zU (zU D 4 (D 1 0) u) 5 (D 1 0) v) 9 (6 + D 1 0) p) 1 0 (D 1 0 + 1) 9 (6 + D 1 0) = p := by rw [zUn _ _ (by omega), zUs]
      rw [e4, e5, e9]
      exact ⟨hu, hv, fun z => hne z.symm, hp⟩
    · rw [n1 4 g (by omega) (by omega) (by omega) (by omega), n1 5 g (by omega) (by omega) (by omega) (by omega), n1 9 (6 + g) (by omega) (by omega) (by omega) (by omega)]
      exact v5 g (by omega)
  · rw [n1 _ _ (by omega) (by omega) (by omega) (by omega)] at hk
    rw [n1 _ _ (by omega) (by omega) (by omega) (by omega), n1 _ _ (by omega) (by omega) (by omega) (by omega)]
    exact v6 k hk
  · rw [n1 _ _ (by omega) (by omega) (by omega) (by omega)] at hc
    rw [n1 8 c (by omega) (by omega) (by omega) (by omega), n1 2 0 (by omega) (by omega) (by omega) (by omega), n1 9 c (by omega) (by omega) (by omega) (by omega), n1 0 0 (by omega) (by omega) (by omega) (by omega)]
    exact v7 c hc
theorem XD.fence {D : zS} {i i' : Nat → Nat → Int32} (h : XD D i) (hV : VD D) {u v p : Nat} (hf : D 1 0 < 8) (he : ∀ c t, (c ≠ 1 ∨ t < 2 ∨ 5 < t) → i' c t = zU (zU (zU (zU i 12 (D 1 0) (nI u)) 13 (D 1 0) (nI v)) 14 (D 1 0) (nI p)) 11 1 (nI (D 1 0 + 1)) c t) : XD (zU (zU (zU (zU D 4 (D 1 0) u) 5 (D 1 0) v) 9 (6 + D 1 0) p) 1 0 (D 1 0 + 1)) i' := by
  obtain ⟨x1, x2, x3, x4, x5, x6, x7, x8, x9⟩ := h
  have hB := hV.2.2.2.1
  have n1 : ∀ c t, (c ≠ 1 ∨ t ≠ 0) → (c ≠ 9 ∨ t ≠ 6 + D 1 0) → (c ≠ 5 ∨ t ≠ D 1 0) → (c ≠ 4 ∨ t ≠ D 1 0) → zU (zU (zU (zU D 4 (D 1 0) u) 5 (D 1 0) v) 9 (6 + D 1 0) p) 1 0 (D 1 0 + 1) c t = D c t := fun c t g1 g2 g3 g4 => by rw [zUn _ _ g1, zUn _ _ g2, zUn _ _ g3, zUn _ _ g4]
  have n2 : ∀ c t, (c ≠ 1 ∨ t < 2 ∨ 5 < t) → (c ≠ 11 ∨ t ≠ 1) → (c ≠ 14 ∨ t ≠ D 1 0) → (c ≠ 13 ∨ t ≠ D 1 0) → (c ≠ 12 ∨ t ≠ D 1 0) → i' c t = i c t := fun c t g0 g1 g2 g3 g4 => by rw [he c t g0, zUn _ _ g1, zUn _ _ g2, zUn _ _ g3, zUn _ _ g4]
  refine ⟨?_, ?_, ?_, ?_, ?_, ?_, fun g hg => ?_, fun k hk => ?_, fun c hc => ?_⟩
  · rw [n1 _ _ (by omega) (by omega) (by omega) (by omega), n2 _ _ (by omega) (by omega) (by omega) (by omega) (by omega)]; exact x1
  · rw [he _ _ (by omega), zUs, zUs]
  · rw [n1 _ _ (by omega) (by omega) (by omega) (by omega), n2 _ _ (by omega) (by omega) (by omega) (by omega) (by omega)]; exact x3
  · rw [n1 _ _ (by omega) (by omega) (by omega) (by omega), n2 _ _ (by omega) (by omega) (by omega) (by omega) (by omega)]; exact x4
  · rw [n1 _ _ (by omega) (by omega) (by omega) (by omega), n2 _ _ (by omega) (by omega) (by omega) (by omega) (by omega)]; exact x5
  · rw [n1 _ _ (by omega) (by omega) (by omega) (by omega), n2 _ _ (by omega) (by omega) (by omega) (by omega) (by omega)]; exact x6
  · rw [zUs] at hg
    by_cases e : g = D 1 0
    · rw [e, he 12 _ (by omega), he 13 _ (by omega), he 14 _ (by omega)]
      refine ⟨?_, ?_, ?_⟩
      · rw [zUn _ _ (by omega), zUn _ _ (by omega), zUn _ _ (by omega), zUs, zUn (a := 1) (j := 0) _ _ (by omega), zUn (a := 9) (j := 6 + D 1 0) _ _ (by omega), zUn (a := 5) (j := D 1 0) _ _ (by omega), zUs]
      · rw [zUn _ _ (by omega), zUn _ _ (by omega), zUs, zUn (a := 1) (j := 0) _ _ (by omega), zUn (a := 9) (j := 6 + D 1 0) _ _ (by omega), zUs]
      · rw [zUn _ _ (by omega), zUs, zUn (a := 1) (j := 0) _ _ (by omega), zUs]
    · rw [n1 4 g (by omega) (by omega) (by omega) (by omega), n1 5 g (by omega) (by omega) (by omega) (by omega), n1 9 (6 + g) (by omega) (by omega) (by omega) (by omega), n2 12 g (by omega) (by omega) (by omega) (by omega) (by omega), n2 13 g (by omega) (by omega) (by omega) (by omega) (by omega), n2 14 g (by omega) (by omega) (by omega) (by omega) (by omega)]
      exact x7 g (by omega)
  · rw [n1 _ _ (by omega) (by omega) (by omega) (by omega)] at hk
    rw [n1 _ _ (by omega) (by omega) (by omega) (by omega), n1 _ _ (by omega) (by omega) (by omega) (by omega), n2 15 k (by omega) (by omega) (by omega) (by omega) (by omega), n2 16 k (by omega) (by omega) (by omega) (by omega) (by omega)]
    exact x8 k hk
  · rw [n1 _ _ (by omega) (by omega) (by omega) (by omega)] at hc
    rw [n1 _ _ (by omega) (by omega) (by omega) (by omega), n1 _ _ (by omega) (by omega) (by omega) (by omega), n2 17 c (by omega) (by omega) (by omega) (by omega) (by omega), n2 18 c (by omega) (by omega) (by omega) (by omega) (by omega)]
    exact x9 c hc
theorem MD.fence {D : zS} {i i' : Nat → Nat → Int32} (h : MD D i) (hV : VD D) {u v p : Nat} (hf : D 1 0 < 8) (he : ∀ c t, (175 ≤ c ∧ c ≤ 186 ∨ c = 173 ∧ t = 19) → i' c t = zU (zU (zU (zU i 177 (8 + D 1 0) (nI u)) 178 (8 + D 1 0) (nI v)) 179 (8 + D 1 0) (nI p)) 176 1 (nI (D 1 0 + 1)) c t) : MD (zU (zU (zU (zU D 4 (D 1 0) u) 5 (D 1 0) v) 9 (6 + D 1 0) p) 1 0 (D 1 0 + 1)) i' := by
  obtain ⟨x1, x2, x3, x4, x5, x6, x7, x8, x9⟩ := h
  have hB := hV.2.2.2.1
  have n1 : ∀ c t, (c ≠ 1 ∨ t ≠ 0) → (c ≠ 9 ∨ t ≠ 6 + D 1 0) → (c ≠ 5 ∨ t ≠ D 1 0) → (c ≠ 4 ∨ t ≠ D 1 0) → zU (zU (zU (zU D 4 (D 1 0) u) 5 (D 1 0) v) 9 (6 + D 1 0) p) 1 0 (D 1 0 + 1) c t = D c t := fun c t g1 g2 g3 g4 => by rw [zUn _ _ g1, zUn _ _ g2, zUn _ _ g3, zUn _ _ g4]
  have n2 : ∀ c t, (175 ≤ c ∧ c ≤ 186 ∨ c = 173 ∧ t = 19) → (c ≠ 176 ∨ t ≠ 1) → (c ≠ 179 ∨ t ≠ 8 + D 1 0) → (c ≠ 178 ∨ t ≠ 8 + D 1 0) → (c ≠ 177 ∨ t ≠ 8 + D 1 0) → i' c t = i c t := fun c t g0 g1 g2 g3 g4 => by rw [he c t g0, zUn _ _ g1, zUn _ _ g2, zUn _ _ g3, zUn _ _ g4]
  refine ⟨?_, ?_, ?_, ?_, ?_, ?_, fun g hg => ?_, fun k hk => ?_, fun c hc => ?_⟩
  · rw [n1 _ _ (by omega) (by omega) (by omega) (by omega), n2 _ _ (by omega) (by omega) (by omega) (by omega) (by omega)]; exact x1
  · rw [he _ _ (by omega), zUs, zUs]
  · rw [n1 _ _ (by omega) (by omega) (by omega) (by omega), n2 _ _ (by omega) (by omega) (by omega) (by omega) (by omega)]; exact x3
  · rw [n1 _ _ (by omega) (by omega) (by omega) (by omega), n2 _ _ (by omega) (by omega) (by omega) (by omega) (by omega)]; exact x4
  · rw [n1 _ _ (by omega) (by omega) (by omega) (by omega), n2 _ _ (by omega) (by omega) (by omega) (by omega) (by omega)]; exact x5
  · rw [n1 _ _ (by omega) (by omega) (by omega) (by omega), n2 _ _ (by omega) (by omega) (by omega) (by omega) (by omega)]; exact x6
  · rw [zUs] at hg
    by_cases e : g = D 1 0
    · rw [e, he 177 _ (by omega), he 178 _ (by omega), he 179 _ (by omega)]
      refine ⟨?_, ?_, ?_⟩
      · rw [zUn _ _ (by omega), zUn _ _ (by omega), zUn _ _ (by omega), zUs, zUn (a := 1) (j := 0) _ _ (by omega), zUn (a := 9) (j := 6 + D 1 0) _ _ (by omega), zUn (a := 5) (j := D 1 0) _ _ (by omega), zUs]
      · rw [zUn _ _ (by omega), zUn _ _ (by omega), zUs, zUn (a := 1) (j := 0) _ _ (by omega), zUn (a := 9) (j := 6 + D 1 0) _ _ (by omega), zUs]
      · rw [zUn _ _ (by omega), zUs, zUn (a := 1) (j := 0) _ _ (by omega), zUs]
    · rw [n1 4 g (by omega) (by omega) (by omega) (by omega), n1 5 g (by omega) (by omega) (by omega) (by omega), n1 9 (6 + g) (by omega) (by omega) (by omega) (by omega), n2 177 (8 + g) (by omega) (by omega) (by omega) (by omega) (by omega), n2 178 (8 + g) (by omega) (by omega) (by omega) (by omega) (by omega), n2 179 (8 + g) (by omega) (by omega) (by omega) (by omega) (by omega)]
      exact x7 g (by omega)
  · rw [n1 _ _ (by omega) (by omega) (by omega) (by omega)] at hk
    rw [n1 _ _ (by omega) (by omega) (by omega) (by omega), n1 _ _ (by omega) (by omega) (by omega) (by omega), n2 181 (4 + k) (by omega) (by omega) (by omega) (by omega) (by omega), n2 182 (4 + k) (by omega) (by omega) (by omega) (by omega) (by omega)]
    exact x8 k hk
  · rw [n1 _ _ (by omega) (by omega) (by omega) (by omega)] at hc
    rw [n1 _ _ (by omega) (by omega) (by omega) (by omega), n1 _ _ (by omega) (by omega) (by omega) (by omega), n2 184 (6 + c) (by omega) (by omega) (by omega) (by omega) (by omega), n2 185 (6 + c) (by omega) (by omega) (by omega) (by omega) (by omega)]
    exact x9 c hc
theorem c_mF150 (sc : zScr) {f : Nat} (hf : f < 8) (w s0 : Int32) (w2 w3 : Int32) (b : Bool) (l : Nat → Nat → Int64) (i : Nat → Nat → Int32) : zev sc (127, 150, [some (.ref 173), some (.int w), some (.int w2), some (.int w3)], [.int s0, .int (nI (8 + f)), .ref 179], (197, i, zRF b, l)) = some (.null, (197, zU (zU i 179 (8 + f) s0) 176 1 (i 176 1 + 1), zRF b, l)) := by
  rw [b127_150 _ _ _ _ _ _ _ _ _ (vp_in_nI (by omega) (by decide)), nI_clamp (by omega), zUn (f := i) (a := 179) (j := 8 + f) _ (q := 176) (t := 1) (Or.inl (by decide)), b127_299]
theorem c_mF131W (sc : zScr) {f : Nat} (hf : f < 8) (w v3 : Int32) (b : Bool) (l : Nat → Nat → Int64) (i : Nat → Nat → Int32) (h18 : i 173 18 = 1) : ∃ i', zev sc (127, 131, [some (.ref 173), some (.int w), some (.int (nI (8 + f))), some (.int v3)], [], (197, i, zRF b, l)) = some (.null, (197, i', zRF b, l)) ∧ i' 173 18 = 1 ∧ i' 173 15 = i 173 15 ∧ zFd i i' := by
  obtain ⟨v, hv⟩ := c_mNumW sc 0 40 b l (zU i 178 (8 + f) v3) (by rw [zUn _ _ (Or.inl (by decide))]; exact h18)
  refine ⟨zU (zU (zU i 178 (8 + f) v3) 179 (8 + f) v) 176 1 (zU i 178 (8 + f) v3 176 1 + 1), ?_, ?_, ?_, ((((zFd.refl i).one (by unfold mrd; omega) _).one (by unfold mrd; omega) _).one (by unfold mrd; omega) _)⟩
  · rw [b127_131 _ _ _ _ _ _ _ (vp_in_nI (by omega) (by decide)), nI_clamp (by omega), hv, Option.bind_some]
    dsimp only
    rw [c_mF150 sc hf]
  · rw [zUn _ _ (Or.inl (by decide)), zUn _ _ (Or.inl (by decide)), zUn _ _ (Or.inl (by decide))]; exact h18
  · rw [zUn _ _ (Or.inl (by decide)), zUn _ _ (Or.inl (by decide)), zUn _ _ (Or.inl (by decide))]
theorem c_mF88W (sc : zScr) {f : Nat} (hf : f < 8) (w s0 : Int32) (b : Bool) (l : Nat → Nat → Int64) (i : Nat → Nat → Int32) (h18 : i 173 18 = 1) : ∃ i', zev sc (127, 88, [some (.ref 173), some (.int w), some (.int (nI (8 + f))), none], [.int s0, .int (nI (8 + f)), .ref 177], (197, i, zRF b, l)) = some (.null, (197, i', zRF b, l)) ∧ i' 173 18 = 1 ∧ i' 173 15 = i 173 15 ∧ zFd i i' := by
  have hw : zU i 177 (8 + f) s0 173 18 = 1 := by rw [zUn _ _ (Or.inl (by decide))]; exact h18
  have hcl : (nI (8 + f)).toNatClampNeg = 8 + f := nI_clamp (by omega)
  have hvp : vp_in (nI (8 + f)) 16 := vp_in_nI (by omega) (by decide)
  have h128 : ∃ u : Int32, zev sc (127, 88, [some (.ref 173), some (.int w), some (.int (nI (8 + f))), none], [.int s0, .int (nI (8 + f)), .ref 177], (197, i, zRF b, l)) = zev sc (127, 128, [some (.ref 173), some (.int w), some (.int (nI (8 + f))), some (.int (zU i 177 (8 + f) s0 173 17))], [.int u, .ref 173], (197, zU i 177 (8 + f) s0, zRF b, l)) := by
    rw [b127_88 _ _ _ _ _ _ _ _ hvp, hcl]
    by_cases g1 : zU i 177 (8 + f) s0 173 16 = 2
    · rw [if_pos g1, b127_103]
      by_cases g2 : zU i 177 (8 + f) s0 175 1 ≤ zU i 177 (8 + f) s0 173 17
      · exact ⟨0, by rw [if_pos g2, b127_127]⟩
      · rw [if_neg g2, b127_113 _ _ _ _ _ _ _ hvp, hcl]
        by_cases g3 : zU i 177 (8 + f) s0 173 17 = zU i 177 (8 + f) s0 177 (8 + f)
        · exact ⟨0, by rw [if_pos g3, b127_127]⟩
        · exact ⟨1, by rw [if_neg g3, b127_123]⟩
    · exact ⟨0, by rw [if_neg g1, b127_127]⟩
  obtain ⟨u, h128⟩ := h128
  obtain ⟨i', p1, p2, p3, p4⟩ := c_mF131W sc hf w (zU i 177 (8 + f) s0 173 17) b l (zU i 177 (8 + f) s0) hw
  refine ⟨i', ?_, p2, by rw [p3, zUn _ _ (Or.inl (by decide))], ((zFd.refl i).one (by unfold mrd; omega) _).trans p4⟩
  rw [h128, b127_128, c_mDueW sc u b l _ hw, Option.bind_some]
  dsimp only
  rw [p1]
theorem it_f (sc : zScr) {S D : zS} (hn : S 17 0 ≤ 150) (hb : ∀ j, j < S 17 0 → S 16 j < 256) {a : Nat} (ha : a ≤ S 17 0) (hV : VD D) (hf : D 1 0 < 8) (b : Bool) (l : Nat → Nat → Int64) : zItF sc S D a b l 62 [some (.ref 1), some (.ref 11), none] 102 ∨ zItS sc S D a b l 62 [some (.ref 1), some (.ref 11), none] 102 := by
  have hF := hV.1
  have hz1 := zen_ge ha
  have hs1 := zst_ge S a
  have hz2 := zen_ge hz1.2.1
  have hs2 := zst_ge S (zen S a)
  have hz3 := zen_ge hz2.2.1
  have hs3 := zst_ge S (zen S (zen S a))
  have cf : (nI (D 1 0)).toNatClampNeg = D 1 0 := nI_clamp (by omega)
  have gf : vp_in (nI (D 1 0)) 8 := vp_in_nI hf (by decide)
  have c8 : (nI (8 + D 1 0)).toNatClampNeg = 8 + D 1 0 := nI_clamp (by omega)
  have g8 : vp_in (nI (8 + D 1 0)) 16 := vp_in_nI (by omega) (by decide)
  have e8 : (8 : Int32) + nI (D 1 0) = nI (8 + D 1 0) := by rw [L8, nI_add]
  have x0 : ∀ i, zXx S D a i → ∃ i1, zev sc (62, 0, [some (.ref 1), some (.ref 11), none], [], (197, i, zRF b, l)) = zev sc (62, 16, [some (.ref 1), some (.ref 11), some (.int (nI (D 1 0)))], [.int (if zOk S a 0 (nI (D 0 0) - 1) then 1 else 0)], (197, i1, zRF b, l)) ∧ i1 1 2 = nI (zen S a) ∧ i1 1 4 = nI (zst S a) ∧ (zOk S a 0 (nI (D 0 0) - 1) → i1 1 5 = nI (zva S a)) ∧ zFx i i1 := by
    rintro i ⟨hT, h2, hX⟩
    obtain ⟨i1, p1, p2, p3, p4, p5⟩ := c_xNum sc hn hb ha 0 (nI (D 0 0) - 1) b l i hT h2
    refine ⟨i1, ?_, p2, p3, p4, p5⟩
    rw [b62_0, hX.1, hX.2.1, p1, Option.bind_some]
  have m0 : ∀ i, MD D i → zev sc (127, 0, [some (.ref 173), some (.int 102), none, none], [], (197, i, zRF b, l)) = (zev sc (126, 0, [some (.ref 173), some (.int 0), some (.int (nI (D 0 0) - 1)), none], [], (197, i, zRF b, l))).bind (fun x => zev sc (127, 88, [some (.ref 173), some (.int 102), some (.int (nI (8 + D 1 0))), none], [x.1, .int (nI (8 + D 1 0)), .ref 177], x.2)) := by
    intro i hM
    rw [b127_0]
    show zev sc (127, 60, _, _, _) = _
    rw [b127_60, hM.1, hM.2.1, e8]
  by_cases h1 : zOk S a 0 (nI (D 0 0) - 1)
  rotate_left
  · refine Or.inl ⟨zst S a, zst_len ha, ?_, ?_⟩
    · intro i hX
      obtain ⟨i1, p1, p2, p3, p4, p5⟩ := x0 i hX
      exact ⟨i1, by rw [p1, if_neg h1, b62_16, if_pos rfl, b62_19], p3, p5.fy⟩
    · rintro i ⟨hT, hK, h18, hM⟩
      obtain ⟨i', p1, p2, p3, p4⟩ := c_mF88W sc hf 102 (i 173 17) b l (zU i 173 18 1) (by rw [zUs])
      refine ⟨i', ?_, ⟨p2, by rw [p3, zUn _ _ (Or.inr (by decide)), hK.2.1]⟩, (zFd.m18 i 1).trans p4⟩
      rw [m0 i hM, c_mNumN sc b l i hK h18 h1, Option.bind_some]
      dsimp only
      rw [p1]
  obtain ⟨hso1, hu⟩ := (zOk_lt hb (by omega)).mp h1
  have hva1 := zva_le hb (Or.inr hso1)
  have x1 : ∀ i, zXx S D a i → ∃ i2, zev sc (62, 0, [some (.ref 1), some (.ref 11), none], [], (197, i, zRF b, l)) = zev sc (62, 42, [some (.ref 1), some (.ref 11), some (.int (nI (D 1 0)))], [.int (if zOk S (zen S a) 0 (nI (D 0 0) - 1) then 1 else 0)], (197, i2, zRF b, l)) ∧ i2 1 2 = nI (zen S (zen S a)) ∧ i2 1 4 = nI (zst S (zen S a)) ∧ (zOk S (zen S a) 0 (nI (D 0 0) - 1) → i2 1 5 = nI (zva S (zen S a))) ∧ (∀ c t, (c ≠ 1 ∨ t < 2 ∨ 5 < t) → i2 c t = zU i 12 (D 1 0) (nI (zva S a)) c t) ∧ XT S i2 := by
    intro i hX
    obtain ⟨i1, p1, p2, p3, p4, p5⟩ := x0 i hX
    have hT1 : XT S (zU i1 12 (D 1 0) (nI (zva S a))) := hX.1.fy (p5.fy.one (by omega) _)
    obtain ⟨i2, q1, q2, q3, q4, q5⟩ := c_xNum sc hn hb hz1.2.1 0 (nI (D 0 0) - 1) b l (zU i1 12 (D 1 0) (nI (zva S a))) hT1 (by rw [zUn _ _ (Or.inl (by decide))]; exact p2)
    refine ⟨i2, ?_, q2, q3, q4, fun c t z => (q5 c t z).trans (zU_congr (p5 c t z) _ _ _), hT1.fx q5⟩
    rw [p1, if_pos h1, b62_16, if_neg (by decide), b62_21 _ _ _ _ _ gf, cf, p4 h1, zUn (f := i1) (a := 12) (j := D 1 0) _ (q := 11) (t := 0) (Or.inl (by decide)), p5 11 0 (by omega), hX.2.2.1, q1, Option.bind_some]
  have m1 : ∀ i, zMm S D a i → ∃ i1, zev sc (127, 0, [some (.ref 173), some (.int 102), none, none], [], (197, i, zRF b, l)) = zev sc (127, 128, [some (.ref 173), some (.int 102), some (.int (nI (8 + D 1 0))), some (.int (zU i1 177 (8 + D 1 0) (nI (zva S a)) 173 17))], [.int (if (zso S (zen S a) = 2 ∧ zva S (zen S a) < D 0 0) ∧ zva S (zen S a) ≠ zva S a then 1 else 0), .ref 173], (197, zU i1 177 (8 + D 1 0) (nI (zva S a)), zRF b, l)) ∧ MK S (zen S a) (zU i1 177 (8 + D 1 0) (nI (zva S a))) ∧ zU i1 177 (8 + D 1 0) (nI (zva S a)) 173 18 = 0 ∧ zFm i i1 := by
    rintro i ⟨hT, hK, h18, hM⟩
    obtain ⟨i1, p1, p2, p3⟩ := c_mNumY sc hn hb ha b l i hT hK h18 h1
    have hK1 : MK S (zen S a) (zU i1 177 (8 + D 1 0) (nI (zva S a))) := p2.congr (fun t _ _ => zUn _ _ (Or.inl (by decide)))
    refine ⟨i1, ?_, hK1, by rw [zUn _ _ (Or.inl (by decide)), p3 _ _ (by omega)]; exact h18, p3⟩
    have hle := zms_le (zso_le S (zen S a))
    rw [m0 i hM, p1, Option.bind_some]
    dsimp only
    rw [b127_88 _ _ _ _ _ _ _ _ g8, c8, hK1.2.2.1]
    by_cases g1 : zso S (zen S a) = 2
    · have hva2 := zva_le hb (Or.inr g1)
      rw [if_pos (show nI (zms (zso S (zen S a))) = 2 by rw [(zms_2 _).mpr g1]; rfl), b127_103, hK1.2.2.2 (Or.inr g1), zUn (f := i1) (a := 177) (j := 8 + D 1 0) _ (q := 175) (t := 1) (Or.inl (by decide)), p3 175 1 (by omega), hM.1]
      by_cases g2 : zva S (zen S a) < D 0 0
      · rw [if_neg (zq_nle g2 (by omega)), b127_113 _ _ _ _ _ _ _ g8, c8, zUs]
        by_cases g3 : zva S (zen S a) = zva S a
        · rw [if_pos (by rw [g3]), b127_127, if_neg (fun z => z.2 g3)]
        · rw [if_neg (fun z => g3 ((nI_eq (by omega) (by omega)).mp z)), b127_123, if_pos ⟨⟨g1, g2⟩, g3⟩]
      · rw [if_pos ((nI_leI (by omega) (by omega)).mpr (by omega)), b127_127, if_neg (fun z => g2 z.1.2)]
    · rw [if_neg (show ¬ nI (zms (zso S (zen S a))) = 2 from fun z => g1 ((zms_2 _).mp ((nI_eq (b := 2) (by omega) (by decide)).mp z))), b127_127, if_neg (fun z => g1 z.1.1)]
  by_cases h2 : (zso S (zen S a) = 2 ∧ zva S (zen S a) < D 0 0) ∧ zva S (zen S a) ≠ zva S a
  rotate_left
  · refine Or.inl ⟨zst S (zen S a), zst_len hz1.2.1, ?_, ?_⟩
    · intro i hX
      obtain ⟨i2, p1, p2, p3, p4, p5, p6⟩ := x1 i hX
      refine ⟨i2, ?_, p3, fun c t q1 q2 => by rw [p5 c t (by omega), zUn _ _ (by omega)]⟩
      · have hz : zOk S (zen S a) 0 (nI (D 0 0) - 1) → i2 12 (D 1 0) = nI (zva S a) := fun _ => by rw [p5 12 _ (by omega), zUs]
        rw [p1]
        by_cases g : zOk S (zen S a) 0 (nI (D 0 0) - 1)
        · have g' := (zOk_lt hb (by omega)).mp g
          have hva2 := zva_le hb (Or.inr g'.1)
          have e : zva S (zen S a) = zva S a := Decidable.byContradiction (fun z => h2 ⟨g', z⟩)
          rw [if_pos g, b62_42, if_neg (by decide), b62_45 _ _ _ _ _ gf, cf, p4 g, hz g, if_pos (by rw [e]), b62_58]
        · rw [if_neg g, b62_42, if_pos rfl, b62_58]
    · intro i hM
      obtain ⟨i1, p1, p2, p3, p4⟩ := m1 i hM
      obtain ⟨i', q1, q2, q3, q4⟩ := c_mF131W sc hf 102 (zU i1 177 (8 + D 1 0) (nI (zva S a)) 173 17) b l (zU (zU i1 177 (8 + D 1 0) (nI (zva S a))) 173 18 1) (by rw [zUs])
      refine ⟨i', ?_, ⟨q2, by rw [q3, zUn _ _ (Or.inr (by decide)), p2.2.1]⟩, (((p4.fd.one (by unfold mrd; omega) _).one (by unfold mrd; omega) _).trans q4)⟩
      rw [p1, if_neg h2, b127_128, c_mDueN sc b l _ p3, Option.bind_some]
      dsimp only
      rw [q1]
  obtain ⟨⟨hso2, hv⟩, hne⟩ := h2
  have hok2 : zOk S (zen S a) 0 (nI (D 0 0) - 1) := (zOk_lt hb (by omega)).mpr ⟨hso2, hv⟩
  have hva2 := zva_le hb (Or.inr hso2)
  have x2 : ∀ i, zXx S D a i → ∃ i3, zev sc (62, 0, [some (.ref 1), some (.ref 11), none], [], (197, i, zRF b, l)) = zev sc (62, 77, [some (.ref 1), some (.ref 11), some (.int (nI (D 1 0)))], [.int (if zOk S (zen S (zen S a)) 0 40 then 1 else 0)], (197, i3, zRF b, l)) ∧ i3 1 2 = nI (zen S (zen S (zen S a))) ∧ i3 1 4 = nI (zst S (zen S (zen S a))) ∧ (zOk S (zen S (zen S a)) 0 40 → i3 1 5 = nI (zva S (zen S (zen S a)))) ∧ (∀ c t, (c ≠ 1 ∨ t < 2 ∨ 5 < t) → i3 c t = zU (zU i 12 (D 1 0) (nI (zva S a))) 13 (D 1 0) (nI (zva S (zen S a))) c t) ∧ XT S i3 := by
    intro i hX
    obtain ⟨i2, p1, p2, p3, p4, p5, p6⟩ := x1 i hX
    have hT2 : XT S (zU i2 13 (D 1 0) (nI (zva S (zen S a)))) := p6.congr (fun c t z => zUn _ _ (by omega))
    obtain ⟨i3, q1, q2, q3, q4, q5⟩ := c_xNum sc hn hb hz2.2.1 0 40 b l (zU i2 13 (D 1 0) (nI (zva S (zen S a)))) hT2 (by rw [zUn _ _ (Or.inl (by decide))]; exact p2)
    refine ⟨i3, ?_, q2, q3, q4, fun c t z => (q5 c t z).trans (zU_congr (p5 c t z) _ _ _), hT2.fx q5⟩
    rw [p1, if_pos hok2, b62_42, if_neg (by decide), b62_45 _ _ _ _ _ gf, cf, p4 hok2, p5 12 _ (by omega), zUs, if_neg (fun z => hne ((nI_eq (by omega) (by omega)).mp z)), b62_60 _ _ _ _ _ gf, cf, p4 hok2, q1, Option.bind_some]
  have m2 : ∀ i, zMm S D a i → ∃ i2, zev sc (127, 0, [some (.ref 173), some (.int 102), none, none], [], (197, i, zRF b, l)) = (zev sc (126, 0, [some (.ref 173), some (.int 0), some (.int 40), none], [], (197, zU i2 178 (8 + D 1 0) (nI (zva S (zen S a))), zRF b, l))).bind (fun x => zev sc (127, 150, [some (.ref 173), some (.int 102), some (.int (nI (8 + D 1 0))), some (.int (nI (zva S (zen S a))))], [x.1, .int (nI (8 + D 1 0)), .ref 179], x.2)) ∧ MK S (zen S (zen S a)) (zU i2 178 (8 + D 1 0) (nI (zva S (zen S a)))) ∧ zU i2 178 (8 + D 1 0) (nI (zva S (zen S a))) 173 18 = 0 ∧ MT S (zU i2 178 (8 + D 1 0) (nI (zva S (zen S a)))) ∧ zFd i i2 ∧ ∀ c t, (c ≠ 173 ∨ t < 14 ∨ 17 < t) → i2 c t = zU i 177 (8 + D 1 0) (nI (zva S a)) c t := by
    intro i hM
    obtain ⟨i1, p1, p2, p3, p4⟩ := m1 i hM
    have hfd : zFd i (zU i1 177 (8 + D 1 0) (nI (zva S a))) := p4.fd.one (by unfold mrd; omega) _
    obtain ⟨i2, q1, q2, q3⟩ := c_mDueY sc hn hb hz1.2.1 b l (zU i1 177 (8 + D 1 0) (nI (zva S a))) (hM.1.fd hfd) p2 p3
    refine ⟨i2, ?_, q2.congr (fun t _ _ => zUn _ _ (Or.inl (by decide))), by rw [zUn _ _ (Or.inl (by decide)), q3 _ _ (by omega)]; exact p3, hM.1.fd ((hfd.trans q3.fd).one (by unfold mrd; omega) _), hfd.trans q3.fd, fun c t z => (q3 c t z).trans (zU_congr (p4 c t z) _ _ _)⟩
    rw [p1, if_pos ⟨⟨hso2, hv⟩, hne⟩, b127_128, q1, Option.bind_some]
    dsimp only
    rw [b127_131 _ _ _ _ _ _ _ g8, c8, p2.2.2.2 (Or.inr hso2)]
  by_cases h3 : zOk S (zen S (zen S a)) 0 40
  · have hp := (zOk_in hb (lo := 0) (hi := 40) (by decide) (by decide) h3).2
    refine Or.inr ⟨zU (zU (zU (zU D 4 (D 1 0) (zva S a)) 5 (D 1 0) (zva S (zen S a))) 9 (6 + D 1 0) (zva S (zen S (zen S a)))) 1 0 (D 1 0 + 1), zen S (zen S (zen S a)), hV.fence hf hu hv hne hp, ⟨by omega, hz3.2.1⟩, ?_, ?_, ?_, ?_⟩
    · rw [zUn _ _ (by omega), zUn _ _ (by omega), zUn _ _ (by omega), zUn _ _ (by omega)]
    · rw [zUn _ _ (by omega), zUn _ _ (by omega), zUn _ _ (by omega), zUn _ _ (by omega), if_neg (by decide)]
    · intro i hX
      obtain ⟨i3, p1, p2, p3, p4, p5, p6⟩ := x2 i hX
      have he : ∀ c t, (c ≠ 1 ∨ t < 2 ∨ 5 < t) → zU (zU i3 14 (D 1 0) (nI (zva S (zen S (zen S a))))) 11 1 (nI (D 1 0 + 1)) c t = zU (zU (zU (zU i 12 (D 1 0) (nI (zva S a))) 13 (D 1 0) (nI (zva S (zen S a)))) 14 (D 1 0) (nI (zva S (zen S (zen S a))))) 11 1 (nI (D 1 0 + 1)) c t := fun c t z => zU_congr (zU_congr (p5 c t z) _ _ _) _ _ _
      refine ⟨zU (zU i3 14 (D 1 0) (nI (zva S (zen S (zen S a))))) 11 1 (nI (D 1 0 + 1)), ?_, ⟨p6.congr (fun c t z => by rw [zUn _ _ (by omega), zUn _ _ (by omega)]), by rw [zUn _ _ (by omega), zUn _ _ (by omega)]; exact p2, hX.2.2.fence hV hf he⟩, fun c t q1 q2 => ?_⟩
      · rw [p1, if_pos h3, b62_77, if_neg (by decide), b62_82 _ _ _ _ _ gf, cf, p4 h3, zUn (f := i3) (a := 14) (j := D 1 0) _ (q := 11) (t := 1) (Or.inl (by decide)), p5 11 1 (by omega), zUn (a := 13) (j := D 1 0) _ _ (q := 11) (t := 1) (by omega), zUn (a := 12) (j := D 1 0) _ _ (q := 11) (t := 1) (by omega), hX.2.2.2.1, nI_1]
      · rw [he c t (by omega), zUn _ _ (by omega), zUn _ _ (by omega), zUn _ _ (by omega), zUn _ _ (by omega)]
    · intro i hM
      obtain ⟨i2, p1, p2, p3, p4, p5, p6⟩ := m2 i hM
      obtain ⟨i3, q1, q2, q3⟩ := c_mNumY sc hn hb hz2.2.1 b l (zU i2 178 (8 + D 1 0) (nI (zva S (zen S a)))) p4 p2 p3 h3
      have he3 : ∀ c t, (c ≠ 173 ∨ t < 14 ∨ 17 < t) → i3 c t = zU (zU i 177 (8 + D 1 0) (nI (zva S a))) 178 (8 + D 1 0) (nI (zva S (zen S a))) c t := fun c t z => (q3 c t z).trans (zU_congr (p6 c t z) _ _ _)
      have hfd : zFd i (zU (zU i3 179 (8 + D 1 0) (nI (zva S (zen S (zen S a))))) 176 1 (nI (D 1 0 + 1))) := ((((p5.one (by unfold mrd; omega) _).trans q3.fd).one (by unfold mrd; omega) _).one (by unfold mrd; omega) _)
      refine ⟨zU (zU i3 179 (8 + D 1 0) (nI (zva S (zen S (zen S a))))) 176 1 (nI (D 1 0 + 1)), ?_, ⟨hM.1.fd hfd, q2.congr (fun t _ _ => by rw [zUn _ _ (by omega), zUn _ _ (by omega)]), ?_, hM.2.2.2.fence hV hf (fun c t z => zU_congr (zU_congr (he3 c t (by omega)) _ _ _) _ _ _)⟩, hfd⟩
      · rw [p1, q1, Option.bind_some]
        dsimp only
        rw [c_mF150 sc hf, he3 176 1 (by omega), zUn _ _ (by omega), zUn _ _ (by omega), hM.2.2.2.2.1, nI_1]
      · rw [zUn _ _ (by omega), zUn _ _ (by omega), he3 _ _ (by omega), zUn _ _ (by omega), zUn _ _ (by omega)]
        exact hM.2.2.1
  · refine Or.inl ⟨zst S (zen S (zen S a)), zst_len hz2.2.1, ?_, ?_⟩
    · intro i hX
      obtain ⟨i3, p1, p2, p3, p4, p5, p6⟩ := x2 i hX
      exact ⟨i3, by rw [p1, if_neg h3, b62_77, if_pos rfl, b62_80], p3, fun c t q1 q2 => by rw [p5 c t (by omega), zUn _ _ (by omega), zUn _ _ (by omega)]⟩
    · intro i hM
      obtain ⟨i2, p1, p2, p3, p4, p5, p6⟩ := m2 i hM
      refine ⟨zU (zU (zU (zU i2 178 (8 + D 1 0) (nI (zva S (zen S a)))) 173 18 1) 179 (8 + D 1 0) (zU i2 178 (8 + D 1 0) (nI (zva S (zen S a))) 173 17)) 176 1 (zU (zU i2 178 (8 + D 1 0) (nI (zva S (zen S a)))) 173 18 1 176 1 + 1), ?_, ⟨?_, ?_⟩, ((((p5.one (by unfold mrd; omega) _).one (by unfold mrd; omega) _).one (by unfold mrd; omega) _).one (by unfold mrd; omega) _)⟩
      · rw [p1, c_mNumN sc b l _ p2 p3 h3, Option.bind_some]
        dsimp only
        rw [c_mF150 sc hf]
      · rw [zUn _ _ (by omega), zUn _ _ (by omega), zUs]
      · rw [zUn _ _ (by omega), zUn _ _ (by omega), zUn _ _ (by omega), p2.2.1]
