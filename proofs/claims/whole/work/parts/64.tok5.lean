/-! downs: the items n, w -/
def zXx (S D : zS) (a : Nat) (i : Nat → Nat → Int32) : Prop := XT S i ∧ i 1 2 = nI a ∧ XD D i
def zMm (S D : zS) (a : Nat) (i : Nat → Nat → Int32) : Prop := MT S i ∧ MK S a i ∧ i 173 18 = 0 ∧ MD D i
def zWw (p : Nat) (i : Nat → Nat → Int32) : Prop := i 173 18 = 1 ∧ i 173 15 = nI p
def zItF (sc : zScr) (S D : zS) (a : Nat) (b : Bool) (l : Nat → Nat → Int64) (kx : Nat) (ax : List (Option Value)) (w : Int32) : Prop := ∃ p, p ≤ S 17 0 ∧ (∀ i, zXx S D a i → ∃ i', zev sc (kx, 0, ax, [], (197, i, zRF b, l)) = some (.int 0, (197, i', zRF b, l)) ∧ i' 1 4 = nI p ∧ zFy i i') ∧ ∀ i, zMm S D a i → ∃ i', zev sc (127, 0, [some (.ref 173), some (.int w), none, none], [], (197, i, zRF b, l)) = some (.null, (197, i', zRF b, l)) ∧ zWw p i' ∧ zFd i i'
def zItS (sc : zScr) (S D : zS) (a : Nat) (b : Bool) (l : Nat → Nat → Int64) (kx : Nat) (ax : List (Option Value)) (w : Int32) : Prop := ∃ D' a', VD D' ∧ (a ≤ a' ∧ a' ≤ S 17 0) ∧ D' 13 0 = D 13 0 ∧ D' 12 0 = (if w = 119 then 1 else D 12 0) ∧ (∀ i, zXx S D a i → ∃ i', zev sc (kx, 0, ax, [], (197, i, zRF b, l)) = some (.int 1, (197, i', zRF b, l)) ∧ zXx S D' a' i' ∧ zFy i i') ∧ ∀ i, zMm S D a i → ∃ i', zev sc (127, 0, [some (.ref 173), some (.int w), none, none], [], (197, i, zRF b, l)) = some (.null, (197, i', zRF b, l)) ∧ zMm S D' a' i' ∧ zFd i i'
theorem zU_congr {α : Type} {f g : Nat → Nat → α} {c t : Nat} (h : f c t = g c t) (a j : Nat) (v : α) : zU f a j v c t = zU g a j v c t := by
  unfold zU
  rw [h]
theorem zst_len {S : zS} {a : Nat} (h : a ≤ S 17 0) : zst S a ≤ S 17 0 := (zst_ge S a).2 h
theorem MK.m18 {S : zS} {a : Nat} {i : Nat → Nat → Int32} (h : MK S a i) (v : Int32) : MK S a (zU i 173 18 v) := by
  obtain ⟨h1, h2, h3, h4⟩ := h
  refine ⟨?_, ?_, ?_, fun z => ?_⟩
  · rw [zUn _ _ (Or.inr (by decide))]; exact h1
  · rw [zUn _ _ (Or.inr (by decide))]; exact h2
  · rw [zUn _ _ (Or.inr (by decide))]; exact h3
  · rw [zUn _ _ (Or.inr (by decide))]; exact h4 z
theorem MK.congr {S : zS} {a : Nat} {i i' : Nat → Nat → Int32} (h : MK S a i) (he : ∀ t, 14 ≤ t → t ≤ 17 → i' 173 t = i 173 t) : MK S a i' := by
  obtain ⟨h1, h2, h3, h4⟩ := h
  refine ⟨?_, ?_, ?_, fun z => ?_⟩
  · rw [he _ (by decide) (by decide)]; exact h1
  · rw [he _ (by decide) (by decide)]; exact h2
  · rw [he _ (by decide) (by decide)]; exact h3
  · rw [he _ (by decide) (by decide)]; exact h4 z
theorem zFd.m18 (i : Nat → Nat → Int32) (v : Int32) : zFd i (zU i 173 18 v) := (zFd.refl i).one (by unfold mrd; omega) v
theorem zvp1 : vp_in (1 : Int32) 2 := (vp_in_nI (by decide) (by decide) : vp_in (nI 1) 2)
/-- n -/
theorem it_n (sc : zScr) {S D : zS} (hn : S 17 0 ≤ 150) (hb : ∀ j, j < S 17 0 → S 16 j < 256) {a : Nat} (ha : a ≤ S 17 0) (hV : VD D) (e1 : D 1 0 = 0) (e3 : D 3 0 = 0) (b : Bool) (l : Nat → Nat → Int64) : zItF sc S D a b l 61 [some (.ref 1), some (.ref 11)] 110 ∨ zItS sc S D a b l 61 [some (.ref 1), some (.ref 11)] 110 := by
  have hz := zen_ge ha
  by_cases h1 : zOk S a 1 8
  · refine Or.inr ⟨zU D 0 0 (zva S a), zen S a, ?_, ⟨by have := (zst_ge S a).1; omega, hz.2.1⟩, zUn _ _ (Or.inl (by decide)), ?_, ?_, ?_⟩
    · obtain ⟨g1, g2⟩ := zOk_in hb (lo := 1) (hi := 8) (by decide) (by decide) h1
      obtain ⟨v1, v2, v3, v4, v5, v6, v7, v8, v9⟩ := hV
      have n1 : ∀ c t, c ≠ 0 → zU D 0 0 (zva S a) c t = D c t := fun c t h => zUn _ _ (Or.inl h)
      refine ⟨by rw [zUs]; exact ⟨g1, g2⟩, ?_, ?_, ?_, fun f hf => ?_, fun k hk => ?_, fun c hc => ?_, ?_, ?_⟩
      · rw [n1 _ _ (by decide)]; exact v2
      · rw [n1 _ _ (by decide)]; exact v3
      · rw [n1 _ _ (by decide)]; exact v4
      · rw [n1 _ _ (by decide), e1] at hf
        omega
      · rw [n1 _ _ (by decide)] at hk
        rw [n1 _ _ (by decide), n1 _ _ (by decide)]; exact v6 k hk
      · rw [n1 _ _ (by decide), e3] at hc
        omega
      · rw [n1 _ _ (by decide)]; exact v8
      · rw [n1 _ _ (by decide)]; exact v9
    · rw [zUn _ _ (Or.inl (by decide)), if_neg (by decide)]
    · rintro i ⟨hT, h2, hX⟩
      obtain ⟨i1, p1, p2, p3, p4, p5⟩ := c_xNum sc hn hb ha 1 8 b l i hT h2
      have hf : zFy i (zU i1 11 0 (nI (zva S a))) := p5.fy.one (by omega) _
      refine ⟨zU i1 11 0 (nI (zva S a)), ?_, ⟨hT.fy hf, by rw [zUn _ _ (Or.inl (by decide))]; exact p2, ?_⟩, hf⟩
      · rw [b61_0, p1, if_pos h1, Option.bind_some]
        dsimp only
        rw [b61_7, if_neg (by decide), b61_12, p4 h1]
      · have hX1 := hX.fx p5
        obtain ⟨x1, x2, x3, x4, x5, x6, x7, x8, x9⟩ := hX1
        have n1 : ∀ c t, c ≠ 0 → zU D 0 0 (zva S a) c t = D c t := fun c t h => zUn _ _ (Or.inl h)
        have n2 : ∀ c t, (c ≠ 11 ∨ t ≠ 0) → zU i1 11 0 (nI (zva S a)) c t = i1 c t := fun c t h => zUn _ _ h
        refine ⟨by rw [zUs, zUs], ?_, ?_, ?_, ?_, ?_, fun f hf => ?_, fun k hk => ?_, fun c hc => ?_⟩
        · rw [n1 _ _ (by decide), n2 _ _ (by decide)]; exact x2
        · rw [n1 _ _ (by decide), n2 _ _ (by decide)]; exact x3
        · rw [n1 _ _ (by decide), n2 _ _ (by decide)]; exact x4
        · rw [n1 _ _ (by decide), n2 _ _ (by decide)]; exact x5
        · rw [n1 _ _ (by decide), n2 _ _ (by decide)]; exact x6
        · rw [n1 _ _ (by decide)] at hf
          rw [n1 _ _ (by decide), n1 _ _ (by decide), n1 _ _ (by decide), n2 _ _ (Or.inl (by decide)), n2 _ _ (Or.inl (by decide)), n2 _ _ (Or.inl (by decide))]
          exact x7 f hf
        · rw [n1 _ _ (by decide)] at hk
          rw [n1 _ _ (by decide), n1 _ _ (by decide), n2 _ _ (Or.inl (by decide)), n2 _ _ (Or.inl (by decide))]
          exact x8 k hk
        · rw [n1 _ _ (by decide)] at hc
          rw [n1 _ _ (by decide), n1 _ _ (by decide), n2 _ _ (Or.inl (by decide)), n2 _ _ (Or.inl (by decide))]
          exact x9 c hc
    · rintro i ⟨hT, hK, h18, hM⟩
      obtain ⟨i1, p1, p2, p3⟩ := c_mNumY sc hn hb ha b l i hT hK h18 h1
      have hf : zFd i (zU i1 175 1 (nI (zva S a))) := p3.fd.one (by unfold mrd; omega) _
      refine ⟨zU i1 175 1 (nI (zva S a)), ?_, ⟨hT.fd hf, p2.congr (fun t _ _ => zUn _ _ (Or.inl (by decide))), by rw [zUn _ _ (Or.inl (by decide)), p3 _ _ (by omega)]; exact h18, ?_⟩, hf⟩
      · rw [b127_0]
        show zev sc (127, 44, _, _, _) = _
        rw [b127_44, p1, Option.bind_some]
        dsimp only
        rw [b127_56 _ _ _ _ _ _ _ zvp1, show (1 : Int32).toNatClampNeg = 1 from rfl, b127_299]
      · have hM1 := hM.fm p3
        obtain ⟨x1, x2, x3, x4, x5, x6, x7, x8, x9⟩ := hM1
        have n1 : ∀ c t, c ≠ 0 → zU D 0 0 (zva S a) c t = D c t := fun c t h => zUn _ _ (Or.inl h)
        have n2 : ∀ c t, (c ≠ 175 ∨ t ≠ 1) → zU i1 175 1 (nI (zva S a)) c t = i1 c t := fun c t h => zUn _ _ h
        refine ⟨by rw [zUs, zUs], ?_, ?_, ?_, ?_, ?_, fun f hf => ?_, fun k hk => ?_, fun c hc => ?_⟩
        · rw [n1 _ _ (by decide), n2 _ _ (by decide)]; exact x2
        · rw [n1 _ _ (by decide), n2 _ _ (by decide)]; exact x3
        · rw [n1 _ _ (by decide), n2 _ _ (by decide)]; exact x4
        · rw [n1 _ _ (by decide), n2 _ _ (by decide)]; exact x5
        · rw [n1 _ _ (by decide), n2 _ _ (by decide)]; exact x6
        · rw [n1 _ _ (by decide)] at hf
          rw [n1 _ _ (by decide), n1 _ _ (by decide), n1 _ _ (by decide), n2 _ _ (Or.inl (by decide)), n2 _ _ (Or.inl (by decide)), n2 _ _ (Or.inl (by decide))]
          exact x7 f hf
        · rw [n1 _ _ (by decide)] at hk
          rw [n1 _ _ (by decide), n1 _ _ (by decide), n2 _ _ (Or.inl (by decide)), n2 _ _ (Or.inl (by decide))]
          exact x8 k hk
        · rw [n1 _ _ (by decide)] at hc
          rw [n1 _ _ (by decide), n1 _ _ (by decide), n2 _ _ (Or.inl (by decide)), n2 _ _ (Or.inl (by decide))]
          exact x9 c hc
  · refine Or.inl ⟨zst S a, zst_len ha, ?_, ?_⟩
    · rintro i ⟨hT, h2, hX⟩
      obtain ⟨i1, p1, p2, p3, p4, p5⟩ := c_xNum sc hn hb ha 1 8 b l i hT h2
      refine ⟨i1, ?_, p3, p5.fy⟩
      rw [b61_0, p1, if_neg h1, Option.bind_some]
      dsimp only
      rw [b61_7, if_pos rfl, b61_10]
    · rintro i ⟨hT, hK, h18, hM⟩
      refine ⟨zU (zU i 173 18 1) 175 1 (i 173 17), ?_, ⟨?_, ?_⟩, (zFd.m18 i 1).one (by unfold mrd; omega) _⟩
      · rw [b127_0]
        show zev sc (127, 44, _, _, _) = _
        rw [b127_44, c_mNumN sc b l i hK h18 h1, Option.bind_some]
        dsimp only
        rw [b127_56 _ _ _ _ _ _ _ zvp1, show (1 : Int32).toNatClampNeg = 1 from rfl, b127_299]
      · rw [zUn _ _ (Or.inl (by decide)), zUs]
      · rw [zUn _ _ (Or.inl (by decide)), zUn _ _ (Or.inr (by decide)), hK.2.1]
/-- w -/
theorem it_w (sc : zScr) {S D : zS} (hn : S 17 0 ≤ 150) (hb : ∀ j, j < S 17 0 → S 16 j < 256) {a : Nat} (ha : a ≤ S 17 0) (hV : VD D) (b : Bool) (l : Nat → Nat → Int64) : zItF sc S D a b l 65 [some (.ref 1), some (.ref 11)] 119 ∨ zItS sc S D a b l 65 [some (.ref 1), some (.ref 11)] 119 := by
  have hz := zen_ge ha
  have hw1 : ∀ i, zFy i (zU i 1 6 1) := fun i => (fun c t g1 g2 => zUn _ _ (by omega))
  by_cases h1 : zOk S a 0 9
  · refine Or.inr ⟨zU (zU D 9 16 (zva S a)) 12 0 1, zen S a, ?_, ⟨by have := (zst_ge S a).1; omega, hz.2.1⟩, ?_, ?_, ?_, ?_⟩
    · obtain ⟨g1, g2⟩ := zOk_in hb (lo := 0) (hi := 9) (by decide) (by decide) h1
      obtain ⟨v1, v2, v3, v4, v5, v6, v7, v8, v9⟩ := hV
      have n1 : ∀ c t, (c ≠ 9 ∨ t ≠ 16) → c ≠ 12 → zU (zU D 9 16 (zva S a)) 12 0 1 c t = D c t := fun c t h g => by rw [zUn _ _ (Or.inl g), zUn _ _ h]
      refine ⟨by rw [n1 _ _ (by decide) (by decide)]; exact v1, ?_, ?_, ?_, fun f hf => ?_, fun k hk => ?_, fun c hc => ?_, ?_, ?_⟩
      · rw [n1 _ _ (by decide) (by decide)]; exact v2
      · rw [n1 _ _ (by decide) (by decide)]; exact v3
      · rw [n1 _ _ (by decide) (by decide)]; exact v4
      · rw [n1 _ _ (by decide) (by decide)] at hf
        rw [n1 _ _ (by omega) (by decide), n1 _ _ (by omega) (by decide), n1 _ _ (by omega) (by decide), n1 _ _ (by omega) (by decide)]
        exact v5 f hf
      · rw [n1 _ _ (by decide) (by decide)] at hk
        rw [n1 _ _ (by omega) (by decide), n1 _ _ (by omega) (by decide)]; exact v6 k hk
      · rw [n1 _ _ (by decide) (by decide)] at hc
        rw [n1 _ _ (by omega) (by decide), n1 _ _ (by omega) (by decide), n1 _ _ (by omega) (by decide), n1 _ _ (by omega) (by decide)]
        exact v7 c hc
      · rw [zUn _ _ (Or.inl (by decide)), zUs]; exact g2
      · rw [zUs]; exact Nat.le_refl _
    · rw [zUn _ _ (Or.inl (by decide)), zUn _ _ (Or.inl (by decide))]
    · rw [zUs, if_pos rfl]
    · rintro i ⟨hT, h2, hX⟩
      obtain ⟨i1, p1, p2, p3, p4, p5⟩ := c_xNum sc hn hb ha 0 9 b l (zU i 1 6 1) (hT.fy (hw1 i)) (by rw [zUn _ _ (Or.inr (by decide))]; exact h2)
      have hf : zFy i (zU i1 11 11 (nI (zva S a))) := ((hw1 i).trans p5.fy).one (by omega) _
      refine ⟨zU i1 11 11 (nI (zva S a)), ?_, ⟨hT.fy hf, by rw [zUn _ _ (Or.inl (by decide))]; exact p2, ?_⟩, hf⟩
      · rw [b65_0, p1, if_pos h1, Option.bind_some]
        dsimp only
        rw [b65_12, if_neg (by decide), b65_17, p4 h1]
      · obtain ⟨x1, x2, x3, x4, x5, x6, x7, x8, x9⟩ := hX
        have n1 : ∀ c t, (c ≠ 9 ∨ t ≠ 16) → c ≠ 12 → zU (zU D 9 16 (zva S a)) 12 0 1 c t = D c t := fun c t h g => by rw [zUn _ _ (Or.inl g), zUn _ _ h]
        have n2 : ∀ c t, (c ≠ 11 ∨ t ≠ 11) → c ≠ 1 → zU i1 11 11 (nI (zva S a)) c t = i c t := fun c t h g => by rw [zUn _ _ h, p5 _ _ (Or.inl g), zUn _ _ (Or.inl g)]
        refine ⟨?_, ?_, ?_, ?_, ?_, ?_, fun f hf => ?_, fun k hk => ?_, fun c hc => ?_⟩
        · rw [n1 _ _ (by decide) (by decide), n2 _ _ (by decide) (by decide)]; exact x1
        · rw [n1 _ _ (by decide) (by decide), n2 _ _ (by decide) (by decide)]; exact x2
        · rw [n1 _ _ (by decide) (by decide), n2 _ _ (by decide) (by decide)]; exact x3
        · rw [n1 _ _ (by decide) (by decide), n2 _ _ (by decide) (by decide)]; exact x4
        · rw [zUs, zUn (a := 12) (j := 0) _ _ (Or.inl (by decide)), zUs]
        · rw [zUs, zUn (a := 11) (j := 11) _ _ (Or.inl (by decide)), p5 _ _ (by omega), zUs]
          rfl
        · rw [n1 _ _ (by decide) (by decide)] at hf
          have := hV.2.1
          rw [n1 _ _ (by omega) (by decide), n1 _ _ (by omega) (by decide), n1 _ _ (by omega) (by decide), n2 _ _ (by omega) (by decide), n2 _ _ (by omega) (by decide), n2 _ _ (by omega) (by decide)]
          exact x7 f hf
        · rw [n1 _ _ (by decide) (by decide)] at hk
          rw [n1 _ _ (by omega) (by decide), n1 _ _ (by omega) (by decide), n2 _ _ (by omega) (by decide), n2 _ _ (by omega) (by decide)]
          exact x8 k hk
        · rw [n1 _ _ (by decide) (by decide)] at hc
          have := hV.2.2.2.1
          rw [n1 _ _ (by omega) (by decide), n1 _ _ (by omega) (by decide), n2 _ _ (by omega) (by decide), n2 _ _ (by omega) (by decide)]
          exact x9 c hc
    · rintro i ⟨hT, hK, h18, hM⟩
      obtain ⟨i1, p1, p2, p3⟩ := c_mNumY sc hn hb ha b l i hT hK h18 h1
      have hf : zFd i (zU i1 186 1 (nI (zva S a))) := p3.fd.one (by unfold mrd; omega) _
      refine ⟨zU i1 186 1 (nI (zva S a)), ?_, ⟨hT.fd hf, p2.congr (fun t _ _ => zUn _ _ (Or.inl (by decide))), by rw [zUn _ _ (Or.inl (by decide)), p3 _ _ (by omega)]; exact h18, ?_⟩, hf⟩
      · rw [b127_0]
        show zev sc (127, 286, _, _, _) = _
        rw [b127_286, p1, Option.bind_some]
        dsimp only
        rw [b127_298 _ _ _ _ _ _ _ zvp1, show (1 : Int32).toNatClampNeg = 1 from rfl, b127_299]
      · have hM1 := hM.fm p3
        obtain ⟨x1, x2, x3, x4, x5, x6, x7, x8, x9⟩ := hM1
        have n1 : ∀ c t, (c ≠ 9 ∨ t ≠ 16) → c ≠ 12 → zU (zU D 9 16 (zva S a)) 12 0 1 c t = D c t := fun c t h g => by rw [zUn _ _ (Or.inl g), zUn _ _ h]
        have n2 : ∀ c t, (c ≠ 186 ∨ t ≠ 1) → zU i1 186 1 (nI (zva S a)) c t = i1 c t := fun c t h => zUn _ _ h
        refine ⟨?_, ?_, ?_, ?_, ?_, ?_, fun f hf => ?_, fun k hk => ?_, fun c hc => ?_⟩
        · rw [n1 _ _ (by decide) (by decide), n2 _ _ (by decide)]; exact x1
        · rw [n1 _ _ (by decide) (by decide), n2 _ _ (by decide)]; exact x2
        · rw [n1 _ _ (by decide) (by decide), n2 _ _ (by decide)]; exact x3
        · rw [n1 _ _ (by decide) (by decide), n2 _ _ (by decide)]; exact x4
        · rw [zUs, zUn (a := 12) (j := 0) _ _ (Or.inl (by decide)), zUs]
        · rw [n1 _ _ (by decide) (by decide), n2 _ _ (by decide)]; exact x6
        · rw [n1 _ _ (by decide) (by decide)] at hf
          have := hV.2.1
          rw [n1 _ _ (by omega) (by decide), n1 _ _ (by omega) (by decide), n1 _ _ (by omega) (by decide), n2 _ _ (by omega), n2 _ _ (by omega), n2 _ _ (by omega)]
          exact x7 f hf
        · rw [n1 _ _ (by decide) (by decide)] at hk
          rw [n1 _ _ (by omega) (by decide), n1 _ _ (by omega) (by decide), n2 _ _ (by omega), n2 _ _ (by omega)]
          exact x8 k hk
        · rw [n1 _ _ (by decide) (by decide)] at hc
          have := hV.2.2.2.1
          rw [n1 _ _ (by omega) (by decide), n1 _ _ (by omega) (by decide), n2 _ _ (by omega), n2 _ _ (by omega)]
          exact x9 c hc
  · refine Or.inl ⟨zst S a, zst_len ha, ?_, ?_⟩
    · rintro i ⟨hT, h2, hX⟩
      obtain ⟨i1, p1, p2, p3, p4, p5⟩ := c_xNum sc hn hb ha 0 9 b l (zU i 1 6 1) (hT.fy (hw1 i)) (by rw [zUn _ _ (Or.inr (by decide))]; exact h2)
      refine ⟨i1, ?_, p3, (hw1 i).trans p5.fy⟩
      rw [b65_0, p1, if_neg h1, Option.bind_some]
      dsimp only
      rw [b65_12, if_pos rfl, b65_15]
    · rintro i ⟨hT, hK, h18, hM⟩
      refine ⟨zU (zU i 173 18 1) 186 1 (i 173 17), ?_, ⟨?_, ?_⟩, (zFd.m18 i 1).one (by unfold mrd; omega) _⟩
      · rw [b127_0]
        show zev sc (127, 286, _, _, _) = _
        rw [b127_286, c_mNumN sc b l i hK h18 h1, Option.bind_some]
        dsimp only
        rw [b127_298 _ _ _ _ _ _ _ zvp1, show (1 : Int32).toNatClampNeg = 1 from rfl, b127_299]
      · rw [zUn _ _ (Or.inl (by decide)), zUs]
      · rw [zUn _ _ (Or.inl (by decide)), zUn _ _ (Or.inr (by decide)), hK.2.1]
