/-! downs -/
def zD0 : zS := fun c _ => if c = 0 then 2 else 0
theorem VD0 : VD zD0 := ⟨⟨by decide, by decide⟩, by decide, by decide, by decide, fun f hf => absurd hf (Nat.not_lt_zero _), fun f hf => absurd hf (Nat.not_lt_zero _), fun f hf => absurd hf (Nat.not_lt_zero _), by decide, by decide⟩
theorem c_xT0 (sc : zScr) {S : zS} (w3 : Option Value) (b : Bool) (l : Nat → Nat → Int64) (i : Nat → Nat → Int32) (hX : XR S i) : ∃ i', zev sc (60, 0, [some (.ref 1), some (.ref 11), none, none], [], (197, i, zRF b, l)) = zev sc (60, 16, [some (.ref 1), some (.ref 11), some (.int (nI 0)), none], [], (197, i', zRF b, l)) ∧ zXx S zD0 0 i' ∧ zFy i i' := by
  have hf : zFy i (zU (zU (zU (zU (zU (zU (zU i 11 0 2) 11 1 0) 11 5 0) 11 8 0) 11 11 0) 1 2 0) 1 6 0) := fun c t g1 g2 => by
    rw [zUn _ _ (by omega), zUn _ _ (by omega), zUn _ _ (by omega), zUn _ _ (by omega), zUn _ _ (by omega), zUn _ _ (by omega), zUn _ _ (by omega)]
  refine ⟨zU (zU (zU (zU (zU (zU (zU i 11 0 2) 11 1 0) 11 5 0) 11 8 0) 11 11 0) 1 2 0) 1 6 0, ?_, ⟨hX.xt.fy hf, ?_, ?_, ?_, ?_, ?_, ?_, ?_, fun f hf => absurd hf (Nat.not_lt_zero _), fun f hf => absurd hf (Nat.not_lt_zero _), fun f hf => absurd hf (Nat.not_lt_zero _)⟩, hf⟩
  · rw [b60_0, b33_0, Option.bind_some]
    dsimp only
    rw [b60_4]
    rfl
  · rw [zUn _ _ (by omega), zUs]
    rfl
  · rw [zUn _ _ (by omega), zUn _ _ (by omega), zUn _ _ (by omega), zUn _ _ (by omega), zUn _ _ (by omega), zUn _ _ (by omega), zUs]
    rfl
  · rw [zUn _ _ (by omega), zUn _ _ (by omega), zUn _ _ (by omega), zUn _ _ (by omega), zUn _ _ (by omega), zUs]
    rfl
  · rw [zUn _ _ (by omega), zUn _ _ (by omega), zUn _ _ (by omega), zUn _ _ (by omega), zUs]
    rfl
  · rw [zUn _ _ (by omega), zUn _ _ (by omega), zUn _ _ (by omega), zUs]
    rfl
  · rw [zUn _ _ (by omega), zUn _ _ (by omega), zUs]
    rfl
  · rw [zUs]
    rfl
theorem c_mT0 (sc : zScr) {S : zS} (hI : Inv S) (b : Bool) (l : Nat → Nat → Int64) (i : Nat → Nat → Int32) (hM : MR S i) : ∃ i', zev sc (129, 0, [some (.ref 173), none, none], [], (197, i, zRF b, l)) = zev sc (129, 56, [some (.ref 173), some (.int (nI 0)), none], [], (197, i', zRF b, l)) ∧ zMm S zD0 0 i' ∧ zFd i i' := by
  have hf : zFd i (zU (zU (zU (zU (zU (zU (zU (zU i 173 14 0) 173 18 0) 173 19 0) 175 1 2) 176 1 0) 180 1 0) 183 1 0) 186 1 0) := ((((((((zFd.refl i).one (by unfold mrd; omega) _).one (by unfold mrd; omega) _).one (by unfold mrd; omega) _).one (by unfold mrd; omega) _).one (by unfold mrd; omega) _).one (by unfold mrd; omega) _).one (by unfold mrd; omega) _).one (by unfold mrd; omega) _
  obtain ⟨i', p1, p2, p3⟩ := c_mStep sc hI.typed hI.text (Nat.zero_le _) b l (zU (zU (zU (zU (zU (zU (zU (zU i 173 14 0) 173 18 0) 173 19 0) 175 1 2) 176 1 0) 180 1 0) 183 1 0) 186 1 0) (hM.mt.fd hf) (by
    rw [zUn _ _ (by omega), zUn _ _ (by omega), zUn _ _ (by omega), zUn _ _ (by omega), zUn _ _ (by omega), zUn _ _ (by omega), zUn _ _ (by omega), zUs]
    rfl)
  have hD : MD zD0 (zU (zU (zU (zU (zU (zU (zU (zU i 173 14 0) 173 18 0) 173 19 0) 175 1 2) 176 1 0) 180 1 0) 183 1 0) 186 1 0) := by
    refine ⟨?_, ?_, ?_, ?_, ?_, ?_, fun f hf => absurd hf (Nat.not_lt_zero _), fun f hf => absurd hf (Nat.not_lt_zero _), fun f hf => absurd hf (Nat.not_lt_zero _)⟩
    · rw [zUn _ _ (by omega), zUn _ _ (by omega), zUn _ _ (by omega), zUn _ _ (by omega), zUs]
      rfl
    · rw [zUn _ _ (by omega), zUn _ _ (by omega), zUn _ _ (by omega), zUs]
      rfl
    · rw [zUn _ _ (by omega), zUn _ _ (by omega), zUs]
      rfl
    · rw [zUn _ _ (by omega), zUs]
      rfl
    · rw [zUs]
      rfl
    · rw [zUn _ _ (by omega), zUn _ _ (by omega), zUn _ _ (by omega), zUn _ _ (by omega), zUn _ _ (by omega), zUs]
      rfl
  refine ⟨i', ?_, ⟨(hM.mt.fd hf).fm p3, p2, ?_, hD.fm p3⟩, hf.trans p3.fd⟩
  · rw [b129_0, p1, Option.bind_some]
    rfl
  · rw [p3 _ _ (by omega), zUn _ _ (by omega), zUn _ _ (by omega), zUn _ _ (by omega), zUn _ _ (by omega), zUn _ _ (by omega), zUn _ _ (by omega), zUs]
theorem c_xDn (sc : zScr) {S D : zS} (hV : VD D) (v : Int32) (b : Bool) (l : Nat → Nat → Int64) (i i1 : Nat → Nat → Int32) (hX : XR S i) (hf : zFy i i1) (hD : XD D i1) : ∃ i', zev sc (76, 18, [some (.ref 0), some (.int v)], [], (197, i1, zRF b, l)) = some (.int v, (197, i', zRF b, l)) ∧ XR (sDn S D) i' ∧ ∀ c t, 173 ≤ c → i' c t = i c t := by
  obtain ⟨v1, v2, v3, v4, v5, v6, v7, v8, v9⟩ := id hV
  obtain ⟨x1, x2, x3, x4, x5, x6, x7, x8, x9⟩ := hD
  have hw : ∀ c t, (c ≠ 1 ∨ t ≠ 1) → zU i1 1 1 0 c t = i1 c t := fun c t h => zUn _ _ h
  obtain ⟨i2, p1, p2, p3, p4, p5, p6, p7, p8, p9, p10⟩ := c_lCp sc b l (zU i1 1 1 0)
  obtain ⟨i3, q1, q2, q3, q4, q5, q6, q7, q8⟩ := c_sBg sc b l i2
  obtain ⟨r1, r2, -⟩ := zIm_all b 0 (by decide)
  obtain ⟨s1, s2, -⟩ := zIm_all b 1 (by decide)
  have h6 : ∀ c t, (c ≠ 24 ∨ t ≠ 2) → (c ≠ 67 ∨ t ≠ 6) → (c ≠ 79 ∨ t ≠ 2) → (c ≠ 126 ∨ t ≠ 2) → zU (zU (zU (zU i3 24 2 0) 67 6 0) (79 + 47 * 0) 2 0) (79 + 47 * 1) 2 0 c t = i3 c t := fun c t g1 g2 g3 g4 => by rw [zUn _ _ (by omega), zUn _ _ (by omega), zUn _ _ g2, zUn _ _ g1]
  have hout : ∀ c t, 173 ≤ c → zU (zU (zU (zU i3 24 2 0) 67 6 0) (79 + 47 * 0) 2 0) (79 + 47 * 1) 2 0 c t = i c t := fun c t g => by rw [h6 c t (by omega) (by omega) (by omega) (by omega), q8 c t (by omega), p10 c t (by omega), hw c t (by omega), hf c t (by omega) (by omega)]
  obtain ⟨hn, lt, hlt, hlat, hst⟩ := hX.past
  refine ⟨zU (zU (zU (zU i3 24 2 0) 67 6 0) (79 + 47 * 0) 2 0) (79 + 47 * 1) 2 0, ?_, XR.mk ⟨?_, ?_, ?_, ?_, fun f hf => ?_, fun k hk => ?_, fun c hc => ?_⟩ ⟨fun c hc => ?_, fun f hf => ?_, fun j hj => ?_, ?_, ?_, ?_, ?_⟩ ⟨?_, lt, hlt, ?_, fun t ht => ?_⟩ (fun p hp => ⟨?_, fun h => ?_⟩) ⟨fun j hj => ?_, ?_⟩ ⟨fun j hj => ?_, ?_⟩, hout⟩
  · rw [b76_18, p1, Option.bind_some]
    dsimp only
    rw [b76_37, b105_0, q1, Option.bind_some]
    dsimp only
    rw [b105_11, b105_29, if_neg (by decide), b105_34 sc 0 (79 + 47 * 0) _ _ _ (show vp_in (nI 0) 2 from vp_in_nI (by decide) (by decide)) r1 r2, show (0 : Int32) + 1 = nI 1 from rfl, b105_29, if_neg (by decide), b105_34 sc (nI 1) (79 + 47 * 1) _ _ _ (vp_in_nI (by decide) (by decide)) s1 s2, b105_29, if_pos (by decide), b105_50, Option.bind_some]
    dsimp only
    rw [b76_41]
  · rw [h6 _ _ (by omega) (by omega) (by omega) (by omega), q8 _ _ (by omega), p2, hw _ _ (by omega), x1, sDn_lo (by decide)]
  · rw [h6 _ _ (by omega) (by omega) (by omega) (by omega), q8 _ _ (by omega), p3, hw _ _ (by omega), x2, sDn_lo (by decide)]
  · rw [h6 _ _ (by omega) (by omega) (by omega) (by omega), q8 _ _ (by omega), p4, hw _ _ (by omega), x3, sDn_lo (by decide)]
  · rw [h6 _ _ (by omega) (by omega) (by omega) (by omega), q8 _ _ (by omega), p5, hw _ _ (by omega), x4, sDn_lo (by decide)]
  · rw [sDn_lo (by decide)] at hf
    have g := p7 f (by omega)
    rw [h6 _ _ (by omega) (by omega) (by omega) (by omega), h6 _ _ (by omega) (by omega) (by omega) (by omega), q8 _ _ (by omega), q8 _ _ (by omega), g.1, g.2.1, hw _ _ (by omega), hw _ _ (by omega), sDn_lo (by decide), sDn_lo (by decide)]
    exact ⟨(x7 f hf).1, (x7 f hf).2.1⟩
  · rw [sDn_lo (by decide)] at hk
    have g := p8 k (by omega)
    rw [h6 _ _ (by omega) (by omega) (by omega) (by omega), h6 _ _ (by omega) (by omega) (by omega) (by omega), q8 _ _ (by omega), q8 _ _ (by omega), g.1, g.2, hw _ _ (by omega), hw _ _ (by omega), sDn_lo (by decide), sDn_lo (by decide)]
    exact x8 k hk
  · rw [sDn_lo (by decide)] at hc
    have g := p9 c (by omega)
    rw [h6 _ _ (by omega) (by omega) (by omega) (by omega), q8 _ _ (by omega), g.1, hw _ _ (by omega), sDn_lo (by decide)]
    exact (x9 c hc).1
  · rw [sDn_lo (by decide)] at hc
    have g := p9 c (by omega)
    show _ = nI (sDn S D 9 c)
    rw [show 19 + 1 = 20 from rfl, h6 _ _ (by omega) (by omega) (by omega) (by omega), q6 c (by omega), g.2, hw _ _ (by omega), sDn_9f S D (by omega), if_pos hc]
    exact (x9 c hc).2
  · rw [sDn_lo (by decide)] at hf
    have g := p7 f (by omega)
    show _ = nI (sDn S D 9 (6 + f))
    rw [show 19 + 2 = 21 from rfl, h6 _ _ (by omega) (by omega) (by omega) (by omega), q7 f (by omega), g.2.2, hw _ _ (by omega), sDn_9p S D (by omega), if_pos hf]
    exact (x7 f hf).2.2
  · exact absurd hj (Nat.not_lt_zero _)
  · rw [h6 _ _ (by omega) (by omega) (by omega) (by omega), q2]
    rfl
  · rw [h6 _ _ (by omega) (by omega) (by omega) (by omega), q3]
    rfl
  · rw [h6 _ _ (by omega) (by omega) (by omega) (by omega), q4]
    rfl
  · rw [h6 _ _ (by omega) (by omega) (by omega) (by omega), q5, p6, hw _ _ (by omega), x5]
    rfl
  · rw [zUn _ _ (by omega), zUn _ _ (by omega), zUn _ _ (by omega), zUs]
    rfl
  · rw [h6 _ _ (by omega) (by omega) (by omega) (by omega), q8 _ _ (by omega), p10 _ _ (by omega), hw _ _ (by omega), hf _ _ (by omega) (by omega), hlat]
  · exact absurd ht (Nat.not_lt_zero _)
  · rw [sDn_0 (by omega)]
    have hp2 : p = 0 ∨ p = 1 := by omega
    rcases hp2 with rfl | rfl
    · rw [zUn _ _ (by omega), zUs]
      rfl
    · rw [zUs]
      rfl
  · rw [sDn_0 (by omega)] at h
    omega
  · rw [sDn_0 (by omega)] at hj
    omega
  · rw [zUn _ _ (by omega), zUn _ _ (by omega), zUs, sDn_0 (by omega)]
    rfl
  · rw [sDn_0 (by omega)] at hj
    omega
  · rw [h6 _ _ (by omega) (by omega) (by omega) (by omega), q8 _ _ (by omega), p10 _ _ (by omega), zUs, sDn_0 (by omega)]
    rfl
theorem op_downs (sc : zScr) {S : zS} {i : Nat → Nat → Int32} (b : Bool) {l : Nat → Nat → Int64} (h : Rl S i l) : zOp sc 76 130 [some (.ref 0), none] [some (.ref 173), none] i b l := by
  obtain ⟨hI, hX, hM, hL⟩ := id h
  obtain ⟨i0, a1, a2, a3⟩ := c_xT0 sc none b l i hX
  have hz := zLoop sc hI.typed hI.text b l 151 zD0 0 none none (by decide) (Nat.zero_le _) VD0 (Nat.zero_le _) (fun _ => ⟨rfl, rfl⟩)
  rcases hz with ⟨p, hp, h1, h2⟩ | ⟨D, hV, h13, h1, h2⟩
  · obtain ⟨i1, b1, b2⟩ := h1 i0 a2
    have hf := a3.trans b2
    have hM1 : MR S i1 := hM.congr hI (fun c t z => hf c t (by unfold mrd at z; omega) (by unfold mrd at z; omega))
    obtain ⟨j0, c1, c2, c3⟩ := c_mT0 sc hI b l i1 hM1
    obtain ⟨j1, d1, d2, d3⟩ := h2 j0 c2
    have hg := c3.trans d3
    refine ⟨.int (-10 - nI p), i1, b, l, j1, l, S, ?_, ?_, hI, (hX.congr (fun c t z => hf c t (by unfold xrd at z; omega) (by unfold xrd at z; omega))).congr (fun c t z => hg c t (Or.inr z.1)), hM1.congr hI (fun c t z => hg c t (Or.inl z)), hL⟩
    · have hneg : ¬ (0 : Int32) ≤ -10 - nI p := by
        intro z
        have := Int32.le_iff_toInt_le.mp z
        rw [Int32.toInt_sub, nI_toInt (by omega), show (-10 : Int32).toInt = -10 from rfl, show (0 : Int32).toInt = 0 from rfl, Int.bmod_eq_of_le (by omega) (by omega)] at this
        omega
      have b1' : zev sc (60, 16, [some (.ref 1), some (.ref 11), some (.int (nI 0)), none], [], (197, i0, zRF b, l)) = some (.int (-10 - nI p), (197, i1, zRF b, l)) := b1
      rw [b76_0, a1, b1', Option.bind_some]
      dsimp only
      rw [b76_11, if_neg hneg, b76_16]
    · have d1' : zev sc (129, 56, [some (.ref 173), some (.int (nI 0)), none], [], (197, j0, zRF b, l)) = some (.null, (197, j1, zRF b, l)) := d1
      rw [b130_0, c1, d1', Option.bind_some]
      dsimp only
      rw [b130_4, d2.1, if_neg (by decide), b130_11, d2.2]
  · obtain ⟨i1, b1, b2, b3⟩ := h1 i0 a2
    have hf := a3.trans b3
    obtain ⟨i2, e1, e2, e3⟩ := c_xDn sc hV (nI (D 13 0)) b l i i1 hX hf b2
    have hM1 : MR S i2 := hM.congr hI (fun c t z => e3 c t z.1)
    obtain ⟨j0, c1, c2, c3⟩ := c_mT0 sc hI b l i2 hM1
    obtain ⟨j1, d1, d2, d3, d4⟩ := h2 j0 c2
    have hg := c3.trans d4
    have hM3 : MR S j1 := hM1.congr hI (fun c t z => hg c t (Or.inl z))
    obtain ⟨j2, f1, f2, f3⟩ := c_mDn sc hI hV b l j1 d3 hM3
    refine ⟨.int (nI (D 13 0)), i2, b, l, j2, l, sDn S D, ?_, ?_, hI.dn hV, e2.congr (fun c t z => by rw [f3 c t z.1, hg c t (Or.inr z.1)]), f2, hL⟩
    · have b1' : zev sc (60, 16, [some (.ref 1), some (.ref 11), some (.int (nI 0)), none], [], (197, i0, zRF b, l)) = some (.int (nI (D 13 0)), (197, i1, zRF b, l)) := b1
      rw [b76_0, a1, b1', Option.bind_some]
      dsimp only
      rw [b76_11, if_pos (nI_pos' (by omega)), e1]
    · have d1' : zev sc (129, 56, [some (.ref 173), some (.int (nI 0)), none], [], (197, j0, zRF b, l)) = some (.null, (197, j1, zRF b, l)) := d1
      rw [b130_0, c1, d1', Option.bind_some]
      dsimp only
      rw [b130_4, if_pos d2, f1]
