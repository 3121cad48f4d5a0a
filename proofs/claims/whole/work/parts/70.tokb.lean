/-! downs: both take what was told -/
theorem sDn_lo {S D : zS} {c : Nat} (h : c ≤ 8) (t : Nat) : sDn S D c t = D c t := if_pos h
theorem sDn_st {S D : zS} {c : Nat} (h : c = 11 ∨ c = 12 ∨ c = 14 ∨ c = 16) (t : Nat) : sDn S D c t = S c t := by
  unfold sDn
  rw [if_neg (by omega), if_neg (by omega), if_neg (by omega), if_neg (by omega)]
theorem sDn_0 {S D : zS} {c : Nat} (h : c = 13 ∨ c = 15 ∨ c = 17) (t : Nat) : sDn S D c t = 0 := by
  unfold sDn
  rw [if_neg (by omega), if_neg (by omega), if_neg (by omega), if_pos (by omega)]
theorem sDn_9f (S D : zS) {t : Nat} (h : t < 6) : sDn S D 9 t = if t < D 3 0 then D 9 t else 0 := by
  show (if t < 6 then _ else _) = _
  rw [if_pos h]
theorem sDn_9p (S D : zS) {f : Nat} (h : f < 8) : sDn S D 9 (6 + f) = if f < D 1 0 then D 9 (6 + f) else 0 := by
  show (if 6 + f < 6 then _ else if 6 + f < 14 then (if 6 + f - 6 < D 1 0 then D 9 (6 + f) else 0) else _) = _
  rw [if_neg (by omega), if_pos (by omega), show 6 + f - 6 = f by omega]
theorem sDn_9h (S D : zS) {t : Nat} (h : 14 ≤ t) (h2 : t ≠ 16) : sDn S D 9 t = 0 := by
  show (if t < 6 then _ else if t < 14 then _ else if t = 16 then _ else 0) = _
  rw [if_neg (by omega), if_neg (by omega), if_neg h2]
theorem c_mDn (sc : zScr) {S D : zS} (hI : Inv S) (hV : VD D) (b : Bool) (l : Nat → Nat → Int64) (i : Nat → Nat → Int32) (hM : MD D i) (hR : MR S i) : ∃ i', zev sc (130, 19, [some (.ref 173), none], [], (197, i, zRF b, l)) = some (.int (nI (D 13 0)), (197, i', zRF b, l)) ∧ MR (sDn S D) i' ∧ ∀ c t, c < 173 → i' c t = i c t := by
  obtain ⟨x1, x2, x3, x4, x5, x6, x7, x8, x9⟩ := id hM
  have hw : ∀ c t, ((c ≠ 175 ∧ c ≠ 176 ∧ c ≠ 180 ∧ c ≠ 183) ∨ t ≠ 0) → zU (zU (zU (zU i 175 0 (nI (D 0 0))) 176 0 (nI (D 1 0))) 180 0 (nI (D 2 0))) 183 0 (nI (D 3 0)) c t = i c t := fun c t g => by rw [zUn _ _ (by omega), zUn _ _ (by omega), zUn _ _ (by omega), zUn _ _ (by omega)]
  have w175 : zU (zU (zU (zU i 175 0 (nI (D 0 0))) 176 0 (nI (D 1 0))) 180 0 (nI (D 2 0))) 183 0 (nI (D 3 0)) 175 0 = nI (D 0 0) := by rw [zUn _ _ (by omega), zUn _ _ (by omega), zUn _ _ (by omega), zUs]
  have w176 : zU (zU (zU (zU i 175 0 (nI (D 0 0))) 176 0 (nI (D 1 0))) 180 0 (nI (D 2 0))) 183 0 (nI (D 3 0)) 176 0 = nI (D 1 0) := by rw [zUn _ _ (by omega), zUn _ _ (by omega), zUs]
  have w180 : zU (zU (zU (zU i 175 0 (nI (D 0 0))) 176 0 (nI (D 1 0))) 180 0 (nI (D 2 0))) 183 0 (nI (D 3 0)) 180 0 = nI (D 2 0) := by rw [zUn _ _ (by omega), zUs]
  have w183 : zU (zU (zU (zU i 175 0 (nI (D 0 0))) 176 0 (nI (D 1 0))) 180 0 (nI (D 2 0))) 183 0 (nI (D 3 0)) 183 0 = nI (D 3 0) := by rw [zUs]
  have hMw : MD D (zU (zU (zU (zU i 175 0 (nI (D 0 0))) 176 0 (nI (D 1 0))) 180 0 (nI (D 2 0))) 183 0 (nI (D 3 0))) := by
    refine ⟨by rw [hw _ _ (by omega)]; exact x1, by rw [hw _ _ (by omega)]; exact x2, by rw [hw _ _ (by omega)]; exact x3, by rw [hw _ _ (by omega)]; exact x4, by rw [hw _ _ (by omega)]; exact x5, by rw [hw _ _ (by omega)]; exact x6, fun g hg => ?_, fun g hg => ?_, fun g hg => ?_⟩
    · rw [hw _ _ (by omega), hw _ _ (by omega), hw _ _ (by omega)]; exact x7 g hg
    · rw [hw _ _ (by omega), hw _ _ (by omega)]; exact x8 g hg
    · rw [hw _ _ (by omega), hw _ _ (by omega)]; exact x9 g hg
  obtain ⟨i1, p1, p2, p3⟩ := c_mD1 sc b l 30 0 (zU (zU (zU (zU i 175 0 (nI (D 0 0))) 176 0 (nI (D 1 0))) 180 0 (nI (D 2 0))) 183 0 (nI (D 3 0))) (by decide) (fun t ht => absurd ht (Nat.not_lt_zero _))
  have hM1 : MD D i1 := hMw.congr (fun c t z => p3 c t (by omega))
  have hV1 := hV.2.1
  have hV2 := hV.2.2.1
  have hV3 := hV.2.2.2.1
  obtain ⟨i2, q1, q2, q3, q4⟩ := c_mD2 sc hV b l 8 0 i1 (by decide) hM1 (by rw [p3 _ _ (by decide)]; exact w176) (fun g hg => absurd hg (Nat.not_lt_zero _))
  obtain ⟨i3, r1, r2, r3, r4⟩ := c_mD3 sc hV b l 4 0 i2 (by decide) q3 (fun g hg => absurd hg (Nat.not_lt_zero _))
  obtain ⟨i4, s1, s2, s3, s4⟩ := c_mD4 sc hV b l 6 0 i3 (by decide) r3 (by rw [r4 _ _ (by omega) (by omega), q4 _ _ (by omega) (by omega) (by omega), p3 _ _ (by decide)]; exact w183) (fun g hg => absurd hg (Nat.not_lt_zero _))
  have h4 : ∀ c t, (c ≠ 177 ∧ c ≠ 178 ∧ c ≠ 181 ∧ c ≠ 182 ∧ c ≠ 184 ∧ c ≠ 187) → i4 c t = zU (zU (zU (zU i 175 0 (nI (D 0 0))) 176 0 (nI (D 1 0))) 180 0 (nI (D 2 0))) 183 0 (nI (D 3 0)) c t := fun c t g => by rw [s4 c t (by omega) (by omega), r4 c t (by omega) (by omega), q4 c t (by omega) (by omega) (by omega), p3 c t (by omega)]
  have h5 : ∀ c t, (c ≠ 187 ∨ t ≠ 16) → (c ≠ 188 ∨ t ≠ 0) → c ≠ 191 → (c ≠ 173 ∨ (t ≠ 26 ∧ t ≠ 1)) → zU (zU (zU (zU (zU (zU i4 187 16 (i4 186 1)) 188 0 0) 191 0 (vp_nar .boolean 0)) 191 1 (vp_nar .boolean 0)) 173 26 0) 173 1 0 c t = i4 c t := fun c t g1 g2 g3 g4 => by rw [zUn _ _ (by omega), zUn _ _ (by omega), zUn _ _ (by omega), zUn _ _ (by omega), zUn _ _ (by omega), zUn _ _ (by omega)]
  have enar : vp_nar .boolean 0 = (0 : Int32) := by decide
  have h45 : ∀ c t, (c < 173 ∨ (c = 188 ∧ t ≠ 0) ∨ c = 189 ∨ c = 190 ∨ c = 192) → zU (zU (zU (zU (zU (zU i4 187 16 (i4 186 1)) 188 0 0) 191 0 (vp_nar .boolean 0)) 191 1 (vp_nar .boolean 0)) 173 26 0) 173 1 0 c t = i c t := fun c t g => by rw [h5 c t (by omega) (by omega) (by omega) (by omega), h4 c t (by omega), hw c t (by omega)]
  refine ⟨zU (zU (zU (zU (zU (zU i4 187 16 (i4 186 1)) 188 0 0) 191 0 (vp_nar .boolean 0)) 191 1 (vp_nar .boolean 0)) 173 26 0) 173 1 0, ?_, MR.mk ⟨?_, ?_, ?_, ?_, fun f hf => ?_, fun k hk => ?_, fun c hc => ?_⟩ (fun j hj => ?_) ⟨fun p hp => ?_, fun j hj => ?_, fun j hj => ?_, fun p hp => ?_⟩ ⟨fun j hj => ?_, ?_⟩ ⟨fun j hj => ?_, ?_⟩, fun c t g => h45 c t (Or.inl g)⟩
  · rw [show nI 0 = 0 from rfl] at p1 q1 r1 s1
    rw [b130_19, x1, zUn (f := i) (a := 175) (j := 0) _ (q := 176) (t := 1) (Or.inl (by decide)), x2, zUn (a := 176) (j := 0) _ _ (q := 180) (t := 1) (Or.inl (by decide)), zUn (f := i) (a := 175) (j := 0) _ (q := 180) (t := 1) (Or.inl (by decide)), x3, zUn (a := 180) (j := 0) _ _ (q := 183) (t := 1) (Or.inl (by decide)), zUn (a := 176) (j := 0) _ _ (q := 183) (t := 1) (Or.inl (by decide)), zUn (f := i) (a := 175) (j := 0) _ (q := 183) (t := 1) (Or.inl (by decide)), x4, p1, b130_88, q1, b130_164, r1, b130_205, s1, b130_265, h5 173 19 (by omega) (by omega) (by omega) (by omega), s3.2.2.2.2.2.1]
  · rw [h5 _ _ (by omega) (by omega) (by omega) (by omega), h4 _ _ (by omega), w175, sDn_lo (by decide)]
  · rw [h5 _ _ (by omega) (by omega) (by omega) (by omega), h4 _ _ (by omega), w176, sDn_lo (by decide)]
  · rw [h5 _ _ (by omega) (by omega) (by omega) (by omega), h4 _ _ (by omega), w180, sDn_lo (by decide)]
  · rw [h5 _ _ (by omega) (by omega) (by omega) (by omega), h4 _ _ (by omega), w183, sDn_lo (by decide)]
  · rw [sDn_lo (by decide)] at hf
    have := (q2 f (by omega)).1 hf
    rw [h5 _ _ (by omega) (by omega) (by omega) (by omega), h5 _ _ (by omega) (by omega) (by omega) (by omega), s4 _ _ (by omega) (by omega), s4 _ _ (by omega) (by omega), r4 _ _ (by omega) (by omega), r4 _ _ (by omega) (by omega), sDn_lo (by decide), sDn_lo (by decide)]
    exact this
  · rw [sDn_lo (by decide)] at hk
    have := r2 k hk
    rw [h5 _ _ (by omega) (by omega) (by omega) (by omega), h5 _ _ (by omega) (by omega) (by omega) (by omega), s4 _ _ (by omega) (by omega), s4 _ _ (by omega) (by omega), sDn_lo (by decide), sDn_lo (by decide)]
    exact this
  · rw [sDn_lo (by decide)] at hc
    have := (s2 c (by omega)).1 hc
    rw [h5 _ _ (by omega) (by omega) (by omega) (by omega), sDn_lo (by decide)]
    exact this
  · by_cases e16 : j = 16
    · rw [e16, zUn _ _ (by omega), zUn _ _ (by omega), zUn _ _ (by omega), zUn _ _ (by omega), zUn _ _ (by omega), zUs, s3.2.2.2.2.1]
      rfl
    · rw [h5 _ _ (by omega) (by omega) (by omega) (by omega)]
      by_cases e6 : j < 6
      · rw [(s2 j e6).2, sDn_9f S D e6]
      · rw [s4 _ _ (by omega) (by omega), r4 _ _ (by omega) (by omega)]
        by_cases e14 : j < 14
        · obtain ⟨f, rfl⟩ : ∃ f, j = 6 + f := ⟨j - 6, by omega⟩
          rw [(q2 f (by omega)).2, sDn_9p S D (by omega)]
        · rw [q4 _ _ (by omega) (by omega) (by omega), p2 j hj, sDn_9h S D (by omega) e16]
          rfl
  · by_cases e : p = 0
    · rw [e, zUn _ _ (by omega), zUn _ _ (by omega), zUn _ _ (by omega), zUn _ _ (by omega), zUs]
      rfl
    · rw [h45 _ _ (by omega), hR.kn hp, show sDn S D 10 p = S 10 p from if_neg e]
  · rw [h45 _ _ (by omega), hR.bf hj, sDn_st (by omega)]
  · rw [h45 _ _ (by omega), hR.st hj, sDn_st (by omega)]
  · rw [sDn_0 (by omega)]
    have hp2 : p = 0 ∨ p = 1 := by omega
    rcases hp2 with rfl | rfl
    · rw [zUn _ _ (by omega), zUn _ _ (by omega), zUn _ _ (by omega), zUs, enar]
      rfl
    · rw [zUn _ _ (by omega), zUn _ _ (by omega), zUs, enar]
      rfl
  · rw [h45 _ _ (by omega), hR.ear hj, sDn_st (by omega)]
  · rw [zUn _ _ (by omega), zUs, sDn_0 (by omega)]
    rfl
  · rw [sDn_0 (by omega)] at hj
    exact absurd hj (Nat.not_lt_zero _)
  · rw [zUs, sDn_0 (by omega)]
    rfl
theorem zCpa (f : Nat → Nat → Int32) (a0 a : Nat) {n t : Nat} (ht : t < n) : zCp f a0 a 0 0 n a t = f a0 t := by
  unfold zCp
  rw [if_pos rfl]
  unfold va_cpy
  rw [if_pos (by omega)]
  exact congrArg (f a0) (by omega)
theorem zCpn (f : Nat → Nat → Int32) {a0 a sp dp n q t : Nat} (h : q ≠ a) : zCp f a0 a sp dp n q t = f q t := if_neg h
theorem c_lCp (sc : zScr) (b : Bool) (l : Nat → Nat → Int64) (i : Nat → Nat → Int32) : ∃ i', zev sc (34, 0, [some (.ref 3), some (.ref 11)], [], (197, i, zRF b, l)) = some (.null, (197, i', zRF b, l)) ∧ i' 3 0 = i 11 0 ∧ i' 3 1 = i 11 1 ∧ i' 3 5 = i 11 5 ∧ i' 3 8 = i 11 8 ∧ i' 3 11 = i 11 11 ∧ (∀ t, t < 8 → i' 4 t = i 12 t ∧ i' 5 t = i 13 t ∧ i' 6 t = i 14 t) ∧ (∀ t, t < 4 → i' 7 t = i 15 t ∧ i' 8 t = i 16 t) ∧ (∀ t, t < 6 → i' 9 t = i 17 t ∧ i' 10 t = i 18 t) ∧ ∀ c t, (c < 3 ∨ 10 < c) → i' c t = i c t := by
  refine ⟨_, b34_0 sc i b l, ?_, ?_, ?_, ?_, ?_, fun t ht => ⟨?_, ?_, ?_⟩, fun t ht => ⟨?_, ?_⟩, fun t ht => ⟨?_, ?_⟩, fun c t hc => ?_⟩
  · rw [zCpn _ (by omega), zCpn _ (by omega), zCpn _ (by omega), zCpn _ (by omega), zCpn _ (by omega), zCpn _ (by omega), zCpn _ (by omega), zUn _ _ (by omega), zUn _ _ (by omega), zUn _ _ (by omega), zUn _ _ (by omega), zUs]
  · rw [zCpn _ (by omega), zCpn _ (by omega), zCpn _ (by omega), zCpn _ (by omega), zCpn _ (by omega), zCpn _ (by omega), zCpn _ (by omega), zUn _ _ (by omega), zUn _ _ (by omega), zUn _ _ (by omega), zUs, zUn _ _ (by omega)]
  · rw [zCpn _ (by omega), zCpn _ (by omega), zCpn _ (by omega), zCpn _ (by omega), zCpn _ (by omega), zCpn _ (by omega), zCpn _ (by omega), zUn _ _ (by omega), zUn _ _ (by omega), zUs, zUn _ _ (by omega), zUn _ _ (by omega)]
  · rw [zCpn _ (by omega), zCpn _ (by omega), zCpn _ (by omega), zCpn _ (by omega), zCpn _ (by omega), zCpn _ (by omega), zCpn _ (by omega), zUn _ _ (by omega), zUs, zUn _ _ (by omega), zUn _ _ (by omega), zUn _ _ (by omega)]
  · rw [zCpn _ (by omega), zCpn _ (by omega), zCpn _ (by omega), zCpn _ (by omega), zCpn _ (by omega), zCpn _ (by omega), zCpn _ (by omega), zUs, zUn _ _ (by omega), zUn _ _ (by omega), zUn _ _ (by omega), zUn _ _ (by omega)]
  · rw [zCpn _ (by omega), zCpn _ (by omega), zCpn _ (by omega), zCpn _ (by omega), zCpn _ (by omega), zCpn _ (by omega), zCpa _ _ _ ht, zUn _ _ (by omega), zUn _ _ (by omega), zUn _ _ (by omega), zUn _ _ (by omega), zUn _ _ (by omega)]
  · rw [zCpn _ (by omega), zCpn _ (by omega), zCpn _ (by omega), zCpn _ (by omega), zCpn _ (by omega), zCpa _ _ _ ht, zCpn _ (by omega), zUn _ _ (by omega), zUn _ _ (by omega), zUn _ _ (by omega), zUn _ _ (by omega), zUn _ _ (by omega)]
  · rw [zCpn _ (by omega), zCpn _ (by omega), zCpn _ (by omega), zCpn _ (by omega), zCpa _ _ _ ht, zCpn _ (by omega), zCpn _ (by omega), zUn _ _ (by omega), zUn _ _ (by omega), zUn _ _ (by omega), zUn _ _ (by omega), zUn _ _ (by omega)]
  · rw [zCpn _ (by omega), zCpn _ (by omega), zCpn _ (by omega), zCpa _ _ _ ht, zCpn _ (by omega), zCpn _ (by omega), zCpn _ (by omega), zUn _ _ (by omega), zUn _ _ (by omega), zUn _ _ (by omega), zUn _ _ (by omega), zUn _ _ (by omega)]
  · rw [zCpn _ (by omega), zCpn _ (by omega), zCpa _ _ _ ht, zCpn _ (by omega), zCpn _ (by omega), zCpn _ (by omega), zCpn _ (by omega), zUn _ _ (by omega), zUn _ _ (by omega), zUn _ _ (by omega), zUn _ _ (by omega), zUn _ _ (by omega)]
  · rw [zCpn _ (by omega), zCpa _ _ _ ht, zCpn _ (by omega), zCpn _ (by omega), zCpn _ (by omega), zCpn _ (by omega), zCpn _ (by omega), zUn _ _ (by omega), zUn _ _ (by omega), zUn _ _ (by omega), zUn _ _ (by omega), zUn _ _ (by omega)]
  · rw [zCpa _ _ _ ht, zCpn _ (by omega), zCpn _ (by omega), zCpn _ (by omega), zCpn _ (by omega), zCpn _ (by omega), zCpn _ (by omega), zUn _ _ (by omega), zUn _ _ (by omega), zUn _ _ (by omega), zUn _ _ (by omega), zUn _ _ (by omega)]
  · rw [zCpn _ (by omega), zCpn _ (by omega), zCpn _ (by omega), zCpn _ (by omega), zCpn _ (by omega), zCpn _ (by omega), zCpn _ (by omega), zUn _ _ (by omega), zUn _ _ (by omega), zUn _ _ (by omega), zUn _ _ (by omega), zUn _ _ (by omega)]
theorem c_sBg (sc : zScr) (b : Bool) (l : Nat → Nat → Int64) (i : Nat → Nat → Int32) : ∃ i', zev sc (55, 0, [some (.ref 19), some (.ref 3)], [], (197, i, zRF b, l)) = some (.null, (197, i', zRF b, l)) ∧ i' 19 3 = 0 ∧ i' 19 4 = 0 ∧ i' 19 5 = 0 ∧ i' 19 6 = i 3 11 ∧ (∀ t, t < 6 → i' 20 t = i 10 t) ∧ (∀ t, t < 8 → i' 21 t = i 6 t) ∧ ∀ c t, (c < 19 ∨ 21 < c) → i' c t = i c t := by
  refine ⟨_, b55_0 sc i b l, ?_, ?_, ?_, ?_, fun t ht => ?_, fun t ht => ?_, fun c t hc => ?_⟩
  · rw [zUn _ _ (by omega), zUn _ _ (by omega), zUn _ _ (by omega), zUs]
  · rw [zUn _ _ (by omega), zUn _ _ (by omega), zUs]
  · rw [zUn _ _ (by omega), zUs]
  · rw [zUs, zUn _ _ (by omega), zUn _ _ (by omega), zUn _ _ (by omega), zCpn _ (by omega), zCpn _ (by omega)]
  · rw [zUn _ _ (by omega), zUn _ _ (by omega), zUn _ _ (by omega), zUn _ _ (by omega), zCpn _ (by omega), zCpa _ _ _ ht]
  · rw [zUn _ _ (by omega), zUn _ _ (by omega), zUn _ _ (by omega), zUn _ _ (by omega), zCpa _ _ _ ht, zCpn _ (by omega)]
  · rw [zUn _ _ (by omega), zUn _ _ (by omega), zUn _ _ (by omega), zUn _ _ (by omega), zCpn _ (by omega), zCpn _ (by omega)]
