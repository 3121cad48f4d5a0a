/-! downs: the model takes what was told -/
theorem c_mD1 (sc : zScr) (b : Bool) (l : Nat → Nat → Int64) : ∀ (n v : Nat) (i : Nat → Nat → Int32), v + n = 30 → (∀ t, t < v → i 187 t = 0) → ∃ i', zev sc (130, 69, [some (.ref 173), some (.int (nI v))], [], (197, i, zRF b, l)) = zev sc (130, 88, [some (.ref 173), some (.int (nI 30))], [], (197, i', zRF b, l)) ∧ (∀ t, t < 30 → i' 187 t = 0) ∧ ∀ c t, c ≠ 187 → i' c t = i c t
  | 0, v, i, hv, h0 => by
    have e : v = 30 := by omega
    subst e
    refine ⟨i, ?_, h0, fun _ _ _ => rfl⟩
    rw [b130_69, if_pos (by decide)]
  | n + 1, v, i, hv, h0 => by
    obtain ⟨i', p1, p2, p3⟩ := c_mD1 sc b l n (v + 1) (zU i 187 v 0) (by omega) (fun t ht => by
      by_cases e : t = v
      · rw [e, zUs]
      · rw [zUn _ _ (Or.inr e)]; exact h0 t (by omega))
    refine ⟨i', ?_, p2, fun c t h => by rw [p3 c t h, zUn _ _ (Or.inl h)]⟩
    rw [← p1, b130_69, if_neg (show ¬ (30 : Int32) ≤ nI v from zq_nle (a := 30) (by omega) (by decide)), b130_75 _ _ _ _ _ (vp_in_nI (by omega) (by decide)), nI_clamp (by omega), nI_1]
theorem c_mD2 (sc : zScr) {D : zS} (hV : VD D) (b : Bool) (l : Nat → Nat → Int64) : ∀ (n v : Nat) (i : Nat → Nat → Int32), v + n = 8 → MD D i → i 176 0 = nI (D 1 0) → (∀ g, g < v → (g < D 1 0 → i 177 g = nI (D 4 g) ∧ i 178 g = nI (D 5 g)) ∧ i 187 (6 + g) = nI (if g < D 1 0 then D 9 (6 + g) else 0)) → ∃ i', zev sc (130, 90, [some (.ref 173), some (.int (nI v))], [], (197, i, zRF b, l)) = zev sc (130, 164, [some (.ref 173), some (.int (nI 8))], [], (197, i', zRF b, l)) ∧ (∀ g, g < 8 → (g < D 1 0 → i' 177 g = nI (D 4 g) ∧ i' 178 g = nI (D 5 g)) ∧ i' 187 (6 + g) = nI (if g < D 1 0 then D 9 (6 + g) else 0)) ∧ MD D i' ∧ ∀ c t, (c ≠ 177 ∨ 8 ≤ t) → (c ≠ 178 ∨ 8 ≤ t) → (c ≠ 187 ∨ t < 6 ∨ 14 ≤ t) → i' c t = i c t
  | 0, v, i, hv, hM, h176, h0 => by
    have e : v = 8 := by omega
    subst e
    refine ⟨i, ?_, h0, hM, fun _ _ _ _ _ => rfl⟩
    rw [b130_90, if_pos (by decide)]
  | n + 1, v, i, hv, hM, h176, h0 => by
    have hE := hV.2.1
    have e8 : (8 : Int32) + nI v = nI (8 + v) := by rw [L8, nI_add]
    have e6 : (6 : Int32) + nI v = nI (6 + v) := by rw [L6, nI_add]
    have c8 : (nI (8 + v)).toNatClampNeg = 8 + v := nI_clamp (by omega)
    have cv : (nI v).toNatClampNeg = v := nI_clamp (by omega)
    have g8 : vp_in ((8 : Int32) + nI v) 16 := by rw [e8]; exact vp_in_nI (by omega) (by decide)
    have hw : ∀ c t, (c ≠ 177 ∨ t ≠ v) → (c ≠ 178 ∨ t ≠ v) → zU (zU i 177 v (i 177 (8 + v))) 178 v (i 178 (8 + v)) c t = i c t := fun c t g1 g2 => by rw [zUn _ _ g2, zUn _ _ g1]
    have hMw : MD D (zU (zU (zU i 177 v (i 177 (8 + v))) 178 v (i 178 (8 + v))) 187 (6 + v) (nI (if v < D 1 0 then D 9 (6 + v) else 0))) := by
      obtain ⟨x1, x2, x3, x4, x5, x6, x7, x8, x9⟩ := hM
      have n2 : ∀ c t, c ≠ 187 → (c ≠ 177 ∨ t ≠ v) → (c ≠ 178 ∨ t ≠ v) → zU (zU (zU i 177 v (i 177 (8 + v))) 178 v (i 178 (8 + v))) 187 (6 + v) (nI (if v < D 1 0 then D 9 (6 + v) else 0)) c t = i c t := fun c t q1 q2 q3 => by rw [zUn _ _ (Or.inl q1), hw c t q2 q3]
      refine ⟨by rw [n2 _ _ (by decide) (by omega) (by omega)]; exact x1, by rw [n2 _ _ (by decide) (by omega) (by omega)]; exact x2, by rw [n2 _ _ (by decide) (by omega) (by omega)]; exact x3, by rw [n2 _ _ (by decide) (by omega) (by omega)]; exact x4, by rw [n2 _ _ (by decide) (by omega) (by omega)]; exact x5, by rw [n2 _ _ (by decide) (by omega) (by omega)]; exact x6, fun g hg => ?_, fun g hg => ?_, fun g hg => ?_⟩
      · rw [n2 _ _ (by decide) (by omega) (by omega), n2 _ _ (by decide) (by omega) (by omega), n2 _ _ (by decide) (by omega) (by omega)]; exact x7 g hg
      · rw [n2 _ _ (by decide) (by omega) (by omega), n2 _ _ (by decide) (by omega) (by omega)]; exact x8 g hg
      · rw [n2 _ _ (by decide) (by omega) (by omega), n2 _ _ (by decide) (by omega) (by omega)]; exact x9 g hg
    obtain ⟨i', p1, p2, p3, p4⟩ := c_mD2 sc hV b l n (v + 1) (zU (zU (zU i 177 v (i 177 (8 + v))) 178 v (i 178 (8 + v))) 187 (6 + v) (nI (if v < D 1 0 then D 9 (6 + v) else 0))) (by omega) hMw (by rw [zUn _ _ (Or.inl (by decide)), hw _ _ (by omega) (by omega)]; exact h176) (fun g hg => by
      by_cases e : g = v
      · refine ⟨fun hgE => ?_, by rw [e, zUs]⟩
        rw [e] at hgE ⊢
        have x7 := hM.2.2.2.2.2.2.1 v hgE
        rw [zUn _ _ (Or.inl (by decide)), zUn _ _ (Or.inl (by decide)), zUs, zUn _ _ (Or.inl (by decide)), zUs]
        exact ⟨x7.1, x7.2.1⟩
      · obtain ⟨q1, q2⟩ := h0 g (by omega)
        refine ⟨fun hgE => ?_, ?_⟩
        · rw [zUn (a := 187) (j := 6 + v) _ _ (q := 177) (t := g) (Or.inl (by decide)), zUn (a := 187) (j := 6 + v) _ _ (q := 178) (t := g) (Or.inl (by decide)), hw 177 g (by omega) (by omega), hw 178 g (by omega) (by omega)]
          exact q1 hgE
        · rw [zUn _ _ (Or.inr (by omega)), hw _ _ (by omega) (by omega)]
          exact q2)
    refine ⟨i', ?_, p2, p3, fun c t q1 q2 q3 => by rw [p4 c t q1 q2 q3, zUn _ _ (by omega), hw _ _ (by omega) (by omega)]⟩
    have h177 : zU i 177 v (i 177 (8 + v)) 178 (8 + v) = i 178 (8 + v) := zUn _ _ (Or.inl (by decide))
    rw [← p1, b130_90, if_neg (show ¬ (8 : Int32) ≤ nI v from zq_nle (a := 8) (by omega) (by decide)), b130_96 _ _ _ _ _ g8 (vp_in_nI (by omega) (by decide)), e8, e6, c8, cv, h177, hw 176 0 (by omega) (by omega), h176]
    by_cases hgE : v < D 1 0
    · have x7 := hM.2.2.2.2.2.2.1 v hgE
      rw [if_neg (zq_nle hgE (by omega)), if_pos hgE, b130_144 _ _ _ _ _ _ g8, e8, c8, hw 179 _ (by omega) (by omega), x7.2.2, b130_157 _ _ _ _ _ _ _ (vp_in_nI (by omega) (by decide)), nI_clamp (by omega), nI_1]
    · rw [if_pos ((nI_leI (by omega) (by omega)).mpr (by omega)), if_neg hgE, b130_156, b130_157 _ _ _ _ _ _ _ (vp_in_nI (by omega) (by decide)), nI_clamp (by omega), nI_1]
      rfl
theorem c_mD3 (sc : zScr) {D : zS} (hV : VD D) (b : Bool) (l : Nat → Nat → Int64) : ∀ (n v : Nat) (i : Nat → Nat → Int32), v + n = 4 → MD D i → (∀ g, g < v → g < D 2 0 → i 181 g = nI (D 6 g) - 3 ∧ i 182 g = nI (D 7 g)) → ∃ i', zev sc (130, 166, [some (.ref 173), some (.int (nI v))], [], (197, i, zRF b, l)) = zev sc (130, 205, [some (.ref 173), some (.int (nI 4))], [], (197, i', zRF b, l)) ∧ (∀ g, g < D 2 0 → i' 181 g = nI (D 6 g) - 3 ∧ i' 182 g = nI (D 7 g)) ∧ MD D i' ∧ ∀ c t, (c ≠ 181 ∨ 4 ≤ t) → (c ≠ 182 ∨ 4 ≤ t) → i' c t = i c t
  | 0, v, i, hv, hM, h0 => by
    have hK := hV.2.2.1
    have e : v = 4 := by omega
    subst e
    refine ⟨i, ?_, fun g hg => h0 g (by omega) hg, hM, fun _ _ _ _ => rfl⟩
    rw [b130_166, if_pos (by decide)]
  | n + 1, v, i, hv, hM, h0 => by
    have e8 : (4 : Int32) + nI v = nI (4 + v) := by rw [L4, nI_add]
    have c8 : (nI (4 + v)).toNatClampNeg = 4 + v := nI_clamp (by omega)
    have cv : (nI v).toNatClampNeg = v := nI_clamp (by omega)
    have g8 : vp_in ((4 : Int32) + nI v) 8 := by rw [e8]; exact vp_in_nI (by omega) (by decide)
    have hw : ∀ c t, (c ≠ 181 ∨ t ≠ v) → (c ≠ 182 ∨ t ≠ v) → zU (zU i 181 v (i 181 (4 + v))) 182 v (i 182 (4 + v)) c t = i c t := fun c t g1 g2 => by rw [zUn _ _ g2, zUn _ _ g1]
    have hMw : MD D (zU (zU i 181 v (i 181 (4 + v))) 182 v (i 182 (4 + v))) := by
      obtain ⟨x1, x2, x3, x4, x5, x6, x7, x8, x9⟩ := hM
      refine ⟨by rw [hw _ _ (by omega) (by omega)]; exact x1, by rw [hw _ _ (by omega) (by omega)]; exact x2, by rw [hw _ _ (by omega) (by omega)]; exact x3, by rw [hw _ _ (by omega) (by omega)]; exact x4, by rw [hw _ _ (by omega) (by omega)]; exact x5, by rw [hw _ _ (by omega) (by omega)]; exact x6, fun g hg => ?_, fun g hg => ?_, fun g hg => ?_⟩
      · rw [hw _ _ (by omega) (by omega), hw _ _ (by omega) (by omega), hw _ _ (by omega) (by omega)]; exact x7 g hg
      · rw [hw _ _ (by omega) (by omega), hw _ _ (by omega) (by omega)]; exact x8 g hg
      · rw [hw _ _ (by omega) (by omega), hw _ _ (by omega) (by omega)]; exact x9 g hg
    obtain ⟨i', p1, p2, p3, p4⟩ := c_mD3 sc hV b l n (v + 1) (zU (zU i 181 v (i 181 (4 + v))) 182 v (i 182 (4 + v))) (by omega) hMw (fun g hg hgE => by
      by_cases e : g = v
      · rw [e] at hgE ⊢
        have x8 := hM.2.2.2.2.2.2.2.1 v hgE
        rw [zUn _ _ (Or.inl (by decide)), zUs, zUs]
        exact x8
      · rw [hw _ _ (by omega) (by omega), hw _ _ (by omega) (by omega)]
        exact h0 g (by omega) hgE)
    refine ⟨i', ?_, p2, p3, fun c t q1 q2 => by rw [p4 c t q1 q2, hw _ _ (by omega) (by omega)]⟩
    have h177 : zU i 181 v (i 181 (4 + v)) 182 (4 + v) = i 182 (4 + v) := zUn _ _ (Or.inl (by decide))
    rw [← p1, b130_166, if_neg (show ¬ (4 : Int32) ≤ nI v from zq_nle (a := 4) (by omega) (by decide)), b130_171 _ _ _ _ _ g8 (vp_in_nI (by omega) (by decide)), e8, c8, cv, h177, nI_1]
theorem c_mD4 (sc : zScr) {D : zS} (hV : VD D) (b : Bool) (l : Nat → Nat → Int64) : ∀ (n v : Nat) (i : Nat → Nat → Int32), v + n = 6 → MD D i → i 183 0 = nI (D 3 0) → (∀ g, g < v → (g < D 3 0 → i 184 g = nI (D 8 g)) ∧ i 187 g = nI (if g < D 3 0 then D 9 g else 0)) → ∃ i', zev sc (130, 207, [some (.ref 173), some (.int (nI v))], [], (197, i, zRF b, l)) = zev sc (130, 265, [some (.ref 173), some (.int (nI 6))], [], (197, i', zRF b, l)) ∧ (∀ g, g < 6 → (g < D 3 0 → i' 184 g = nI (D 8 g)) ∧ i' 187 g = nI (if g < D 3 0 then D 9 g else 0)) ∧ MD D i' ∧ ∀ c t, (c ≠ 184 ∨ 6 ≤ t) → (c ≠ 187 ∨ 6 ≤ t) → i' c t = i c t
  | 0, v, i, hv, hM, h183, h0 => by
    have e : v = 6 := by omega
    subst e
    refine ⟨i, ?_, h0, hM, fun _ _ _ _ => rfl⟩
    rw [b130_207, if_pos (by decide)]
  | n + 1, v, i, hv, hM, h183, h0 => by
    have hB := hV.2.2.2.1
    have e8 : (6 : Int32) + nI v = nI (6 + v) := by rw [L6, nI_add]
    have e0 : (0 : Int32) + nI v = nI v := by rw [L0, nI_add, Nat.zero_add]
    have c8 : (nI (6 + v)).toNatClampNeg = 6 + v := nI_clamp (by omega)
    have cv : (nI v).toNatClampNeg = v := nI_clamp (by omega)
    have g8 : vp_in ((6 : Int32) + nI v) 12 := by rw [e8]; exact vp_in_nI (by omega) (by decide)
    have hw : ∀ c t, (c ≠ 184 ∨ t ≠ v) → zU i 184 v (i 184 (6 + v)) c t = i c t := fun c t g1 => zUn _ _ g1
    have hMw : MD D (zU (zU i 184 v (i 184 (6 + v))) 187 v (nI (if v < D 3 0 then D 9 v else 0))) := by
      obtain ⟨x1, x2, x3, x4, x5, x6, x7, x8, x9⟩ := hM
      have n2 : ∀ c t, c ≠ 187 → (c ≠ 184 ∨ t ≠ v) → zU (zU i 184 v (i 184 (6 + v))) 187 v (nI (if v < D 3 0 then D 9 v else 0)) c t = i c t := fun c t q1 q2 => by rw [zUn _ _ (Or.inl q1), hw c t q2]
      refine ⟨by rw [n2 _ _ (by decide) (by omega)]; exact x1, by rw [n2 _ _ (by decide) (by omega)]; exact x2, by rw [n2 _ _ (by decide) (by omega)]; exact x3, by rw [n2 _ _ (by decide) (by omega)]; exact x4, by rw [n2 _ _ (by decide) (by omega)]; exact x5, by rw [n2 _ _ (by decide) (by omega)]; exact x6, fun g hg => ?_, fun g hg => ?_, fun g hg => ?_⟩
      · rw [n2 _ _ (by decide) (by omega), n2 _ _ (by decide) (by omega), n2 _ _ (by decide) (by omega)]; exact x7 g hg
      · rw [n2 _ _ (by decide) (by omega), n2 _ _ (by decide) (by omega)]; exact x8 g hg
      · rw [n2 _ _ (by decide) (by omega), n2 _ _ (by decide) (by omega)]; exact x9 g hg
    obtain ⟨i', p1, p2, p3, p4⟩ := c_mD4 sc hV b l n (v + 1) (zU (zU i 184 v (i 184 (6 + v))) 187 v (nI (if v < D 3 0 then D 9 v else 0))) (by omega) hMw (by rw [zUn _ _ (Or.inl (by decide)), hw _ _ (by omega)]; exact h183) (fun g hg => by
      by_cases e : g = v
      · refine ⟨fun hgE => ?_, by rw [e, zUs]⟩
        rw [e] at hgE ⊢
        have x9 := hM.2.2.2.2.2.2.2.2 v hgE
        rw [zUn _ _ (Or.inl (by decide)), zUs]
        exact x9.1
      · obtain ⟨q1, q2⟩ := h0 g (by omega)
        refine ⟨fun hgE => ?_, ?_⟩
        · rw [zUn _ _ (Or.inl (by decide)), hw _ _ (by omega)]
          exact q1 hgE
        · rw [zUn _ _ (Or.inr (by omega)), hw _ _ (by omega)]
          exact q2)
    refine ⟨i', ?_, p2, p3, fun c t q1 q2 => by rw [p4 c t q1 q2, zUn _ _ (by omega), hw _ _ (by omega)]⟩
    rw [← p1, b130_207, if_neg (show ¬ (6 : Int32) ≤ nI v from zq_nle (a := 6) (by omega) (by decide)), b130_213 _ _ _ _ _ g8 (vp_in_nI (by omega) (by decide)), e8, e0, c8, cv, hw 183 0 (by omega), h183]
    by_cases hgE : v < D 3 0
    · have x9 := hM.2.2.2.2.2.2.2.2 v hgE
      rw [if_neg (zq_nle hgE (by omega)), if_pos hgE, b130_245 _ _ _ _ _ _ g8, e8, c8, hw 185 _ (by omega), x9.2, b130_258 _ _ _ _ _ _ _ (vp_in_nI (by omega) (by decide)), cv, nI_1]
    · rw [if_pos ((nI_leI (by omega) (by omega)).mpr (by omega)), if_neg hgE, b130_257, b130_258 _ _ _ _ _ _ _ (vp_in_nI (by omega) (by decide)), cv, nI_1]
      rfl
/-- what stands behind a text that was told -/
def sDn (S D : zS) : zS := fun c t => if c ≤ 8 then D c t else if c = 9 then (if t < 6 then (if t < D 3 0 then D 9 t else 0) else if t < 14 then (if t - 6 < D 1 0 then D 9 t else 0) else if t = 16 then D 9 16 else 0) else if c = 10 then (if t = 0 then 0 else S 10 t) else if c = 13 ∨ c = 15 ∨ c = 17 then 0 else S c t
theorem Inv.dn {S D : zS} (hI : Inv S) (hV : VD D) : Inv (sDn S D) := by
  obtain ⟨v1, v2, v3, v4, v5, v6, v7, v8, v9⟩ := hV
  have h14 : 0 < 2 ^ D 1 0 := Nat.two_pow_pos _
  refine ⟨v1, v2, v3, v4, fun f hf => ⟨(v5 f hf).1, (v5 f hf).2.1, (v5 f hf).2.2.1⟩, v6, fun c hc => (v7 c hc).1, ⟨fun c hc => ?_, fun f hf => ?_, h14, h14, v8, Nat.zero_le _, fun j hj => absurd hj (Nat.not_lt_zero _)⟩, fun p hp h => ?_, fun p hp h => ?_, fun p hp => ?_, Nat.zero_le _, fun j hj => absurd hj (Nat.not_lt_zero _), Nat.zero_le _, fun j hj => absurd hj (Nat.not_lt_zero _)⟩
  · have hc' : c < D 3 0 := hc
    have e : rN (sDn S D) c = D 9 c := by
      show (if c < 6 then (if c < D 3 0 then D 9 c else 0) else _) = _
      rw [if_pos (by omega), if_pos hc']
    rw [e]
    exact (v7 c hc').2
  · have hf' : f < D 1 0 := hf
    have e : rN (sDn S D) (6 + f) = D 9 (6 + f) := by
      show (if 6 + f < 6 then _ else if 6 + f < 14 then (if 6 + f - 6 < D 1 0 then D 9 (6 + f) else 0) else _) = _
      rw [if_neg (by omega), if_pos (by omega), if_pos (by omega)]
    rw [e]
    exact (v5 f hf').2.2.2
  · rcases h with rfl | h
    · exact ⟨Nat.zero_le _, fun n hn => absurd hn (Nat.not_lt_zero _)⟩
    · exact absurd h (by decide : ¬ (0 : Nat) = 1)
  · exact absurd h (by decide : ¬ (0 : Nat) = 1)
  · exact Nat.zero_le _
