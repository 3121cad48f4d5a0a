/-! downs: both take what was told -/
theorem sDn_lo {S D : zS} {c : Nat} (h : c ≤ 8) (t : Nat) : sDn S D c t = D c t := if_pos h
theorem sDn_st {S D : zS} {c : Nat} (h : c = 11 ∨ c = 12 ∨ c = 14 ∨ c = 16) (t : Nat) : sDn S D c t = S c t := by
  unfold sDn
  rw [if_neg (by omega), if_neg (by omega), if_neg (by omega), if_neg (by omega)]
theorem sDn_0 {S D : zS} {c : Nat} (h : c = 13 ∨ c = 15 ∨ c = 17) (t : Nat) : sDn S D c t = 0 := by
  unfold sDn
  rw [if_neg (by omega), if_neg (by omega), if_neg (by omega), if_pos (by omega)]
theorem sDn_9f (S D : zS) {t : Nat} (h : t < 6) : sDn S D 9 t = if t < D 3 0 then D 9 t else 0 := by
  show (if t < 6 then _ else _) = _
  rw [if_pos h]
theorem sDn_9p (S D : zS) {f : Nat} (h : f < 8) : sDn S D 9 (6 + f) = if f < D 1 0 then D 9 (6 + f) else 0 := by
  show (if 6 + f < 6 then _ else if 6 + f < 14 then (if 6 + f - 6 < D 1 0 then D 9 (6 + f) else 0) else _) = _
  rw [if_neg (by omega), if_pos (by omega), show 6 + f - 6 = f by omega]
theorem sDn_9h (S D : zS) {t : Nat} (h : 14 ≤ t) (h2 : t ≠ 16) : sDn S D 9 t = 0 := by
  show (if t < 6 then _ else if t < 14 then _ else if t = 16 then _ else 0) = _
  rw [if_neg (by omega), if_neg (by omega), if_neg h2]
theorem c_mDn (sc : zScr) {S D : zS} (hI : Inv S) (hV : VD D) (b : Bool) (l : Nat → Nat → Int64) (i : Nat → Nat → Int32) (hM : MD D i) (hR : MR S i) : ∃ i', zev sc (130, 19, [some (.ref 173), none], [], (197, i, zRF b, l)) = some (.int (nI (D 13 0)), (197, i', zRF b, l)) ∧ MR (sDn S D) i' ∧ ∀ c t, c < 173 → i' c t = i c t := by
  obtain ⟨x1, x2, x3, x4, x5, x6, x7, x8, x9⟩ := id hM
  have hw : ∀ c t, ((c ≠ 175 ∧ c ≠ 176 ∧ c ≠ 180 ∧ c ≠ 183) ∨ t ≠ 0) → zU (zU (zU (zU i 175 0 (nI (D 0 0))) 176 0 (nI (D 1 0))) 180 0 (nI (D 2 0))) 183 0 (nI (D 3 0)) c t = i c t := fun c t g => by rw [zUn _ _ (by omega), zUn _ _ (by omega), zUn _ _ (by omega), zUn _ _ (by omega)]
  have w175 : zU (zU (zU (zU i 175 0 (nI (D 0 0))) 176 0 (nI (D 1 0))) 180 0 (nI (D 2 0))) 183 0 (nI (D 3 0)) 175 0 = nI (D 0 0) := by rw [zUn _ _ (by omega), zUn _ _ (by omega), zUn _ _ (by omega), zUs]
  have w176 : zU (zU (zU (zU i 175 0 (nI (D 0 0))) 176 0 (nI (D 1 0))) 180 0 (nI (D 2 0))) 183 0 (nI (D 3 0)) 176 0 = nI (D 1 0) := by rw [zUn _ _ (by omega), zUn _ _ (by omega), zUs]
  have w180 : zU (zU (zU (zU i 175 0 (nI (D 0 0))) 176 0 (nI (D 1 0))) 180 0 (nI (D 2 0))) 183 0 (nI (D 3 0)) 180 0 = nI (D 2 0) := by rw [zUn _ _ (by omega), zUs]
  have w183 : zU (zU (zU (zU i 175 0 (nI (D 0 0))) 176 0 (nI (D 1 0))) 180 0 (nI (D 2 0))) 183 0 (nI (D 3 0)) 183 0 = nI (D 3 0) := by rw [zUs]
  have hMw : MD D (zU (zU (zU (zU i 175 0 (nI (D 0 0))) 176 0 (nI (D 1 0))) 180 0 (nI (D 2 0))) 183 0 (nI (D 3 0))) := by
    refine ⟨by rw [hw _ _ (by omega)]; exact x1, by rw [hw _ _ (by omega)]; exact x2, by rw [hw _ _ (by omega)]; exact x3, by rw [hw _ _ (by omega)]; exact x4, by rw [hw _ _ (by omega)]; exact x5, by rw [hw _ _ (by omega)]; exact x6, fun g hg => ?_, fun g hg => ?_, fun g hg => ?_⟩
    · rw [hw _ _ (by omega), hw _ _ (by omega), hw _ _ (by omega)]; exact x7 g hg
    · rw [hw _ _ (by omega), hw _ _ (by omega)]; exact x8 g hg
    · rw [hw _ _ (by omega), hw _ _ (by omega)]; exact x9 g hg
  obtain ⟨i1, p1, p2, p3⟩ := c_mD1 sc b l 30 0 (zU (zU (zU (zU i 175 0 (nI (D 0 0))) 176 0 (nI (D 1 0))) 180 0 (nI (D 2 0))) 183 0 (nI (D 3 0))) (by decide) (fun t ht => absurd ht (Nat.not_lt_zero _))
  have hM1 : MD D i1 := hMw.congr (fun c t z => p3 c t (by omega))
  sorry
