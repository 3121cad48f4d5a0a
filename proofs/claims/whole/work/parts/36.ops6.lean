/-! ways, on -/
def sW0 (x : Nat) : Nat → Nat := fun t => if t = x then 1 else 0
theorem sW0_lt (x t : Nat) : sW0 x t < 1000003 := by unfold sW0; split <;> omega
def sWay (S : zS) (k x : Nat) : Nat := sWm (sWr S k (S 15 0) 0 (sW0 x)) (S 0 0)
theorem c_xW0 (sc : zScr) {S : zS} {x : Nat} (hI : Inv S) (hx : x < S 0 0) (v1 : Int32) (b : Bool) (l : Nat → Nat → Int64) : ∀ (n v : Nat) (i : Nat → Nat → Int32), v + n = S 0 0 → XR S i → (∀ t, t < v → i (zrw b 4) t = nI (sW0 x t)) → ∃ i', zev sc (21, 2, [some (.ref 67), some (.int v1), some (.int (nI x)), some (.int (nI v)), none], [], (197, i, zRF b, l)) = zev sc (21, 35, [some (.ref 67), some (.int v1), some (.int (nI x)), some (.int (nI (S 0 0))), none], [], (197, i', zRF b, l)) ∧ (∀ t, t < S 0 0 → i' (zrw b 4) t = nI (sW0 x t)) ∧ ∀ c j, c ≠ 70 → c ≠ 71 → i' c j = i c j
  | 0, v, i, hv, hX, h0 => by
    have e : v = S 0 0 := by omega
    subst e
    refine ⟨i, ?_, h0, fun _ _ _ _ => rfl⟩
    rw [b21_2, hX.F, if_pos (Int32.le_refl _)]
  | n + 1, v, i, hv, hX, h0 => by
    have hF := hI.F
    obtain ⟨z4, z5, zne⟩ := zrw_r b
    obtain ⟨i', p1, p2, p3⟩ := c_xW0 sc hI hx v1 b l n (v + 1) (zU i (zrw b 4) v (nI (sW0 x v))) (by omega) (hX.congr (fun c j z => zUn _ _ (Or.inl (by have := z.2.2.2; omega)))) (fun t ht => by
      by_cases e : t = v
      · rw [e, zUs]
      · rw [zUn _ _ (Or.inr e)]; exact h0 t (by omega))
    refine ⟨i', ?_, p2, fun c j h1 h2 => by rw [p3 c j h1 h2, zUn _ _ (Or.inl (by omega))]⟩
    rw [← p1, b21_2, hX.F, if_neg (zq_nle (by omega) (by omega)), b21_13]
    by_cases e : v = x
    · rw [if_pos (by rw [e]), b21_23, b21_28 _ _ _ _ _ _ _ _ _ (vp_in_nI (by omega) (by decide)), nI_clamp (by omega), nI_1, show sW0 x v = 1 from if_pos e]
      rfl
    · rw [if_neg (fun z => e ((nI_eq (by omega) (by omega)).mp z)), b21_27, b21_28 _ _ _ _ _ _ _ _ _ (vp_in_nI (by omega) (by decide)), nI_clamp (by omega), nI_1, show sW0 x v = 0 from if_neg e]
      rfl
theorem c_xWr (sc : zScr) {S : zS} {k : Nat} (hI : Inv S) (hk : k < S 2 0) (v2 : Int32) (l : Nat → Nat → Int64) : ∀ (n j : Nat) (q : Nat → Nat) (b : Bool) (i : Nat → Nat → Int32), j + n = S 15 0 → XR S i → (∀ t, q t < 1000003) → (∀ t, t < S 0 0 → i (zrw b 4) t = nI (q t)) → ∃ i' b', zev sc (21, 37, [some (.ref 67), some (.int (nI k)), some (.int v2), some (.int (nI j)), none], [], (197, i, zRF b, l)) = zev sc (21, 62, [some (.ref 67), some (.int (nI k)), some (.int v2), some (.int (nI (S 15 0))), none], [], (197, i', zRF b', l)) ∧ (∀ t, t < S 0 0 → i' (zrw b' 4) t = nI (sWr S k n j q t)) ∧ ∀ c j, c ≠ 70 → c ≠ 71 → i' c j = i c j
  | 0, j, q, b, i, hj, hX, hq, h4 => by
    have e : j = S 15 0 := by omega
    subst e
    refine ⟨i, b, ?_, h4, fun _ _ _ _ => rfl⟩
    rw [b21_37, hX.hd, if_pos (Int32.le_refl _)]
  | n + 1, j, q, b, i, hj, hX, hq, h4 => by
    have hH := hI.heard
    have he := hI.ear j (by omega)
    obtain ⟨i1, a1, a2, a3⟩ := c_xCross sc hI hk he q hq i hX b l h4
    obtain ⟨i', b', p1, p2, p3⟩ := c_xWr sc hI hk v2 l n (j + 1) (sWf S k (S 14 j) q (S 1 0) 0 (fun _ => 0)) (!b) i1 (by omega) (hX.congr (fun c t z => a3 c t (by have := z.2.2.2; omega) (by have := z.2.2.2; omega))) (sWf_lt S k _ q _ _ _ (fun _ => by decide)) a2
    refine ⟨i', b', ?_, p2, fun c t h1 h2 => by rw [p3 c t h1 h2, a3 c t h1 h2]⟩
    rw [← p1, b21_37, hX.hd, if_neg (zq_nle (by omega) (by omega)), b21_45 _ _ _ _ _ _ _ (vp_in_nI (by omega) (by decide)), nI_clamp (by omega), hX.ear (by omega), a1, Option.bind_some]
    dsimp only
    rw [b21_56, nI_1]
theorem c_xWm (sc : zScr) {S : zS} {q : Nat → Nat} (hI : Inv S) (hq : ∀ t, q t < 1000003) (v1 v2 : Int32) (b : Bool) (i : Nat → Nat → Int32) (hX : XR S i) (l : Nat → Nat → Int64) (h4 : ∀ t, t < S 0 0 → i (zrw b 4) t = nI (q t)) : ∀ (n v : Nat), v + n = S 0 0 → zev sc (21, 67, [some (.ref 67), some (.int v1), some (.int v2), some (.int (nI (sWm q v))), some (.int (nI v))], [], (197, i, zRF b, l)) = some (.int (nI (sWm q (S 0 0))), (197, i, zRF b, l))
  | 0, v, hv => by
    have e : v = S 0 0 := by omega
    subst e
    rw [b21_67, hX.F, if_pos (Int32.le_refl _), b21_98]
  | n + 1, v, hv => by
    have hF := hI.F
    have g1 := sWm_lt q v
    have g2 := hq v
    rw [b21_67, hX.F, if_neg (zq_nle (by omega) (by omega)), b21_79 _ _ _ _ _ _ _ _ (vp_in_nI (by omega) (by decide)), nI_clamp (by omega), h4 v (by omega), nI_add, zmod (by omega), nI_1]
    exact c_xWm sc hI hq v1 v2 b i hX l h4 n (v + 1) (by omega)
/-- the model's -/
theorem c_mW0 (sc : zScr) {x : Nat} (hx : x < 8) (v1 : Int32) (b : Bool) (l : Nat → Nat → Int64) : ∀ (n v : Nat) (i : Nat → Nat → Int32), v + n = 8 → (∀ t, t < v → i 193 t = nI (sW0 x t)) → ∃ i' w, zev sc (163, 20, [some (.ref 173), some (.int v1), some (.int (nI x)), some (.int (nI v)), none], [], (197, i, zRF b, l)) = zev sc (163, 48, [some (.ref 173), some (.int v1), some (.int (nI x)), some (.int w), none], [], (197, i', zRF b, l)) ∧ (∀ t, t < 8 → i' 193 t = nI (sW0 x t)) ∧ ∀ c j, c ≠ 193 → i' c j = i c j
  | 0, v, i, hv, h0 => by
    have e : v = 8 := by omega
    subst e
    refine ⟨i, nI 8, ?_, h0, fun _ _ _ => rfl⟩
    rw [b163_20, if_pos (by decide)]
  | n + 1, v, i, hv, h0 => by
    obtain ⟨i', w, p1, p2, p3⟩ := c_mW0 sc hx v1 b l n (v + 1) (zU i 193 v (nI (sW0 x v))) (by omega) (fun t ht => by
      by_cases e : t = v
      · rw [e, zUs]
      · rw [zUn _ _ (Or.inr e)]; exact h0 t (by omega))
    refine ⟨i', w, ?_, p2, fun c j h1 => by rw [p3 c j h1, zUn _ _ (Or.inl h1)]⟩
    rw [← p1, b163_20, if_neg (show ¬ (8 : Int32) ≤ nI v from zq_nle (a := 8) (by omega) (by decide)), b163_26]
    by_cases e : v = x
    · rw [if_pos (by rw [e]), b163_36, b163_41 _ _ _ _ _ _ _ _ _ (vp_in_nI (by omega) (by decide)), nI_clamp (by omega), nI_1, show sW0 x v = 1 from if_pos e]
      rfl
    · rw [if_neg (fun z => e ((nI_eq (by omega) (by omega)).mp z)), b163_40, b163_41 _ _ _ _ _ _ _ _ _ (vp_in_nI (by omega) (by decide)), nI_clamp (by omega), nI_1, show sW0 x v = 0 from if_neg e]
      rfl
theorem c_mW1 (sc : zScr) (v1 v2 v3 : Int32) (b : Bool) (l : Nat → Nat → Int64) : ∀ (n v : Nat) (i : Nat → Nat → Int32), v + n = 8 → (∀ t, t < v → i 194 t = nI 0) → ∃ i' w, zev sc (163, 61, [some (.ref 173), some (.int v1), some (.int v2), some (.int v3), some (.int (nI v))], [], (197, i, zRF b, l)) = zev sc (163, 82, [some (.ref 173), some (.int v1), some (.int v2), some (.int v3), some (.int w)], [], (197, i', zRF b, l)) ∧ (∀ t, t < 8 → i' 194 t = nI 0) ∧ ∀ c j, c ≠ 194 → i' c j = i c j
  | 0, v, i, hv, h0 => by
    have e : v = 8 := by omega
    subst e
    refine ⟨i, nI 8, ?_, h0, fun _ _ _ => rfl⟩
    rw [b163_61, if_pos (by decide)]
  | n + 1, v, i, hv, h0 => by
    obtain ⟨i', w, p1, p2, p3⟩ := c_mW1 sc v1 v2 v3 b l n (v + 1) (zU i 194 v 0) (by omega) (fun t ht => by
      by_cases e : t = v
      · rw [e, zUs]
        rfl
      · rw [zUn _ _ (Or.inr e)]; exact h0 t (by omega))
    refine ⟨i', w, ?_, p2, fun c j h1 => by rw [p3 c j h1, zUn _ _ (Or.inl h1)]⟩
    rw [← p1, b163_61, if_neg (show ¬ (8 : Int32) ≤ nI v from zq_nle (a := 8) (by omega) (by decide)), b163_68 _ _ _ _ _ _ _ _ (vp_in_nI (by omega) (by decide)), nI_clamp (by omega), nI_1]
theorem c_mW3 (sc : zScr) (q : Nat → Nat) (v1 v2 v3 : Int32) (b : Bool) (l : Nat → Nat → Int64) : ∀ (n v : Nat) (i : Nat → Nat → Int32), v + n = 8 → (∀ t, t < 8 → i 194 t = nI (q t)) → (∀ t, t < v → i 193 t = nI (q t)) → ∃ i' w, zev sc (163, 201, [some (.ref 173), some (.int v1), some (.int v2), some (.int v3), some (.int (nI v))], [], (197, i, zRF b, l)) = zev sc (163, 228, [some (.ref 173), some (.int v1), some (.int v2), some (.int v3), some (.int w)], [], (197, i', zRF b, l)) ∧ (∀ t, t < 8 → i' 193 t = nI (q t)) ∧ ∀ c j, c ≠ 193 → i' c j = i c j
  | 0, v, i, hv, h1, h0 => by
    have e : v = 8 := by omega
    subst e
    refine ⟨i, nI 8, ?_, h0, fun _ _ _ => rfl⟩
    rw [b163_201, if_pos (by decide)]
  | n + 1, v, i, hv, h1, h0 => by
    obtain ⟨i', w, p1, p2, p3⟩ := c_mW3 sc q v1 v2 v3 b l n (v + 1) (zU i 193 v (i 194 v)) (by omega) (fun t ht => by rw [zUn _ _ (Or.inl (by decide))]; exact h1 t ht) (fun t ht => by
      by_cases e : t = v
      · rw [e, zUs]; exact h1 v (by omega)
      · rw [zUn _ _ (Or.inr e)]; exact h0 t (by omega))
    refine ⟨i', w, ?_, p2, fun c j h1 => by rw [p3 c j h1, zUn _ _ (Or.inl h1)]⟩
    rw [← p1, b163_201, if_neg (show ¬ (8 : Int32) ≤ nI v from zq_nle (a := 8) (by omega) (by decide)), b163_208 _ _ _ _ _ _ _ _ (vp_in_nI (by omega) (by decide)), nI_clamp (by omega), nI_1]
theorem c_mW2 (sc : zScr) {S : zS} {k j : Nat} (hI : Inv S) (hk : k < S 2 0) (hj : j < S 15 0) (q : Nat → Nat) (hq : ∀ t, q t < 1000003) (v2 : Int32) (b : Bool) (l : Nat → Nat → Int64) : ∀ (n f : Nat) (acc : Nat → Nat) (i : Nat → Nat → Int32), f + n = S 1 0 → MR S i → (∀ t, acc t < 1000003) → (∀ t, t < 8 → i 194 t = nI (acc t)) → (∀ t, t < 8 → i 193 t = nI (q t)) → ∃ i', zev sc (163, 85, [some (.ref 173), some (.int (nI k)), some (.int v2), some (.int (nI j)), some (.int (nI f))], [], (197, i, zRF b, l)) = zev sc (163, 198, [some (.ref 173), some (.int (nI k)), some (.int v2), some (.int (nI j)), some (.int (nI (S 1 0)))], [], (197, i', zRF b, l)) ∧ (∀ t, t < 8 → i' 194 t = nI (sWf S k (S 14 j) q n f acc t)) ∧ ∀ c j, c ≠ 194 → i' c j = i c j
  | 0, f, acc, i, hf, hM, ha, h5, h4 => by
    have e : f = S 1 0 := by omega
    subst e
    refine ⟨i, ?_, h5, fun _ _ _ => rfl⟩
    rw [b163_85, hM.E, if_pos (Int32.le_refl _)]
  | n + 1, f, acc, i, hf, hM, ha, h5, h4 => by
    have hE := hI.E
    have hF := hI.F
    have hH := hI.heard
    have hej := hI.ear j hj
    have hff : f < S 1 0 := by omega
    obtain ⟨hl, hr, hlr⟩ := hI.lr f hff
    have hsn := sSnd_le hI hk hff
    have hh : zev sc (163, 85, [some (.ref 173), some (.int (nI k)), some (.int v2), some (.int (nI j)), some (.int (nI f))], [], (197, i, zRF b, l)) = if nI (sSnd S k f) = nI (S 14 j) then zev sc (163, 112, [some (.ref 173), some (.int (nI k)), some (.int v2), some (.int (nI j)), some (.int (nI f))], [], (197, i, zRF b, l)) else zev sc (163, 192, [some (.ref 173), some (.int (nI k)), some (.int v2), some (.int (nI j)), some (.int (nI f))], [], (197, i, zRF b, l)) := by
      rw [b163_85, hM.E, if_neg (zq_nle (by omega) (by omega)), b163_96, c_mSound sc hI hk hff i hM, Option.bind_some]
      dsimp only
      rw [b163_103 _ _ _ _ _ _ _ _ _ (vp_in_nI (by omega) (by decide)), nI_clamp (n := j) (by omega), hM.ear (by omega)]
    by_cases hsq : sSnd S k f = S 14 j
    · have g1 := ha (S 4 f)
      have g2 := hq (S 5 f)
      have g3 := ha (S 5 f)
      have g4 := hq (S 4 f)
      have hcf : (nI f).toNatClampNeg = f := nI_clamp (by omega)
      have e1 : i 194 (S 5 f) + i 193 (S 4 f) - (i 194 (S 5 f) + i 193 (S 4 f)) / 1000003 * 1000003 = nI ((acc (S 5 f) + q (S 4 f)) % 1000003) := by
        rw [h5 _ (by omega), h4 _ (by omega), nI_add, zmod (by omega)]
      have e2 : zU i 194 (S 5 f) (nI ((acc (S 5 f) + q (S 4 f)) % 1000003)) 194 (S 4 f) = nI (acc (S 4 f)) := by rw [zUn _ _ (Or.inr (by omega)), h5 _ (by omega)]
      have e3 : zU i 194 (S 5 f) (nI ((acc (S 5 f) + q (S 4 f)) % 1000003)) 193 (S 5 f) = nI (q (S 5 f)) := by rw [zUn _ _ (Or.inl (by decide)), h4 _ (by omega)]
      have e4 : nI (acc (S 4 f)) + nI (q (S 5 f)) - (nI (acc (S 4 f)) + nI (q (S 5 f))) / 1000003 * 1000003 = nI ((acc (S 4 f) + q (S 5 f)) % 1000003) := by rw [nI_add, zmod (by omega)]
      have el : ∀ v, zU i 194 (S 5 f) v 177 f = nI (S 4 f) := fun v => by rw [zUn _ _ (Or.inl (by decide)), hM.l hff]
      have er : ∀ v, zU i 194 (S 5 f) v 178 f = nI (S 5 f) := fun v => by rw [zUn _ _ (Or.inl (by decide)), hM.r hff]
      have hne : ∀ c t, c ≠ 194 → zU (zU i 194 (S 5 f) (nI ((acc (S 5 f) + q (S 4 f)) % 1000003))) 194 (S 4 f) (nI ((acc (S 4 f) + q (S 5 f)) % 1000003)) c t = i c t := fun c t hc => by rw [zUn _ _ (Or.inl hc), zUn _ _ (Or.inl hc)]
      obtain ⟨i', p1, p2, p3⟩ := c_mW2 sc hI hk hj q hq v2 b l n (f + 1) (sWu acc q (S 4 f) (S 5 f)) (zU (zU i 194 (S 5 f) (nI ((acc (S 5 f) + q (S 4 f)) % 1000003))) 194 (S 4 f) (nI ((acc (S 4 f) + q (S 5 f)) % 1000003))) (by omega) (hM.congr hI (fun c t z => hne c t (by have := z.2.2.2.2.2.2.2.2.2.2.2.2; omega))) (sWu_lt ha) (fun t ht => by
        unfold sWu
        by_cases q4 : t = S 4 f
        · rw [q4, zUs, if_pos rfl]
        · rw [zUn _ _ (Or.inr q4), if_neg q4]
          by_cases q5 : t = S 5 f
          · rw [q5, zUs, if_pos rfl]
          · rw [zUn _ _ (Or.inr q5), if_neg q5, h5 t ht]) (fun t ht => by rw [hne _ _ (by decide), h4 t ht])
      refine ⟨i', ?_, ?_, fun c t hc => by rw [p3 c t hc, hne c t hc]⟩
      · rw [hh, if_pos (by rw [hsq]), ← p1, b163_112 _ _ _ _ _ _ _ _ (vp_in_nI (by omega) (by decide)) (by rw [hcf, hM.r hff]; exact vp_in_nI (by omega) (by decide)) (by rw [hcf, hM.l hff]; exact vp_in_nI (by omega) (by decide)) (by rw [hcf, hM.l hff, hM.r hff, nI_clamp (n := S 5 f) (by omega), el]; exact vp_in_nI (by omega) (by decide)) (by rw [hcf, hM.l hff, hM.r hff, nI_clamp (n := S 5 f) (by omega), er]; exact vp_in_nI (by omega) (by decide)), hcf, hM.l hff, hM.r hff, nI_clamp (n := S 4 f) (by omega), nI_clamp (n := S 5 f) (by omega), e1, el, er, nI_clamp (n := S 4 f) (by omega), nI_clamp (n := S 5 f) (by omega), e2, e3, e4, b163_192, nI_1]
      · intro t ht
        rw [p2 t ht]
        show _ = nI (sWf S k (S 14 j) q n (f + 1) (if sSnd S k f = S 14 j then sWu acc q (S 4 f) (S 5 f) else acc) t)
        rw [if_pos hsq]
    · obtain ⟨i', p1, p2, p3⟩ := c_mW2 sc hI hk hj q hq v2 b l n (f + 1) acc i (by omega) hM ha h5 h4
      refine ⟨i', ?_, ?_, p3⟩
      · rw [hh, if_neg (fun z => hsq ((nI_eq (by omega) (by omega)).mp z)), ← p1, b163_192, nI_1]
      · intro t ht
        rw [p2 t ht]
        show _ = nI (sWf S k (S 14 j) q n (f + 1) (if sSnd S k f = S 14 j then sWu acc q (S 4 f) (S 5 f) else acc) t)
        rw [if_neg hsq]
theorem c_mWr (sc : zScr) {S : zS} {k : Nat} (hI : Inv S) (hk : k < S 2 0) (v2 : Int32) (b : Bool) (l : Nat → Nat → Int64) : ∀ (n j : Nat) (q : Nat → Nat) (i : Nat → Nat → Int32) (w : Option Value), j + n = S 15 0 → MR S i → (∀ t, q t < 1000003) → (∀ t, t < 8 → i 193 t = nI (q t)) → ∃ i' w', zev sc (163, 50, [some (.ref 173), some (.int (nI k)), some (.int v2), some (.int (nI j)), w], [], (197, i, zRF b, l)) = zev sc (163, 234, [some (.ref 173), some (.int (nI k)), some (.int v2), some (.int (nI (S 15 0))), w'], [], (197, i', zRF b, l)) ∧ (∀ t, t < 8 → i' 193 t = nI (sWr S k n j q t)) ∧ ∀ c j, c ≠ 193 → c ≠ 194 → i' c j = i c j
  | 0, j, q, i, w, hj, hM, hq, h4 => by
    have e : j = S 15 0 := by omega
    subst e
    refine ⟨i, w, ?_, h4, fun _ _ _ _ => rfl⟩
    rw [b163_50, hM.hd, if_pos (Int32.le_refl _)]
  | n + 1, j, q, i, w, hj, hM, hq, h4 => by
    have hH := hI.heard
    obtain ⟨i1, w1, a1, a2, a3⟩ := c_mW1 sc (nI k) v2 (nI j) b l 8 0 i (by decide) (fun t ht => absurd ht (Nat.not_lt_zero _))
    have hM1 : MR S i1 := hM.congr hI (fun c t z => a3 c t (by have := z.2.2.2.2.2.2.2.2.2.2.2.2; omega))
    obtain ⟨i2, b1, b2, b3⟩ := c_mW2 sc hI hk (j := j) (by omega) q hq v2 b l (S 1 0) 0 (fun _ => 0) i1 (by omega) hM1 (fun _ => by decide) a2 (fun t ht => by rw [a3 _ _ (by decide), h4 t ht])
    have hM2 : MR S i2 := hM1.congr hI (fun c t z => b3 c t (by have := z.2.2.2.2.2.2.2.2.2.2.2.2; omega))
    obtain ⟨i3, w3, d1, d2, d3⟩ := c_mW3 sc (sWf S k (S 14 j) q (S 1 0) 0 (fun _ => 0)) (nI k) v2 (nI j) b l 8 0 i2 (by decide) b2 (fun t ht => absurd ht (Nat.not_lt_zero _))
    have hM3 : MR S i3 := hM2.congr hI (fun c t z => d3 c t (by have := z.2.2.2.2.2.2.2.2.2.2.2.2; omega))
    obtain ⟨i', w', p1, p2, p3⟩ := c_mWr sc hI hk v2 b l n (j + 1) (sWf S k (S 14 j) q (S 1 0) 0 (fun _ => 0)) i3 (some (.int w3)) (by omega) hM3 (sWf_lt S k _ q _ _ _ (fun _ => by decide)) d2
    refine ⟨i', w', ?_, p2, fun c t h1 h2 => by rw [p3 c t h1 h2, d3 c t h1, b3 c t h2, a3 c t h2]⟩
    rw [show nI 0 = 0 from rfl] at a1 b1 d1
    rw [← p1, b163_50, hM.hd, if_neg (zq_nle (by omega) (by omega)), b163_58, a1, b163_82, b1, b163_198, d1, b163_228, nI_1]
theorem c_mWm (sc : zScr) {q : Nat → Nat} (hq : ∀ t, q t < 1000003) (v1 v2 : Int32) (b : Bool) (i : Nat → Nat → Int32) (l : Nat → Nat → Int64) (h4 : ∀ t, t < 8 → i 193 t = nI (q t)) : ∀ (n v : Nat), v + n = 8 → zev sc (163, 239, [some (.ref 173), some (.int v1), some (.int v2), some (.int (nI (sWm q v))), some (.int (nI v))], [], (197, i, zRF b, l)) = some (.int (nI (sWm q 8)), (197, i, zRF b, l))
  | 0, v, hv => by
    have e : v = 8 := by omega
    subst e
    rw [b163_239, if_pos (by decide), b163_265]
  | n + 1, v, hv => by
    have g1 := sWm_lt q v
    have g2 := hq v
    rw [b163_239, if_neg (show ¬ (8 : Int32) ≤ nI v from zq_nle (a := 8) (by omega) (by decide)), b163_246 _ _ _ _ _ _ _ _ (vp_in_nI (by omega) (by decide)), nI_clamp (by omega), h4 v (by omega), nI_add, zmod (by omega), nI_1]
    exact c_mWm sc hq v1 v2 b i l h4 n (v + 1) (by omega)
theorem op_ways (sc : zScr) {S : zS} {i : Nat → Nat → Int32} (b : Bool) {l : Nat → Nat → Int64} (h : Rl S i l) (w y : Int32) : zOp sc 92 163 [some (.ref 0), some (.int w), some (.int y)] [some (.ref 173), some (.int w), some (.int y), none, none] i b l := by
  obtain ⟨hI, hX, hM, hL⟩ := id h
  have hF := hI.F
  have hK := hI.K
  have bad : (¬ (0 ≤ w ∧ w < nI (S 2 0)) ∨ ¬ (0 ≤ y ∧ y < nI (S 0 0))) → zOp sc 92 163 [some (.ref 0), some (.int w), some (.int y)] [some (.ref 173), some (.int w), some (.int y), none, none] i b l := by
    intro hb
    refine zOp_p (r := .int (-1)) h ?_ ?_
    · rw [b92_0, c_xKind sc _ _ _ _ _ hX.K, Option.bind_some]
      dsimp only
      rw [b92_5]
      by_cases h1 : 0 ≤ w ∧ w < nI (S 2 0)
      · rw [show zis w (S 2 0) = 1 from if_pos h1, if_neg (by decide), b92_8, c_xField sc _ _ _ _ _ hX.F, Option.bind_some]
        dsimp only
        rw [zis_out (hb.resolve_left (fun z => z h1)), b92_13, if_pos rfl, b92_28, b92_29]
      · rw [zis_out h1, if_pos rfl, b92_28, b92_29]
    · rw [b163_0, c_mKind sc _ _ (by omega) _ _ _ hM.K, Option.bind_some]
      dsimp only
      rw [b163_5]
      by_cases h1 : 0 ≤ w ∧ w < nI (S 2 0)
      · rw [show zis w (S 2 0) = 1 from if_pos h1, if_neg (by decide), b163_8, c_mField sc _ _ (by omega) _ _ _ hM.F, Option.bind_some]
        dsimp only
        rw [zis_out (hb.resolve_left (fun z => z h1)), b163_13, if_pos rfl, b163_16]
      · rw [zis_out h1, if_pos rfl, b163_16]
  refine (zix w (S 2 0) (by omega)).elim ?_ (fun hn => bad (Or.inl hn))
  rintro ⟨k, hk, rfl⟩
  refine (zix y (S 0 0) (by omega)).elim ?_ (fun hn => bad (Or.inr hn))
  rintro ⟨x, hx, rfl⟩
  have hz := zis_in (j := k) (n := S 2 0) (by omega) hk
  have hz2 := zis_in (j := x) (n := S 0 0) (by omega) hx
  have hql := sWr_lt S k (S 15 0) 0 (sW0 x) (sW0_lt x)
  refine zOp_q (r := .int (nI (sWay S k x))) h ?_ ?_
  · obtain ⟨i1, a1, a2, a3⟩ := c_xW0 sc hI hx (nI k) b l (S 0 0) 0 i (by omega) hX (fun t ht => absurd ht (Nat.not_lt_zero _))
    have hX1 : XR S i1 := hX.congr (fun c t z => a3 c t (by have := z.2.2.2; omega) (by have := z.2.2.2; omega))
    obtain ⟨i2, b2, d1, d2, d3⟩ := c_xWr sc hI hk (nI x) l (S 15 0) 0 (sW0 x) b i1 (by omega) hX1 (sW0_lt x) a2
    have hX2 : XR S i2 := hX1.congr (fun c t z => d3 c t (by have := z.2.2.2; omega) (by have := z.2.2.2; omega))
    have e1 := c_xWm sc hI hql (nI k) (nI x) b2 i2 hX2 l d2 (S 0 0) 0 (by omega)
    have zz : ∀ c t, xrd c t ∨ 173 ≤ c → c ≠ 70 ∧ c ≠ 71 := by
      intro c t z
      rcases z with z | z
      · have := z.2.2.2
        omega
      · omega
    refine ⟨i2, b2, ?_, fun c t z => by rw [d3 c t (zz c t z).1 (zz c t z).2, a3 c t (zz c t z).1 (zz c t z).2]⟩
    rw [show nI 0 = 0 from rfl] at a1 d1
    rw [show sWm (sWr S k (S 15 0) 0 (sW0 x)) 0 = 0 from rfl, show nI 0 = 0 from rfl] at e1
    rw [b92_0, c_xKind sc _ _ _ _ _ hX.K, Option.bind_some]
    dsimp only
    rw [hz, b92_5, if_neg (by decide), b92_8, c_xField sc _ _ _ _ _ hX.F, Option.bind_some]
    dsimp only
    rw [hz2, b92_13, if_neg (by decide), b92_16, b21_0, a1, b21_35, d1, b21_62, e1, Option.bind_some]
    dsimp only
    rw [b92_25, b92_29]
    rfl
  · intro i1 b1 hM1
    obtain ⟨i2, w2, a1, a2, a3⟩ := c_mW0 sc (x := x) (by omega) (nI k) b1 l 8 0 i1 (by decide) (fun t ht => absurd ht (Nat.not_lt_zero _))
    have hM2 : MR S i2 := hM1.congr hI (fun c t z => a3 c t (by have := z.2.2.2.2.2.2.2.2.2.2.2.2; omega))
    obtain ⟨i3, w3, d1, d2, d3⟩ := c_mWr sc hI hk (nI x) b1 l (S 15 0) 0 (sW0 x) i2 none (by omega) hM2 (sW0_lt x) a2
    have e1 := c_mWm sc hql (nI k) (nI x) b1 i3 l d2 8 0 (by decide)
    have e8 : sWm (sWr S k (S 15 0) 0 (sW0 x)) 8 = sWay S k x := by
      have := sWm_0 (q := sWr S k (S 15 0) 0 (sW0 x)) (F := S 0 0) (sWr_0 hI k _ _ _ (fun t ht => if_neg (by omega))) (8 - S 0 0)
      rw [show S 0 0 + (8 - S 0 0) = 8 by omega] at this
      exact this
    refine ⟨i3, ?_, fun c t z => ?_⟩
    · rw [show nI 0 = 0 from rfl] at a1 d1
      rw [show sWm (sWr S k (S 15 0) 0 (sW0 x)) 0 = 0 from rfl, show nI 0 = 0 from rfl, e8] at e1
      rw [b163_0, c_mKind sc _ _ (by omega) _ _ _ hM1.K, Option.bind_some]
      dsimp only
      rw [hz, b163_5, if_neg (by decide), b163_8, c_mField sc _ _ (by omega) _ _ _ hM1.F, Option.bind_some]
      dsimp only
      rw [hz2, b163_13, if_neg (by decide), b163_18, a1, b163_48, d1, b163_234, e1]
    · have z' : c ≠ 193 ∧ c ≠ 194 := by
        rcases z with z | z
        · have := z.2.2.2.2.2.2.2.2.2.2.2.2
          omega
        · omega
      rw [d3 c t z'.1 z'.2, a3 c t z'.1]
