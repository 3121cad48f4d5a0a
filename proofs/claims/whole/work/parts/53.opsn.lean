/-! quiet: both measure -/
theorem c_xCs (sc : zScr) {S : zS} {k f : Nat} (hI : Inv S) (hk : k < S 2 0) (hf : f < S 1 0) (i : Nat → Nat → Int32) (hX : XR S i) (b : Bool) (l : Nat → Nat → Int64) : zev sc (46, 0, [some (.ref 72), some (.int (nI k)), some (.int (nI f))], [], (197, i, zRF b, l)) = some (.int (nI (sCs S k f)), (197, i, zRF b, l)) := by
  have hs := sSnd_le hI hk hf
  rw [b46_0, c_xSound sc hI hk hf i hX, Option.bind_some]
  dsimp only
  rw [b46_9]
  unfold sCs
  by_cases h : 0 < sSnd S k f
  · rw [if_neg (fun z => by have := (nI_le0 (by omega)).mp z; omega), if_pos h, b46_12, b46_18]
    rfl
  · rw [if_pos ((nI_le0 (by omega)).mpr (by omega)), if_neg h, b46_17, b46_18]
    rfl
theorem c_mCs (sc : zScr) {S : zS} {k f : Nat} (hI : Inv S) (hk : k < S 2 0) (hf : f < S 1 0) (i : Nat → Nat → Int32) (hM : MR S i) (b : Bool) (l : Nat → Nat → Int64) : zev sc (169, 0, [some (.ref 173), some (.int (nI k)), some (.int (nI f))], [], (197, i, zRF b, l)) = some (.int (nI (sCs S k f)), (197, i, zRF b, l)) := by
  have hs := sSnd_le hI hk hf
  rw [b169_0, c_mSound sc hI hk hf i hM, Option.bind_some]
  dsimp only
  rw [b169_6]
  unfold sCs
  by_cases h : 0 < sSnd S k f
  · rw [if_neg (fun z => by have := (nI_le0 (by omega)).mp z; omega), if_pos h, b169_9, b169_15]
    rfl
  · rw [if_pos ((nI_le0 (by omega)).mpr (by omega)), if_neg h, b169_14, b169_15]
    rfl
theorem sRx_ll {S : zS} {k f : Nat} (q : Nat → Nat) : sRx S k q f (S 4 f) = if q (S 5 f) + sCs S k f < q (S 4 f) then q (S 5 f) + sCs S k f else q (S 4 f) := if_pos rfl
theorem sRx_rr {S : zS} {k f : Nat} (q : Nat → Nat) (h : S 4 f ≠ S 5 f) : sRx S k q f (S 5 f) = if q (S 4 f) + sCs S k f < q (S 5 f) then q (S 4 f) + sCs S k f else q (S 5 f) := (if_neg (fun z => h z.symm)).trans (if_pos rfl)
theorem sRx_oo {S : zS} {k f v : Nat} (q : Nat → Nat) (h1 : v ≠ S 4 f) (h2 : v ≠ S 5 f) : sRx S k q f v = q v := (if_neg h1).trans (if_neg h2)
theorem sRx_new {S : zS} {k f : Nat} (q : Nat → Nat) (h : S 4 f ≠ S 5 f) (c : Nat) (i : Nat → Nat → Int32) (hc : ∀ v, v < S 0 0 → i c v = nI (q v)) : ∀ v, v < S 0 0 → zU (zU i c (S 4 f) (nI (sRx S k q f (S 4 f)))) c (S 5 f) (nI (sRx S k q f (S 5 f))) c v = nI (sRx S k q f v) := by
  intro v hv
  by_cases e2 : v = S 5 f
  · rw [e2, zUs]
  · rw [zUn _ _ (Or.inr e2)]
    by_cases e1 : v = S 4 f
    · rw [e1, zUs]
    · rw [zUn _ _ (Or.inr e1), hc v hv, sRx_oo q e1 e2]
theorem zif_nI {a b : Nat} (ha : a < 2 ^ 31) (hb : b < 2 ^ 31) : (if nI a < nI b then nI a else nI b) = nI (if a < b then a else b) := by
  rw [zifc (nI_ltI ha hb), apply_ite nI]
theorem c_xMf (sc : zScr) {S : zS} {k : Nat} (hI : Inv S) (hk : k < S 2 0) (d : Nat → Nat) (hd : ∀ v, d v ≤ 1000000) (v2 v3 : Int32) (b : Bool) (l : Nat → Nat → Int64) : ∀ (n f : Nat) (i : Nat → Nat → Int32) (w5 w6 w7 : Option Value), f + n = S 1 0 → XR S i → (∀ v, v < S 0 0 → i 73 v = nI (sRn S k d f v)) → ∃ i' w5' w6' w7', zev sc (47, 52, [some (.ref 72), some (.int (nI k)), some (.int v2), some (.int v3), some (.int (nI f)), w5, w6, w7], [], (197, i, zRF b, l)) = zev sc (47, 157, [some (.ref 72), some (.int (nI k)), some (.int v2), some (.int v3), some (.int (nI (S 1 0))), w5', w6', w7'], [], (197, i', zRF b, l)) ∧ (∀ v, v < S 0 0 → i' 73 v = nI (sRn S k d (S 1 0) v)) ∧ ∀ c t, c ≠ 73 → i' c t = i c t
  | 0, f, i, w5, w6, w7, hf, hX, h0 => by
    have e : f = S 1 0 := by omega
    subst e
    refine ⟨i, w5, w6, w7, ?_, h0, fun _ _ _ => rfl⟩
    rw [b47_52, hX.E, if_pos (Int32.le_refl _)]
  | n + 1, f, i, w5, w6, w7, hf, hX, h0 => by
    have hE := hI.E
    have hF := hI.F
    have hff : f < S 1 0 := by omega
    obtain ⟨hl, hr, hne⟩ := hI.lr f hff
    have hc := sCs_p S k f
    have q1 := Nat.le_trans (sRn_le S k d (S 4 f) f) (hd _)
    have q2 := Nat.le_trans (sRn_le S k d (S 5 f) f) (hd _)
    have cf : (nI f).toNatClampNeg = f := nI_clamp (by omega)
    have ca : (nI (S 4 f)).toNatClampNeg = S 4 f := nI_clamp (by omega)
    have cb : (nI (S 5 f)).toNatClampNeg = S 5 f := nI_clamp (by omega)
    have hne2 : ∀ u w c t, c ≠ 73 → zU (zU i 73 (S 4 f) u) 73 (S 5 f) w c t = i c t := fun u w c t h => by rw [zUn _ _ (Or.inl h), zUn _ _ (Or.inl h)]
    obtain ⟨i', w5', w6', w7', p1, p2, p3⟩ := c_xMf sc hI hk d hd v2 v3 b l n (f + 1) (zU (zU i 73 (S 4 f) (nI (sRx S k (sRn S k d f) f (S 4 f)))) 73 (S 5 f) (nI (sRx S k (sRn S k d f) f (S 5 f)))) (some (.int (nI (S 4 f)))) (some (.int (nI (S 5 f)))) (some (.int (nI (sCs S k f)))) (by omega) (hX.congr (fun c t z => hne2 _ _ c t (by have := z.2.2.2; omega))) (sRx_new (sRn S k d f) hne 73 i h0)
    refine ⟨i', w5', w6', w7', ?_, p2, fun c t h => by rw [p3 c t h, hne2 _ _ c t h]⟩
    have hA : (if nI (sRn S k d f (S 5 f) + sCs S k f) < nI (sRn S k d f (S 4 f)) then nI (sRn S k d f (S 5 f) + sCs S k f) else nI (sRn S k d f (S 4 f))) = nI (sRx S k (sRn S k d f) f (S 4 f)) := by
      rw [zif_nI (by omega) (by omega), sRx_ll]
    have hx := sRx_le S k (sRn S k d f) f (S 4 f)
    have hB : (if nI (sRx S k (sRn S k d f) f (S 4 f) + sCs S k f) < nI (sRn S k d f (S 5 f)) then nI (sRx S k (sRn S k d f) f (S 4 f) + sCs S k f) else nI (sRn S k d f (S 5 f))) = nI (sRx S k (sRn S k d f) f (S 5 f)) := by
      rw [zif_nI (by omega) (by omega), sRx_rr _ hne, sRx_ll]
      congr 1
      repeat' split
      all_goals omega
    rw [← p1, b47_52, hX.E, if_neg (zq_nle (by omega) (by omega)), b47_64 _ _ _ _ _ _ _ _ _ _ _ (vp_in_nI (by omega) (by decide)), cf, hX.l hff, hX.r hff, c_xCs sc hI hk hff i hX, Option.bind_some]
    dsimp only
    rw [b47_95 _ _ _ _ _ _ _ _ _ _ _ _ (vp_in_nI (by omega) (by decide)) (vp_in_nI (by omega) (by decide)), ca, cb, h0 _ hl, h0 _ hr, nI_add, hA, zUs, zUn (f := i) (a := 73) (j := S 4 f) _ (q := 73) (t := S 5 f) (Or.inr (fun z => hne z.symm)), h0 _ hr, nI_add, hB, nI_1]
theorem c_xMr (sc : zScr) {S : zS} {k x : Nat} (hI : Inv S) (hk : k < S 2 0) (v2 : Int32) (b : Bool) (l : Nat → Nat → Int64) : ∀ (n j : Nat) (i : Nat → Nat → Int32) (w4 w5 w6 w7 : Option Value), j + 1 + n = S 0 0 → XR S i → (∀ v, v < S 0 0 → i 73 v = nI (sDt S k x j v)) → ∃ i', zev sc (47, 38, [some (.ref 72), some (.int (nI k)), some (.int v2), some (.int (nI (j + 1))), w4, w5, w6, w7], [], (197, i, zRF b, l)) = some (.null, (197, i', zRF b, l)) ∧ (∀ v, v < S 0 0 → i' 73 v = nI (sDt S k x (S 0 0 - 1) v)) ∧ ∀ c t, c ≠ 73 → i' c t = i c t
  | 0, j, i, w4, w5, w6, w7, hj, hX, h0 => by
    have e : j = S 0 0 - 1 := by omega
    subst e
    refine ⟨i, ?_, h0, fun _ _ _ => rfl⟩
    rw [b47_38, hX.F, show S 0 0 - 1 + 1 = S 0 0 by omega, if_pos (Int32.le_refl _), b47_163]
  | n + 1, j, i, w4, w5, w6, w7, hj, hX, h0 => by
    have hF := hI.F
    obtain ⟨i1, a5, a6, a7, p1, p2, p3⟩ := c_xMf sc hI hk (sDt S k x j) (fun v => sDt_le S k x v j) v2 (nI (j + 1)) b l (S 1 0) 0 i w5 w6 w7 (by omega) hX h0
    obtain ⟨i', q1, q2, q3⟩ := c_xMr sc (x := x) hI hk v2 b l n (j + 1) i1 (some (.int (nI (S 1 0)))) a5 a6 a7 (by omega) (hX.congr (fun c t z => p3 c t (by have := z.2.2.2; omega))) p2
    refine ⟨i', ?_, q2, fun c t h => by rw [q3 c t h, p3 c t h]⟩
    rw [show nI 0 = 0 from rfl] at p1
    rw [← q1, b47_38, hX.F, if_neg (zq_nle (by omega) (by omega)), b47_49, p1, b47_157, nI_1]
theorem c_xM0 (sc : zScr) {S : zS} {x : Nat} (hI : Inv S) (hx : x < S 0 0) (v1 : Int32) (b : Bool) (l : Nat → Nat → Int64) : ∀ (n v : Nat) (i : Nat → Nat → Int32), v + n = S 0 0 → XR S i → (∀ u, u < v → i 73 u = nI (sD0 x u)) → ∃ i', zev sc (47, 2, [some (.ref 72), some (.int v1), some (.int (nI x)), some (.int (nI v)), none, none, none, none], [], (197, i, zRF b, l)) = zev sc (47, 36, [some (.ref 72), some (.int v1), some (.int (nI x)), some (.int (nI (S 0 0))), none, none, none, none], [], (197, i', zRF b, l)) ∧ (∀ u, u < S 0 0 → i' 73 u = nI (sD0 x u)) ∧ ∀ c t, c ≠ 73 → i' c t = i c t
  | 0, v, i, hv, hX, h0 => by
    have e : v = S 0 0 := by omega
    subst e
    refine ⟨i, ?_, h0, fun _ _ _ => rfl⟩
    rw [b47_2, hX.F, if_pos (Int32.le_refl _)]
  | n + 1, v, i, hv, hX, h0 => by
    have hF := hI.F
    have hne : ∀ c t, (c ≠ 73 ∨ t ≠ v) → zU i 73 v (nI (sD0 x v)) c t = i c t := fun c t h => zUn _ _ h
    obtain ⟨i', p1, p2, p3⟩ := c_xM0 sc hI hx v1 b l n (v + 1) (zU i 73 v (nI (sD0 x v))) (by omega) (hX.congr (fun c t z => hne c t (Or.inl (by have := z.2.2.2; omega)))) (fun u hu => by
      by_cases e : u = v
      · rw [e, zUs]
      · rw [hne _ _ (Or.inr e)]; exact h0 u (by omega))
    refine ⟨i', ?_, p2, fun c t h => by rw [p3 c t h, hne c t (Or.inl h)]⟩
    rw [← p1, b47_2, hX.F, if_neg (zq_nle (by omega) (by omega)), b47_13]
    unfold sD0
    by_cases e : v = x
    · rw [if_pos (by rw [e]), if_pos e, b47_23, b47_29 _ _ _ _ _ _ _ _ _ (vp_in_nI (by omega) (by decide)), nI_clamp (by omega), nI_1]
      rfl
    · rw [if_neg (fun z => e ((nI_eq (by omega) (by omega)).mp z)), if_neg e, b47_27, b47_29 _ _ _ _ _ _ _ _ _ (vp_in_nI (by omega) (by decide)), nI_clamp (by omega), nI_1]
      rfl
theorem c_xMe (sc : zScr) {S : zS} {k x : Nat} (hI : Inv S) (hk : k < S 2 0) (hx : x < S 0 0) (b : Bool) (l : Nat → Nat → Int64) (i : Nat → Nat → Int32) (hX : XR S i) : ∃ i', zev sc (47, 0, [some (.ref 72), some (.int (nI k)), some (.int (nI x)), none, none, none, none, none], [], (197, i, zRF b, l)) = some (.null, (197, i', zRF b, l)) ∧ (∀ v, v < S 0 0 → i' 73 v = nI (sDt S k x (S 0 0 - 1) v)) ∧ ∀ c t, c ≠ 73 → i' c t = i c t := by
  have hF := hI.F
  obtain ⟨i1, p1, p2, p3⟩ := c_xM0 sc hI hx (nI k) b l (S 0 0) 0 i (by omega) hX (fun u hu => absurd hu (Nat.not_lt_zero _))
  have hX1 : XR S i1 := hX.congr (fun c t z => p3 c t (by have := z.2.2.2; omega))
  obtain ⟨i', q1, q2, q3⟩ := c_xMr sc (x := x) hI hk (nI x) b l (S 0 0 - 1) 0 i1 none none none none (by omega) hX1 p2
  refine ⟨i', ?_, q2, fun c t h => by rw [q3 c t h, p3 c t h]⟩
  rw [show nI 0 = 0 from rfl] at p1
  rw [show nI (0 + 1) = 1 from rfl] at q1
  rw [b47_0, p1, b47_36, q1]
theorem c_mMf (sc : zScr) {S : zS} {k : Nat} (hI : Inv S) (hk : k < S 2 0) (d : Nat → Nat) (hd : ∀ v, d v ≤ 1000000) (v2 v3 : Int32) (b : Bool) (l : Nat → Nat → Int64) : ∀ (n f : Nat) (i : Nat → Nat → Int32) (w5 w6 : Option Value), f + n = S 1 0 → MR S i → (∀ v, v < S 0 0 → i 195 v = nI (sRn S k d f v)) → ∃ i' w5' w6', zev sc (170, 42, [some (.ref 173), some (.int (nI k)), some (.int v2), some (.int v3), some (.int (nI f)), w5, w6], [], (197, i, zRF b, l)) = zev sc (170, 195, [some (.ref 173), some (.int (nI k)), some (.int v2), some (.int v3), some (.int (nI (S 1 0))), w5', w6'], [], (197, i', zRF b, l)) ∧ (∀ v, v < S 0 0 → i' 195 v = nI (sRn S k d (S 1 0) v)) ∧ ∀ c t, c ≠ 195 → i' c t = i c t
  | 0, f, i, w5, w6, hf, hM, h0 => by
    have e : f = S 1 0 := by omega
    subst e
    refine ⟨i, w5, w6, ?_, h0, fun _ _ _ => rfl⟩
    rw [b170_42, hM.E, if_pos (Int32.le_refl _)]
  | n + 1, f, i, w5, w6, hf, hM, h0 => by
    have hE := hI.E
    have hF := hI.F
    have hff : f < S 1 0 := by omega
    obtain ⟨hl, hr, hne⟩ := hI.lr f hff
    have hc := sCs_p S k f
    have q1 := Nat.le_trans (sRn_le S k d (S 4 f) f) (hd _)
    have q2 := Nat.le_trans (sRn_le S k d (S 5 f) f) (hd _)
    have cf : (nI f).toNatClampNeg = f := nI_clamp (by omega)
    have ca : (nI (S 4 f)).toNatClampNeg = S 4 f := nI_clamp (by omega)
    have cb : (nI (S 5 f)).toNatClampNeg = S 5 f := nI_clamp (by omega)
    have g0 : vp_in (nI f) 16 := vp_in_nI (by omega) (by decide)
    have ga : vp_in (nI (S 4 f)) 8 := vp_in_nI (by omega) (by decide)
    have gb : vp_in (nI (S 5 f)) 8 := vp_in_nI (by omega) (by decide)
    have hne2 : ∀ u w c t, c ≠ 195 → zU (zU i 195 (S 4 f) u) 195 (S 5 f) w c t = i c t := fun u w c t h => by rw [zUn _ _ (Or.inl h), zUn _ _ (Or.inl h)]
    obtain ⟨i', w5', w6', p1, p2, p3⟩ := c_mMf sc hI hk d hd v2 v3 b l n (f + 1) (zU (zU i 195 (S 4 f) (nI (sRx S k (sRn S k d f) f (S 4 f)))) 195 (S 5 f) (nI (sRx S k (sRn S k d f) f (S 5 f)))) (some (.int (nI (sRn S k d f (S 5 f) + sCs S k f)))) (some (.int (nI (sRn S k d f (S 4 f) + sCs S k f)))) (by omega) (hM.congr hI (fun c t z => hne2 _ _ c t (by unfold mrd at z; omega))) (sRx_new (sRn S k d f) hne 195 i h0)
    refine ⟨i', w5', w6', ?_, p2, fun c t h => by rw [p3 c t h, hne2 _ _ c t h]⟩
    have s1 : zev sc (170, 42, [some (.ref 173), some (.int (nI k)), some (.int v2), some (.int v3), some (.int (nI f)), w5, w6], [], (197, i, zRF b, l)) = zev sc (170, 142, [some (.ref 173), some (.int (nI k)), some (.int v2), some (.int v3), some (.int (nI f)), some (.int (nI (sRn S k d f (S 5 f) + sCs S k f))), some (.int (nI (sRn S k d f (S 4 f) + sCs S k f)))], [.int (nI (sRx S k (sRn S k d f) f (S 4 f))), .int (nI (S 4 f)), .ref 195], (197, i, zRF b, l)) := by
      rw [b170_42, hM.E, if_neg (zq_nle (by omega) (by omega)), b170_53 _ _ _ _ _ _ _ _ _ _ g0 (by rw [cf, hM.r hff]; exact gb), cf, hM.r hff, cb, h0 _ hr, c_mCs sc hI hk hff i hM, Option.bind_some]
      dsimp only
      rw [b170_72 _ _ _ _ _ _ _ _ _ _ _ _ g0 (by rw [cf, hM.l hff]; exact ga), cf, hM.l hff, ca, h0 _ hl, c_mCs sc hI hk hff i hM, Option.bind_some]
      dsimp only
      rw [b170_94 _ _ _ _ _ _ _ _ _ _ _ _ g0 (by rw [cf, hM.l hff]; exact ga), cf, hM.l hff, ca, h0 _ hl, nI_add, nI_add, sRx_ll]
      by_cases q : sRn S k d f (S 5 f) + sCs S k f < sRn S k d f (S 4 f)
      · rw [if_neg (zq_nle q (by omega)), if_pos q, b170_125]
      · rw [if_pos ((nI_leI (by omega) (by omega)).mpr (by omega)), if_neg q, b170_130 _ _ _ _ _ _ _ _ _ _ _ g0 (by rw [cf, hM.l hff]; exact ga), cf, hM.l hff, ca, h0 _ hl]
    have hw : ∀ c t, c ≠ 195 → zU i 195 (S 4 f) (nI (sRx S k (sRn S k d f) f (S 4 f))) c t = i c t := fun c t h => zUn _ _ (Or.inl h)
    have hwr : zU i 195 (S 4 f) (nI (sRx S k (sRn S k d f) f (S 4 f))) 178 f = nI (S 5 f) := by rw [hw _ _ (by decide), hM.r hff]
    have hwb : zU i 195 (S 4 f) (nI (sRx S k (sRn S k d f) f (S 4 f))) 195 (S 5 f) = nI (sRn S k d f (S 5 f)) := by rw [zUn _ _ (Or.inr (fun z => hne z.symm)), h0 _ hr]
    rw [← p1, s1, b170_142 _ _ _ _ _ _ _ _ _ _ _ _ ga g0 (by rw [ca, cf, hwr]; exact gb), ca, cf, hwr, cb, hwb, sRx_rr _ hne]
    by_cases q : sRn S k d f (S 4 f) + sCs S k f < sRn S k d f (S 5 f)
    · rw [if_neg (zq_nle q (by omega)), if_pos q, b170_171, b170_188 _ _ _ _ _ _ _ _ _ _ _ _ gb, cb, nI_1]
    · rw [if_pos ((nI_leI (by omega) (by omega)).mpr (by omega)), if_neg q, b170_176 _ _ _ _ _ _ _ _ _ _ _ g0 (by rw [cf, hwr]; exact gb), cf, hwr, cb, hwb, b170_188 _ _ _ _ _ _ _ _ _ _ _ _ gb, cb, nI_1]
theorem c_mMr (sc : zScr) {S : zS} {k x : Nat} (hI : Inv S) (hk : k < S 2 0) (v2 : Int32) (b : Bool) (l : Nat → Nat → Int64) : ∀ (n j : Nat) (i : Nat → Nat → Int32) (w4 w5 w6 : Option Value), j + n = 8 → MR S i → (∀ v, v < S 0 0 → i 195 v = nI (sDt S k x j v)) → ∃ i', zev sc (170, 33, [some (.ref 173), some (.int (nI k)), some (.int v2), some (.int (nI j)), w4, w5, w6], [], (197, i, zRF b, l)) = some (.null, (197, i', zRF b, l)) ∧ (∀ v, v < S 0 0 → i' 195 v = nI (sDt S k x 8 v)) ∧ ∀ c t, c ≠ 195 → i' c t = i c t
  | 0, j, i, w4, w5, w6, hj, hM, h0 => by
    have e : j = 8 := by omega
    subst e
    refine ⟨i, ?_, h0, fun _ _ _ => rfl⟩
    rw [b170_33, if_pos (by decide), b170_201]
  | n + 1, j, i, w4, w5, w6, hj, hM, h0 => by
    obtain ⟨i1, a5, a6, p1, p2, p3⟩ := c_mMf sc hI hk (sDt S k x j) (fun v => sDt_le S k x v j) v2 (nI j) b l (S 1 0) 0 i w5 w6 (by omega) hM h0
    obtain ⟨i', q1, q2, q3⟩ := c_mMr sc (x := x) hI hk v2 b l n (j + 1) i1 (some (.int (nI (S 1 0)))) a5 a6 (by omega) (hM.congr hI (fun c t z => p3 c t (by unfold mrd at z; omega))) p2
    refine ⟨i', ?_, q2, fun c t h => by rw [q3 c t h, p3 c t h]⟩
    rw [show nI 0 = 0 from rfl] at p1
    rw [← q1, b170_33, if_neg (show ¬ (8 : Int32) ≤ nI j from zq_nle (a := 8) (by omega) (by decide)), b170_39, p1, b170_195, nI_1]
theorem c_mM0 (sc : zScr) {S : zS} {x : Nat} (hI : Inv S) (hx : x < S 0 0) (v1 : Int32) (b : Bool) (l : Nat → Nat → Int64) : ∀ (n v : Nat) (i : Nat → Nat → Int32), v + n = 8 → MR S i → (∀ u, u < v → i 195 u = nI (sD0 x u)) → ∃ i', zev sc (170, 2, [some (.ref 173), some (.int v1), some (.int (nI x)), some (.int (nI v)), none, none, none], [], (197, i, zRF b, l)) = zev sc (170, 31, [some (.ref 173), some (.int v1), some (.int (nI x)), some (.int (nI 8)), none, none, none], [], (197, i', zRF b, l)) ∧ (∀ u, u < 8 → i' 195 u = nI (sD0 x u)) ∧ ∀ c t, c ≠ 195 → i' c t = i c t
  | 0, v, i, hv, hM, h0 => by
    have e : v = 8 := by omega
    subst e
    refine ⟨i, ?_, h0, fun _ _ _ => rfl⟩
    rw [b170_2, if_pos (by decide)]
  | n + 1, v, i, hv, hM, h0 => by
    have hF := hI.F
    have hne : ∀ c t, (c ≠ 195 ∨ t ≠ v) → zU i 195 v (nI (sD0 x v)) c t = i c t := fun c t h => zUn _ _ h
    obtain ⟨i', p1, p2, p3⟩ := c_mM0 sc hI hx v1 b l n (v + 1) (zU i 195 v (nI (sD0 x v))) (by omega) (hM.congr hI (fun c t z => hne c t (Or.inl (by unfold mrd at z; omega)))) (fun u hu => by
      by_cases e : u = v
      · rw [e, zUs]
      · rw [hne _ _ (Or.inr e)]; exact h0 u (by omega))
    refine ⟨i', ?_, p2, fun c t h => by rw [p3 c t h, hne c t (Or.inl h)]⟩
    rw [← p1, b170_2, if_neg (show ¬ (8 : Int32) ≤ nI v from zq_nle (a := 8) (by omega) (by decide)), b170_8]
    unfold sD0
    by_cases e : v = x
    · rw [if_pos (by rw [e]), if_pos e, b170_18, b170_24 _ _ _ _ _ _ _ _ _ (vp_in_nI (by omega) (by decide)), nI_clamp (by omega), nI_1]
      rfl
    · rw [if_neg (fun z => e ((nI_eq (by omega) (by omega)).mp z)), if_neg e, b170_22, b170_24 _ _ _ _ _ _ _ _ _ (vp_in_nI (by omega) (by decide)), nI_clamp (by omega), nI_1]
      rfl
theorem c_mMe (sc : zScr) {S : zS} {k x : Nat} (hI : Inv S) (hk : k < S 2 0) (hx : x < S 0 0) (b : Bool) (l : Nat → Nat → Int64) (i : Nat → Nat → Int32) (hM : MR S i) : ∃ i', zev sc (170, 0, [some (.ref 173), some (.int (nI k)), some (.int (nI x)), none, none, none, none], [], (197, i, zRF b, l)) = some (.null, (197, i', zRF b, l)) ∧ (∀ v, v < S 0 0 → i' 195 v = nI (sDt S k x (S 0 0 - 1) v)) ∧ ∀ c t, c ≠ 195 → i' c t = i c t := by
  have hF := hI.F
  obtain ⟨i1, p1, p2, p3⟩ := c_mM0 sc hI hx (nI k) b l 8 0 i (by omega) hM (fun u hu => absurd hu (Nat.not_lt_zero _))
  have hM1 : MR S i1 := hM.congr hI (fun c t z => p3 c t (by unfold mrd at z; omega))
  obtain ⟨i', q1, q2, q3⟩ := c_mMr sc (x := x) hI hk (nI x) b l 8 0 i1 none none none (by omega) hM1 (fun v hv => p2 v (by omega))
  refine ⟨i', ?_, fun v hv => by rw [q2 v hv, sDt_conv hI hx (by omega) hv], fun c t h => by rw [q3 c t h, p3 c t h]⟩
  rw [show nI 0 = 0 from rfl] at p1 q1
  rw [b170_0, p1, b170_31, q1]
