/-! goes -/
theorem XSt.sfld {E B a : Nat} {r : Nat → Nat} {i : Nat → Nat → Int32} (h : XSt E B a r i) (hE : E ≤ 8) (hB : B ≤ 6) (f v : Nat) (hf : f < 6) : XSt E B a (sSt r f v) (zU i (a + 1) f (nI v)) := by
  obtain ⟨h1, h2, h3, h4, h5, h6, h7⟩ := h
  have e17 : sSt r f v 17 = r 17 := sSt_n (by omega)
  refine ⟨fun b hb => ?_, fun g hg => ?_, fun j hj => ?_, ?_, ?_, ?_, ?_⟩
  · by_cases e : b = f
    · subst e
      rw [zUs, sSt_s]
    · rw [zUn _ _ (Or.inr e), sSt_n (by omega)]; exact h1 b hb
  · rw [zUn _ _ (Or.inl (by omega)), sSt_n (by omega)]; exact h2 g hg
  · rw [e17] at hj ⊢
    rw [zUn _ _ (Or.inl (by omega)), sSt_n (by omega)]
    exact h3 j hj
  · rw [zUn _ _ (Or.inl (by omega)), e17]; exact h4
  · rw [zUn _ _ (Or.inl (by omega)), sSt_n (by omega)]; exact h5
  · rw [zUn _ _ (Or.inl (by omega)), sSt_n (by omega)]; exact h6
  · rw [zUn _ _ (Or.inl (by omega)), sSt_n (by omega)]; exact h7
theorem okR.sfld {F E B : Nat} {r : Nat → Nat} (h : okR F E B r) (hE : E ≤ 8) (hB : B ≤ 6) (f v : Nat) (hf : f < 6) (hv : v < F) : okR F E B (sSt r f v) := by
  obtain ⟨h1, h2, h3, h4, h5, h6, h7⟩ := h
  have e17 : sSt r f v 17 = r 17 := sSt_n (by omega)
  refine ⟨fun b hb => ?_, fun g hg => ?_, ?_, ?_, ?_, ?_, fun j hj => ?_⟩
  · by_cases e : b = f
    · subst e
      rw [sSt_s]
      exact hv
    · rw [sSt_n (by omega)]; exact h1 b hb
  · rw [sSt_n (by omega)]; exact h2 g hg
  · rw [sSt_n (by omega)]; exact h3
  · rw [sSt_n (by omega)]; exact h4
  · rw [sSt_n (by omega)]; exact h5
  · rw [e17]; exact h6
  · rw [e17] at hj
    rw [sSt_n (by omega)]
    exact h7 j hj
/-- a row with one sound more -/
def sSk (r : Nat → Nat) : Nat := if r 17 = 12 then 11 else r 17
def sSg (r : Nat → Nat) (s : Nat) : Nat → Nat := fun t => if t = 17 then sSk r + 1 else if t = 18 + sSk r then s else if r 17 = 12 ∧ 18 ≤ t ∧ t < 29 then r (t + 1) else r t
theorem sSk_le {r : Nat → Nat} (h : r 17 ≤ 12) : sSk r ≤ 11 := by unfold sSk; split <;> omega
theorem sSg_17 (r : Nat → Nat) (s : Nat) : sSg r s 17 = sSk r + 1 := if_pos rfl
theorem sSg_lo {r : Nat → Nat} {s t : Nat} (h : t < 17) : sSg r s t = r t := by
  unfold sSg
  rw [if_neg (by omega), if_neg (by omega), if_neg (by omega)]
theorem sSg_at (r : Nat → Nat) (s : Nat) : sSg r s (18 + sSk r) = s := by
  unfold sSg
  rw [if_neg (by omega), if_pos rfl]
theorem sSg_old {r : Nat → Nat} {s j : Nat} (hs : r 17 ≤ 12) (h : j < sSk r) : sSg r s (18 + j) = r (if r 17 = 12 then 18 + j + 1 else 18 + j) := by
  have := sSk_le hs
  unfold sSg
  rw [if_neg (by omega), if_neg (by omega)]
  by_cases e : r 17 = 12
  · rw [if_pos ⟨e, by omega, by omega⟩, if_pos e]
  · rw [if_neg (fun z => e z.1), if_neg e]
theorem okR.sing {F E B : Nat} {r : Nat → Nat} (h : okR F E B r) (hE : E ≤ 8) (hB : B ≤ 6) (s : Nat) (hs : s ≤ 43) : okR F E B (sSg r s) := by
  obtain ⟨h1, h2, h3, h4, h5, h6, h7⟩ := h
  have hk := sSk_le h6
  refine ⟨fun b hb => ?_, fun g hg => ?_, ?_, ?_, ?_, ?_, fun j hj => ?_⟩
  · rw [sSg_lo (by omega)]; exact h1 b hb
  · rw [sSg_lo (by omega)]; exact h2 g hg
  · rw [sSg_lo (by omega)]; exact h3
  · rw [sSg_lo (by omega)]; exact h4
  · rw [sSg_lo (by omega)]; exact h5
  · rw [sSg_17]; omega
  · rw [sSg_17] at hj
    by_cases e : j = sSk r
    · subst e
      rw [sSg_at]
      exact hs
    · rw [sSg_old h6 (by omega)]
      unfold sSk at hj e
      by_cases q : r 17 = 12
      · rw [if_pos q] at hj e ⊢
        exact h7 (j + 1) (by omega)
      · rw [if_neg q] at hj e ⊢
        exact h7 j (by omega)
theorem c_xSing (sc : zScr) {E B : Nat} {r : Nat → Nat} (s : Nat) (hE : E ≤ 8) (hB : B ≤ 6) (hs : r 17 ≤ 12) (i : Nat → Nat → Int32) (h : XSt E B 19 r i) (b : Bool) (l : Nat → Nat → Int64) : ∃ i', zev sc (57, 0, [some (.ref 19), some (.int (nI s))], [], (197, i, zRF b, l)) = some (.null, (197, i', zRF b, l)) ∧ XSt E B 19 (sSg r s) i' ∧ ∀ c j, (c < 19 ∨ 22 < c) → i' c j = i c j := by
  obtain ⟨h1, h2, h3, h4, h5, h6, h7⟩ := h
  have hk := sSk_le hs
  have cp : ∀ c j, c ≠ 22 → zCp i 22 22 0 1 11 c j = i c j := fun c j hc => if_neg hc
  have e3 : zU (zCp i 22 22 0 1 11) 22 0 (nI s) 19 3 = nI (r 17) := by rw [zUn _ _ (Or.inl (by decide)), cp _ _ (by decide), h4]
  have hm : (if nI (r 17) + (1 : Int32) < 12 then nI (r 17) + (1 : Int32) else 12) = nI (sSk r + 1) := by
    rw [nI_1, L12]
    unfold sSk
    by_cases e : r 17 = 12
    · rw [if_neg (fun z => by have := (nI_ltI (by omega) (by decide)).mp z; omega), if_pos e]
    · by_cases e9 : r 17 = 11
      · rw [if_neg (fun z => by have := (nI_ltI (by omega) (by decide)).mp z; omega), if_neg e, e9]
      · rw [if_pos ((nI_ltI (by omega) (by decide)).mpr (by omega)), if_neg e]
  refine ⟨zU (zU (zCp i 22 22 0 1 11) 22 0 (nI s)) 19 3 (nI (sSk r + 1)), ?_, ⟨fun b hb => ?_, fun g hg => ?_, fun j hj => ?_, ?_, ?_, ?_, ?_⟩, fun c j hc => ?_⟩
  · rw [b57_0, e3, hm]
  · rw [zUn _ _ (Or.inl (by decide)), zUn _ _ (Or.inl (by decide)), cp _ _ (by decide), sSg_lo (by omega)]; exact h1 b hb
  · rw [zUn _ _ (Or.inl (by decide)), zUn _ _ (Or.inl (by decide)), cp _ _ (by decide), sSg_lo (by omega)]; exact h2 g hg
  · rw [sSg_17] at hj ⊢
    rw [zUn _ _ (Or.inl (by decide))]
    by_cases e : j = 0
    · subst e
      rw [show 19 + 3 = 22 from rfl, zUs, show 18 + (sSk r + 1 - 1 - 0) = 18 + sSk r by omega, sSg_at]
    · rw [show 19 + 3 = 22 from rfl, zUn _ _ (Or.inr e), show 18 + (sSk r + 1 - 1 - j) = 18 + (sSk r - j) by omega, sSg_old hs (by omega)]
      have h0 := h3 (j - 1) (by unfold sSk at hj; split at hj <;> omega)
      show va_cpy (i 22) (i 22) 0 1 11 j = _
      unfold va_cpy
      rw [if_pos (by omega), show 0 + (j - 1) = j - 1 by omega]
      refine Eq.trans h0 (congrArg (fun t => nI (r t)) ?_)
      unfold sSk at hj ⊢
      by_cases q : r 17 = 12
      · rw [if_pos q] at hj
        rw [if_pos q, if_pos q]
        omega
      · rw [if_neg q] at hj
        rw [if_neg q, if_neg q]
        omega
  · rw [zUs, sSg_17]
  · rw [zUn _ _ (Or.inr (by decide)), zUn _ _ (Or.inl (by decide)), cp _ _ (by decide), sSg_lo (by omega)]; exact h5
  · rw [zUn _ _ (Or.inr (by decide)), zUn _ _ (Or.inl (by decide)), cp _ _ (by decide), sSg_lo (by omega)]; exact h6
  · rw [zUn _ _ (Or.inr (by decide)), zUn _ _ (Or.inl (by decide)), cp _ _ (by decide), sSg_lo (by omega)]; exact h7
  · rw [zUn _ _ (Or.inl (by omega)), zUn _ _ (Or.inl (by omega)), cp _ _ (by omega)]
theorem c_mSl (sc : zScr) {r : Nat → Nat} (s : Int32) (b : Bool) (l : Nat → Nat → Int64) : ∀ (n v : Nat) (i : Nat → Nat → Int32), v + n = 11 → (∀ j, j < 30 → i 187 j = nI (if 18 ≤ j ∧ j < 18 + v then r (j + 1) else r j)) → ∃ i' w, zev sc (146, 14, [some (.ref 173), some (.int s), some (.int (nI v))], [], (197, i, zRF b, l)) = zev sc (146, 48, [some (.ref 173), some (.int s), some (.int w)], [], (197, i', zRF b, l)) ∧ (∀ j, j < 30 → i' 187 j = nI (if 18 ≤ j ∧ j < 29 then r (j + 1) else r j)) ∧ ∀ c j, c ≠ 187 → i' c j = i c j
  | 0, v, i, hv, h1 => by
    have e : v = 11 := by omega
    subst e
    refine ⟨i, nI 11, ?_, h1, fun _ _ _ => rfl⟩
    rw [b146_14, if_pos (by decide)]
  | n + 1, v, i, hv, h1 => by
    have e18 : (18 : Int32) + nI v = nI (18 + v) := by rw [L18, nI_add]
    have e19 : (18 : Int32) + nI v + 1 = nI (18 + v + 1) := by rw [e18, nI_1]
    obtain ⟨i', w, g1, g2, g3⟩ := c_mSl sc (r := r) s b l n (v + 1) (zU i 187 (18 + v) (i 187 (18 + v + 1))) (by omega) (fun j hj => by
      by_cases e : j = 18 + v
      · rw [e, zUs, h1 _ (by omega), if_neg (by omega), if_pos (by omega)]
      · rw [zUn _ _ (Or.inr e), h1 j hj, zifc (a := 18 ≤ j ∧ j < 18 + v) (b := 18 ≤ j ∧ j < 18 + (v + 1)) (by omega)])
    refine ⟨i', w, ?_, g2, fun c j hc => by rw [g3 c j hc, zUn _ _ (Or.inl hc)]⟩
    rw [← g1, b146_14, nI_1, if_neg (show ¬ (12 : Int32) ≤ nI (v + 1) from zq_nle (a := 12) (by omega) (by decide)), b146_22 _ _ _ _ _ _ (by rw [e19]; exact vp_in_nI (by omega) (by decide)) (by rw [e18]; exact vp_in_nI (by omega) (by decide)), e19, e18, nI_clamp (n := 18 + v) (by omega), nI_clamp (n := 18 + v + 1) (by omega), nI_1]
theorem c_mSing (sc : zScr) {r : Nat → Nat} (s : Nat) (hs : r 17 ≤ 12) (i : Nat → Nat → Int32) (h : ∀ j, j < 30 → i 187 j = nI (r j)) (b : Bool) (l : Nat → Nat → Int64) : ∃ i', zev sc (146, 0, [some (.ref 173), some (.int (nI s)), none], [], (197, i, zRF b, l)) = some (.null, (197, i', zRF b, l)) ∧ (∀ j, j < 30 → i' 187 j = nI (sSg r s j)) ∧ ∀ c j, c ≠ 187 → i' c j = i c j := by
  have hk := sSk_le hs
  have first : ∃ i1 w, zev sc (146, 0, [some (.ref 173), some (.int (nI s)), none], [], (197, i, zRF b, l)) = zev sc (146, 59, [some (.ref 173), some (.int (nI s)), w], [], (197, i1, zRF b, l)) ∧ (∀ j, j < 30 → j ≠ 17 → i1 187 j = nI (if r 17 = 12 ∧ 18 ≤ j ∧ j < 29 then r (j + 1) else r j)) ∧ i1 187 17 = nI (sSk r) ∧ ∀ c j, c ≠ 187 → i1 c j = i c j := by
    by_cases h12 : r 17 = 12
    · obtain ⟨i1, w, g1, g2, g3⟩ := c_mSl sc (r := r) (nI s) b l 11 0 i (by decide) (fun j hj => by rw [if_neg (by omega)]; exact h j hj)
      have e17 : i1 187 17 = nI 12 := by rw [g2 17 (by decide), if_neg (by omega), h12]
      refine ⟨zU i1 187 17 (nI 11), some (.int w), ?_, fun j hj hj2 => ?_, ?_, fun c j hc => ?_⟩
      · rw [show nI 0 = 0 from rfl] at g1
        rw [b146_0, h 17 (by decide), if_pos (by rw [h12]; rfl), b146_12, g1, b146_48, e17, show nI 12 - 1 = nI 11 by decide]
      · rw [zUn _ _ (Or.inr hj2), g2 j hj]
        by_cases q : 18 ≤ j ∧ j < 29
        · rw [if_pos q, if_pos ⟨h12, q⟩]
        · rw [if_neg q, if_neg (fun z => q z.2)]
      · rw [zUs, show sSk r = 11 from if_pos h12]
      · rw [zUn _ _ (Or.inl hc), g3 c j hc]
    · refine ⟨i, none, ?_, fun j hj hj2 => ?_, ?_, fun _ _ _ => rfl⟩
      · rw [b146_0, h 17 (by decide), if_neg (by rw [L12]; exact fun z => h12 ((nI_eq (by omega) (by decide)).mp z))]
      · rw [h j hj, if_neg (fun z => h12 z.1)]
      · rw [h 17 (by decide), show sSk r = r 17 from if_neg h12]
  obtain ⟨i1, w, g1, g2, g3, g4⟩ := first
  have e18 : (18 : Int32) + i1 187 17 = nI (18 + sSk r) := by rw [g3, L18, nI_add]
  refine ⟨zU (zU i1 187 (18 + sSk r) (nI s)) 187 17 (nI (sSk r + 1)), ?_, fun j hj => ?_, fun c j hc => by rw [zUn _ _ (Or.inl hc), zUn _ _ (Or.inl hc), g4 c j hc]⟩
  · rw [g1, b146_59 _ _ _ _ _ _ (by rw [e18]; exact vp_in_nI (by omega) (by decide)), e18, nI_clamp (by omega), zUn _ (nI s) (Or.inr (by omega)), g3, nI_1]
  · unfold sSg
    by_cases e : j = 17
    · rw [e, zUs, if_pos rfl]
    · rw [zUn _ _ (Or.inr e), if_neg e]
      by_cases e2 : j = 18 + sSk r
      · rw [e2, zUs, if_pos rfl]
      · rw [zUn _ _ (Or.inr e2), if_neg e2, g2 j hj e]
theorem op_goes (sc : zScr) {S : zS} {i : Nat → Nat → Int32} (b : Bool) {l : Nat → Nat → Int64} (h : Rl S i l) (f w : Int32) : zOp sc 81 147 [some (.ref 0), some (.int f), some (.int w), none, none] [some (.ref 173), some (.int f), some (.int w), none] i b l := by
  obtain ⟨hI, hX, hM, hL⟩ := id h
  have hE := hI.E
  have hB := hI.B
  have hF := hI.F
  have hK := hI.K
  have bad : (¬ (0 ≤ f ∧ f < nI (S 3 0)) ∨ ¬ (0 ≤ w ∧ w < nI (S 1 0))) → zOp sc 81 147 [some (.ref 0), some (.int f), some (.int w), none, none] [some (.ref 173), some (.int f), some (.int w), none] i b l := by
    intro hb
    refine zOp_p (r := .int (-1)) h ?_ ?_
    · rw [b81_0, c_xBeast sc _ _ _ _ _ hX.B, Option.bind_some]
      dsimp only
      rw [b81_5]
      by_cases h1 : 0 ≤ f ∧ f < nI (S 3 0)
      · rw [show zis f (S 3 0) = 1 from if_pos h1, if_neg (by decide), b81_8, c_xFence sc _ _ _ _ _ hX.E, Option.bind_some]
        dsimp only
        rw [zis_out (hb.resolve_left (fun z => z h1)), b81_13, if_pos rfl, b81_16]
      · rw [zis_out h1, if_pos rfl, b81_16]
    · rw [b147_0, c_mBeast sc _ _ (by omega) _ _ _ hM.B, Option.bind_some]
      dsimp only
      rw [b147_5]
      by_cases h1 : 0 ≤ f ∧ f < nI (S 3 0)
      · rw [show zis f (S 3 0) = 1 from if_pos h1, if_neg (by decide), b147_8, c_mFence sc _ _ (by omega) _ _ _ hM.E, Option.bind_some]
        dsimp only
        rw [zis_out (hb.resolve_left (fun z => z h1)), b147_13, if_pos rfl, b147_16]
      · rw [zis_out h1, if_pos rfl, b147_16]
  refine (zix f (S 3 0) (by omega)).elim ?_ (fun hn => bad (Or.inl hn))
  rintro ⟨be, hbe, rfl⟩
  refine (zix w (S 1 0) (by omega)).elim ?_ (fun hn => bad (Or.inr hn))
  rintro ⟨k, hk, rfl⟩
  have hz := zis_in (j := be) (n := S 3 0) (by omega) hbe
  have hz2 := zis_in (j := k) (n := S 1 0) (by omega) hk
  have hx := hI.fld hbe
  obtain ⟨hl, hr, -⟩ := hI.lr k hk
  have hko := hI.ko be hbe
  have hin6 : vp_in (nI be) 6 := vp_in_nI (by omega) (by decide)
  have e0 : (0 : Int32) + nI be = nI be := Int32.zero_add _
  have hin30 : vp_in ((0 : Int32) + nI be) 30 := by rw [e0]; exact vp_in_nI (by omega) (by decide)
  have hcb : (nI be).toNatClampNeg = be := nI_clamp (by omega)
  have xh : zev sc (81, 0, [some (.ref 0), some (.int (nI be)), some (.int (nI k)), none, none], [], (197, i, zRF b, l)) = if nI (sAt S k (S 9 be)) = 0 then zev sc (81, 40, [some (.ref 0), some (.int (nI be)), some (.int (nI k)), some (.int (nI (S 9 be))), none], [], (197, i, zRF b, l)) else zev sc (81, 43, [some (.ref 0), some (.int (nI be)), some (.int (nI k)), some (.int (nI (S 9 be))), none], [], (197, i, zRF b, l)) := by
    rw [b81_0, c_xBeast sc _ _ _ _ _ hX.B, Option.bind_some]
    dsimp only
    rw [hz, b81_5, if_neg (by decide), b81_8, c_xFence sc _ _ _ _ _ hX.E, Option.bind_some]
    dsimp only
    rw [hz2, b81_13, if_neg (by decide), b81_18 _ _ _ _ _ _ hin6, hcb, hX.fld hbe, c_xAt sc hI hk (by omega) i hX, Option.bind_some]
    dsimp only
    rw [b81_37]
  have mh : ∀ i', MR S i' → zev sc (147, 0, [some (.ref 173), some (.int (nI be)), some (.int (nI k)), none], [], (197, i', zRF b, l)) = if nI (sAt S k (S 9 be)) = 0 then zev sc (147, 34, [some (.ref 173), some (.int (nI be)), some (.int (nI k)), none], [], (197, i', zRF b, l)) else zev sc (147, 37, [some (.ref 173), some (.int (nI be)), some (.int (nI k)), none], [], (197, i', zRF b, l)) := by
    intro i' hM'
    rw [b147_0, c_mBeast sc _ _ (by omega) _ _ _ hM'.B, Option.bind_some]
    dsimp only
    rw [hz, b147_5, if_neg (by decide), b147_8, c_mFence sc _ _ (by omega) _ _ _ hM'.E, Option.bind_some]
    dsimp only
    rw [hz2, b147_13, if_neg (by decide), b147_18 _ _ _ _ _ _ hin30, e0, hcb, hM'.now (by omega), c_mAt sc hI hk (by omega) i' hM', Option.bind_some]
    dsimp only
    rw [b147_31]
  rcases sAt_01 S k (S 9 be) with h0 | h0
  · refine zOp_p (r := .int (-2)) h ?_ ?_
    · rw [xh, if_pos (by rw [h0]; rfl), b81_40]
    · rw [mh i hM, if_pos (by rw [h0]; rfl), b147_34]
  have h0' : ¬ nI (sAt S k (S 9 be)) = 0 := by rw [h0]; decide
  have hsl := sSnd_le hI hko hk
  have hac : sAc S k (S 9 be) < S 0 0 := by unfold sAc; split <;> assumption
  obtain ⟨i1, n1, n2, n3⟩ := c_xNote sc hI i hX b l
  have hIk := hI.kn
  have x1 : zev sc (81, 0, [some (.ref 0), some (.int (nI be)), some (.int (nI k)), none, none], [], (197, i, zRF b, l)) = if nI (sSnd S (S 8 be) k) ≤ 0 then zev sc (81, 105, [some (.ref 0), some (.int (nI be)), some (.int (nI k)), some (.int (nI (S 9 be))), some (.int (nI (sSnd S (S 8 be) k)))], [], (197, zU i1 20 be (nI (sAc S k (S 9 be))), zRF b, l)) else zev sc (81, 96, [some (.ref 0), some (.int (nI be)), some (.int (nI k)), some (.int (nI (S 9 be))), some (.int (nI (sSnd S (S 8 be) k)))], [], (197, zU i1 20 be (nI (sAc S k (S 9 be))), zRF b, l)) := by
    rw [xh, if_neg h0', b81_43 _ _ _ _ _ _ _ hin6, hcb, hX.ko hbe, c_xSound sc hI hko hk i hX, Option.bind_some]
    dsimp only
    rw [b81_60, n1, Option.bind_some]
    dsimp only
    rw [b81_73, show nI (S 9 be) = nI (sKn S 9 be) from rfl, c_xAc sc hIk (f := k) hk (by show S 9 be < _; omega) i1 n2, Option.bind_some]
    dsimp only
    rw [b81_90 _ _ _ _ _ _ _ _ _ _ hin6, hcb]
    rfl
  have m1 : ∀ i' i2, MR S i' → MR (sKn S) i2 → zev sc (145, 0, [some (.ref 173), none], [], (197, i', zRF b, l)) = some (.null, (197, i2, zRF b, l)) → zev sc (147, 0, [some (.ref 173), some (.int (nI be)), some (.int (nI k)), none], [], (197, i', zRF b, l)) = if nI (sSnd S (S 8 be) k) ≤ 0 then zev sc (147, 83, [some (.ref 173), some (.int (nI be)), some (.int (nI k)), some (.int (nI (sSnd S (S 8 be) k)))], [], (197, zU i2 187 be (nI (sAc S k (S 9 be))), zRF b, l)) else zev sc (147, 78, [some (.ref 173), some (.int (nI be)), some (.int (nI k)), some (.int (nI (sSnd S (S 8 be) k)))], [], (197, zU i2 187 be (nI (sAc S k (S 9 be))), zRF b, l)) := by
    intro i' i2 hM' hM2 hkn
    rw [mh i' hM', if_neg h0', b147_37, hkn, Option.bind_some]
    dsimp only
    rw [b147_41 _ _ _ _ _ _ (vp_in_nI (by omega) (by decide)), hcb, hM2.ko (k := be) hbe, show nI (sKn S 8 be) = nI (S 8 be) from rfl, c_mSound sc hIk (k := S 8 be) hko hk i2 hM2, Option.bind_some]
    dsimp only
    rw [b147_52 _ _ _ _ _ _ _ hin30, e0, hcb, hM2.now (by omega), c_mAc sc hIk (f := k) hk (by show S 9 be < _; omega) i2 hM2, Option.bind_some]
    dsimp only
    rw [b147_73 _ _ _ _ _ _ _ _ _ (vp_in_nI (by omega) (by decide)), hcb]
    rfl
  have ok1 := hI.now.sfld hE hB be (sAc S k (S 9 be)) (by omega) hac
  have st1 : XSt (S 1 0) (S 3 0) 19 (sSt (rN S) be (sAc S k (S 9 be))) (zU i1 20 be (nI (sAc S k (S 9 be)))) := XSt.sfld (r := rN S) n2.now hE hB be _ (by omega)
  have s17 : sSt (rN S) be (sAc S k (S 9 be)) 17 ≤ 12 := ok1.2.2.2.2.2.1
  by_cases hs : sSnd S (S 8 be) k = 0
  · refine zOp_n (r := .int (nI (sSnd S (S 8 be) k))) (row := sSt (rN S) be (sAc S k (S 9 be))) (i1' := zU i1 20 be (nI (sAc S k (S 9 be)))) h ok1 n2 n3 st1 (fun c j hc => zUn _ _ (Or.inl (by omega))) ?_ ?_
    · rw [x1, if_pos ((nI_le0 (by omega)).mpr hs), b81_105]
    · intro hM1 i2 q1 q2
      refine ⟨zU i2 187 be (nI (sAc S k (S 9 be))), ?_, zMn q1 _ _, fun c j hc => zUn _ _ (Or.inl hc)⟩
      rw [m1 _ i2 hM1 q1 q2, if_pos ((nI_le0 (by omega)).mpr hs), b147_83]
  · have hs' : ¬ nI (sSnd S (S 8 be) k) ≤ 0 := fun z => hs ((nI_le0 (by omega)).mp z)
    obtain ⟨i3, g1, g2, g3⟩ := c_xSing sc (sSnd S (S 8 be) k) hE hB s17 _ st1 b l
    refine zOp_n (r := .int (nI (sSnd S (S 8 be) k))) (row := sSg (sSt (rN S) be (sAc S k (S 9 be))) (sSnd S (S 8 be) k)) (i1' := i3) h (ok1.sing hE hB _ hsl) n2 n3 g2 (fun c j hc => by rw [g3 c j hc, zUn _ _ (Or.inl (by omega))]) ?_ ?_
    · rw [x1, if_neg hs', b81_96, g1, Option.bind_some]
      dsimp only
      rw [b81_105]
    · intro hM1 i2 q1 q2
      obtain ⟨i4, p1, p2, p3⟩ := c_mSing sc (sSnd S (S 8 be) k) s17 (zU i2 187 be (nI (sAc S k (S 9 be)))) (zMn q1 _ _) b l
      refine ⟨i4, ?_, p2, fun c j hc => by rw [p3 c j hc, zUn _ _ (Or.inl hc)]⟩
      rw [m1 _ i2 hM1 q1 q2, if_neg hs', b147_78, p1, Option.bind_some]
      dsimp only
      rw [b147_83]
