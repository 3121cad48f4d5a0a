/-! now: how many two are alike -/
def sAd (S : zS) (f g : Nat) : Nat := if f ≠ g ∧ sAl S f g = 1 then 1 else 0
theorem sAd_symm (S : zS) (f g : Nat) : sAd S f g = sAd S g f := by
  unfold sAd
  rw [sAl_symm S f g]
  exact zifc ⟨fun h => ⟨fun z => h.1 z.symm, h.2⟩, fun h => ⟨fun z => h.1 z.symm, h.2⟩⟩
/-- only the partners behind it -/
def sBhd (S : zS) (f g : Nat) : Nat := if f < g ∧ sAl S f g = 1 then 1 else 0
theorem sBhd_e (S : zS) (f g : Nat) : sBhd S f g = if f < g then sAd S f g else 0 := by
  unfold sBhd
  by_cases h : f < g
  · rw [if_pos h]
    exact zifc ⟨fun z => ⟨by omega, z.2⟩, fun z => ⟨h, z.2⟩⟩
  · rw [if_neg h, if_neg (fun z => h z.1)]
theorem zbt_pn (S : zS) (f g : Nat) : ∀ n, zbt (sPn S f n) g = if g < n then sBhd S f g else 0
  | 0 => by
    rw [if_neg (Nat.not_lt_zero _)]
    show 0 / 2 ^ g % 2 = 0
    rw [Nat.zero_div]
  | n + 1 => by
    have ih := zbt_pn S f g n
    have h01 := zbt_01 (sPn S f n) g
    unfold sPn
    by_cases hc : f < n ∧ sAl S f n = 1
    · rw [if_pos hc]
      have hb : zbt (sPn S f n ||| 2 ^ n) g = 1 ↔ (zbt (sPn S f n) g = 1 ∨ n = g) := by
        rw [zbt_testBit, zbt_testBit, Nat.testBit_or, Nat.testBit_two_pow, Bool.or_eq_true, decide_eq_true_iff]
      have h2 := zbt_01 (sPn S f n ||| 2 ^ n) g
      by_cases e : g = n
      · subst e
        rw [if_pos (by omega), show sBhd S f g = 1 from if_pos hc]
        exact hb.mpr (Or.inr rfl)
      · by_cases hlt : g < n
        · rw [if_pos hlt] at ih
          rw [if_pos (by omega), ← ih]
          rcases h01 with q | q
          · have : ¬ zbt (sPn S f n ||| 2 ^ n) g = 1 := fun z => (hb.mp z).elim (fun z => by omega) (fun z => e z.symm)
            omega
          · rw [q]; exact hb.mpr (Or.inl q)
        · rw [if_neg hlt] at ih
          rw [if_neg (by omega)]
          have : ¬ zbt (sPn S f n ||| 2 ^ n) g = 1 := fun z => (hb.mp z).elim (fun z => by omega) (fun z => e z.symm)
          omega
    · rw [if_neg hc, ih]
      by_cases e : g = n
      · subst e
        rw [if_neg (by omega), if_pos (by omega), show sBhd S f g = 0 from if_neg hc]
      · exact zifc (by omega)
theorem zsum_ext {p : Nat → Nat} {n : Nat} (h : ∀ j, n ≤ j → p j = 0) : ∀ d, zsum p (n + d) = zsum p n
  | 0 => rfl
  | d + 1 => by
    show zsum p (n + d) + p (n + d) = _
    rw [h _ (by omega), zsum_ext h d]
    rfl
theorem zpc_pn (S : zS) (f : Nat) {n : Nat} (hn : n ≤ 8) : zpc (sPn S f n) = zsum (sBhd S f) n := by
  unfold zpc
  have h1 := zsum_ext (p := zbt (sPn S f n)) (n := n) (fun j hj => by rw [zbt_pn, if_neg (by omega)]) (8 - n)
  rw [show n + (8 - n) = 8 by omega] at h1
  rw [h1]
  exact zsum_congr (fun j hj => by rw [zbt_pn, if_pos hj])
def sLk (S : zS) : Nat := zsum (fun f => zsum (sAd S f) f) (S 1 0)
theorem sLk_bhd (S : zS) : zsum (fun f => zsum (sBhd S f) (S 1 0)) (S 1 0) = sLk S := by
  unfold sLk
  rw [zsum_swap _ (sAd_symm S)]
  exact zsum_congr (fun j _ => zsum_congr (fun k _ => sBhd_e S j k))
theorem c_xLk (sc : zScr) {S : zS} (hI : Inv S) (b : Bool) (l : Nat → Nat → Int64) (i : Nat → Nat → Int32) (hX : XR S i) (h76 : ∀ t, t < S 1 0 → i 76 t = nI (sPn S t (S 1 0))) : ∀ (n f : Nat), f + n = S 1 0 → zev sc (1, 8, [some (.ref 75), some (.int (nI (zsum (fun f => zsum (sBhd S f) (S 1 0)) f))), some (.int (nI f))], [], (197, i, zRF b, l)) = some (.int (nI (sLk S)), (197, i, zRF b, l))
  | 0, f, hf => by
    have e : f = S 1 0 := by omega
    subst e
    rw [b1_8, hX.E, if_pos (Int32.le_refl _), b1_37, sLk_bhd]
  | n + 1, f, hf => by
    have hE := hI.E
    have hlt := sPn_lt S f (S 1 0)
    have h2 := z2p hE
    have ih := c_xLk sc hI b l i hX h76 n (f + 1) (by omega)
    rw [← ih, b1_8, hX.E, if_neg (zq_nle (by omega) (by omega)), b1_19 _ _ _ _ _ _ (vp_in_nI (by omega) (by decide)), nI_clamp (by omega), h76 f (by omega), c_bitCount sc (by omega), Option.bind_some]
    dsimp only
    rw [b1_29, zpc_pn S f hE, nI_add, nI_1]
    rfl
theorem c_mLi (sc : zScr) {S : zS} {f a0 : Nat} (hI : Inv S) (hf : f < S 1 0) (i : Nat → Nat → Int32) (hM : MR S i) (b : Bool) (l : Nat → Nat → Int64) : ∀ (n g : Nat), f < g → g + n = S 1 0 → zev sc (154, 18, [some (.ref 173), some (.int (nI (a0 + zsum (fun g => if f < g then sAd S f g else 0) g))), some (.int (nI f)), some (.int (nI g))], [], (197, i, zRF b, l)) = zev sc (154, 4, [some (.ref 173), some (.int (nI (a0 + zsum (fun g => if f < g then sAd S f g else 0) (S 1 0)))), some (.int (nI (f + 1))), some (.int (nI (S 1 0)))], [], (197, i, zRF b, l))
  | 0, g, hfg, hg => by
    have e : g = S 1 0 := by omega
    subst e
    rw [b154_18, hM.E, if_pos (Int32.le_refl _), b154_51, nI_1]
  | n + 1, g, hfg, hg => by
    have hE := hI.E
    have ih := c_mLi sc (a0 := a0) hI hf i hM b l n (g + 1) (by omega) (by omega)
    have fin : zsum (fun g => if f < g then sAd S f g else 0) (g + 1) = zsum (fun g => if f < g then sAd S f g else 0) g + sAd S f g := by
      show _ + (if f < g then sAd S f g else 0) = _
      rw [if_pos hfg]
    rw [← ih, fin, ← Nat.add_assoc, b154_18, hM.E, if_neg (zq_nle (by omega) (by omega)), b154_28, c_mAl sc hI hf (by omega) (by omega) i hM, Option.bind_some]
    dsimp only
    rw [b154_35]
    rcases sAl_01 S f g with q | q
    · rw [q, if_pos (show nI 0 = 0 from rfl), b154_42, b154_43, show sAd S f g = 0 from if_neg (fun z => by have := z.2; omega), Int32.add_zero, nI_1]
      rfl
    · rw [q, if_neg (show ¬ nI 1 = 0 by decide), b154_38, b154_43, show sAd S f g = 1 from if_pos ⟨by omega, q⟩, nI_1, nI_1]
theorem c_mLk (sc : zScr) {S : zS} (hI : Inv S) (i : Nat → Nat → Int32) (hM : MR S i) (b : Bool) (l : Nat → Nat → Int64) : ∀ (n f : Nat) (w : Option Value), f + n = S 1 0 → zev sc (154, 4, [some (.ref 173), some (.int (nI (zsum (fun f => zsum (fun g => if f < g then sAd S f g else 0) (S 1 0)) f))), some (.int (nI f)), w], [], (197, i, zRF b, l)) = some (.int (nI (sLk S)), (197, i, zRF b, l))
  | 0, f, w, hf => by
    have e : f = S 1 0 := by omega
    subst e
    rw [b154_4, hM.E, if_pos (Int32.le_refl _), b154_57, ← zsum_swap _ (sAd_symm S)]
    rfl
  | n + 1, f, w, hf => by
    have hE := hI.E
    have h0 : ∀ k, k ≤ f + 1 → zsum (fun g => if f < g then sAd S f g else 0) k = 0 := by
      intro k hk
      rw [zsum_congr (q := fun _ => 0) (fun j hj => if_neg (by omega)), zsum_0]
    have ih := c_mLi sc (a0 := zsum (fun f => zsum (fun g => if f < g then sAd S f g else 0) (S 1 0)) f) hI (f := f) (by omega) i hM b l (S 1 0 - (f + 1)) (f + 1) (by omega) (by omega)
    rw [h0 (f + 1) (by omega), Nat.add_zero] at ih
    rw [b154_4, hM.E, if_neg (zq_nle (by omega) (by omega)), b154_14, nI_1, ih]
    exact c_mLk sc hI i hM b l n (f + 1) _ (by omega)
