/-! now: how many two are alike -/
def sAd (S : zS) (f g : Nat) : Nat := if f ≠ g ∧ sAl S f g = 1 then 1 else 0
theorem sAd_symm (S : zS) (f g : Nat) : sAd S f g = sAd S g f := by
  unfold sAd
  rw [sAl_symm S f g]
  exact zifc ⟨fun h => ⟨fun z => h.1 z.symm, h.2⟩, fun h => ⟨fun z => h.1 z.symm, h.2⟩⟩
theorem sAd_self (S : zS) (f : Nat) : sAd S f f = 0 := if_neg (fun z => z.1 rfl)
theorem zbt_pn (S : zS) (f g : Nat) : ∀ n, zbt (sPn S f n) g = if g < n then sAd S f g else 0
  | 0 => by
    rw [if_neg (Nat.not_lt_zero _)]
    show 0 / 2 ^ g % 2 = 0
    rw [Nat.zero_div]
  | n + 1 => by
    have ih := zbt_pn S f g n
    have h01 := zbt_01 (sPn S f n) g
    unfold sPn
    by_cases hc : f ≠ n ∧ sAl S f n = 1
    · rw [if_pos hc]
      have hb : zbt (sPn S f n ||| 2 ^ n) g = 1 ↔ (zbt (sPn S f n) g = 1 ∨ n = g) := by
        rw [zbt_testBit, zbt_testBit, Nat.testBit_or, Nat.testBit_two_pow, Bool.or_eq_true, decide_eq_true_iff]
      have h2 := zbt_01 (sPn S f n ||| 2 ^ n) g
      by_cases e : g = n
      · subst e
        rw [if_pos (by omega), show sAd S f g = 1 from if_pos hc]
        exact hb.mpr (Or.inr rfl)
      · by_cases hlt : g < n
        · rw [if_pos hlt] at ih
          rw [if_pos (by omega), ← ih]
          rcases h01 with q | q
          · have : ¬ zbt (sPn S f n ||| 2 ^ n) g = 1 := fun z => (hb.mp z).elim (fun z => by omega) (fun z => e z.symm)
            omega
          · rw [q]; exact hb.mpr (Or.inl q)
        · rw [if_neg hlt] at ih
          rw [if_neg (by omega)]
          have : ¬ zbt (sPn S f n ||| 2 ^ n) g = 1 := fun z => (hb.mp z).elim (fun z => by omega) (fun z => e z.symm)
          omega
    · rw [if_neg hc, ih]
      by_cases e : g = n
      · subst e
        rw [if_neg (by omega), if_pos (by omega), show sAd S f g = 0 from if_neg hc]
      · exact zifc (by omega)
theorem zsum_ext {p : Nat → Nat} {n : Nat} (h : ∀ j, n ≤ j → p j = 0) : ∀ d, zsum p (n + d) = zsum p n
  | 0 => rfl
  | d + 1 => by
    show zsum p (n + d) + p (n + d) = _
    rw [h _ (by omega), zsum_ext h d]
    rfl
theorem zpc_pn (S : zS) (f : Nat) {n : Nat} (hn : n ≤ 8) : zpc (sPn S f n) = zsum (sAd S f) n := by
  unfold zpc
  have h1 := zsum_ext (p := zbt (sPn S f n)) (n := n) (fun j hj => by rw [zbt_pn, if_neg (by omega)]) (8 - n)
  rw [show n + (8 - n) = 8 by omega] at h1
  rw [h1]
  exact zsum_congr (fun j hj => by rw [zbt_pn, if_pos hj])
/-- all twos, each once from each side -/
theorem zsum_two (p : Nat → Nat → Nat) (hp : ∀ f g, p f g = p g f) (h0 : ∀ f, p f f = 0) : ∀ n, zsum (fun f => zsum (p f) n) n = 2 * zsum (fun f => zsum (p f) f) n
  | 0 => rfl
  | n + 1 => by
    have ih := zsum_two p hp h0 n
    show zsum (fun f => zsum (p f) n + p f n) n + (zsum (p n) n + p n n) = 2 * (zsum (fun f => zsum (p f) f) n + zsum (p n) n)
    rw [zsum_add, ih, h0, zsum_congr (p := fun f => p f n) (q := p n) (fun j hj => hp j n)]
    omega
def sLk (S : zS) : Nat := zsum (fun f => zsum (sAd S f) f) (S 1 0)
theorem zsum_le2 {p : Nat → Nat} {c : Nat} (hp : ∀ j, p j ≤ c) : ∀ n, zsum p n ≤ c * n
  | 0 => Nat.zero_le _
  | n + 1 => by
    have := zsum_le2 hp n
    have := hp n
    unfold zsum
    rw [Nat.mul_succ]
    omega
theorem zhalf {n : Nat} (hn : n < 2 ^ 30) : nI (2 * n) / 2 = nI n := by
  apply Int32.toInt_inj.mp
  rw [Int32.toInt_div_of_ne_right _ _ (by decide), nI_toInt (by omega), nI_toInt (by omega), show (2 : Int32).toInt = ((2 : Nat) : Int) from rfl, ← Int.ofNat_tdiv, Nat.mul_div_cancel_left _ (by decide)]
theorem c_xLk (sc : zScr) {S : zS} (hI : Inv S) (b : Bool) (l : Nat → Nat → Int64) (i : Nat → Nat → Int32) (hX : XR S i) (h76 : ∀ t, t < S 1 0 → i 76 t = nI (sPn S t (S 1 0))) : ∀ (n f : Nat), f + n = S 1 0 → zev sc (1, 8, [some (.ref 75), some (.int (nI (zsum (fun f => zsum (sAd S f) (S 1 0)) f))), some (.int (nI f))], [], (197, i, zRF b, l)) = some (.int (nI (sLk S)), (197, i, zRF b, l))
  | 0, f, hf => by
    have e : f = S 1 0 := by omega
    subst e
    have hE := hI.E
    have hb : sLk S ≤ 64 := by
      have h2 : ∀ f, f < S 1 0 → zsum (sAd S f) f ≤ 8 := fun f hf => Nat.le_trans (zsum_le (fun j => by unfold sAd; split <;> omega) f) (by omega)
      have h3 : sLk S = zsum (fun f => if f < S 1 0 then zsum (sAd S f) f else 0) (S 1 0) := zsum_congr (fun j hj => by rw [if_pos hj])
      have h4 := zsum_le2 (p := fun f => if f < S 1 0 then zsum (sAd S f) f else 0) (c := 8) (fun j => by
        by_cases q : j < S 1 0
        · rw [if_pos q]; exact h2 j q
        · rw [if_neg q]; omega) (S 1 0)
      omega
    rw [b1_8, hX.E, if_pos (Int32.le_refl _), b1_37, zsum_two _ (sAd_symm S) (sAd_self S), zhalf (by unfold sLk at hb; omega)]
    rfl
  | n + 1, f, hf => by
    have hE := hI.E
    have hlt := sPn_lt S f (S 1 0)
    have h2 := z2p hE
    have ih := c_xLk sc hI b l i hX h76 n (f + 1) (by omega)
    rw [← ih, b1_8, hX.E, if_neg (zq_nle (by omega) (by omega)), b1_19 _ _ _ _ _ _ (vp_in_nI (by omega) (by decide)), nI_clamp (by omega), h76 f (by omega), c_bitCount sc (by omega), Option.bind_some]
    dsimp only
    rw [b1_29, zpc_pn S f hE, nI_add, nI_1]
    rfl
theorem c_mLi (sc : zScr) {S : zS} {f a0 : Nat} (hI : Inv S) (hf : f < S 1 0) (i : Nat → Nat → Int32) (hM : MR S i) (b : Bool) (l : Nat → Nat → Int64) : ∀ (n g : Nat), f < g → g + n = S 1 0 → zev sc (154, 18, [some (.ref 173), some (.int (nI (a0 + zsum (fun g => if f < g then sAd S f g else 0) g))), some (.int (nI f)), some (.int (nI g))], [], (197, i, zRF b, l)) = zev sc (154, 4, [some (.ref 173), some (.int (nI (a0 + zsum (fun g => if f < g then sAd S f g else 0) (S 1 0)))), some (.int (nI (f + 1))), some (.int (nI (S 1 0)))], [], (197, i, zRF b, l))
  | 0, g, hfg, hg => by
    have e : g = S 1 0 := by omega
    subst e
    rw [b154_18, hM.E, if_pos (Int32.le_refl _), b154_51, nI_1]
  | n + 1, g, hfg, hg => by
    have hE := hI.E
    have ih := c_mLi sc (a0 := a0) hI hf i hM b l n (g + 1) (by omega) (by omega)
    have fin : zsum (fun g => if f < g then sAd S f g else 0) (g + 1) = zsum (fun g => if f < g then sAd S f g else 0) g + sAd S f g := by
      show _ + (if f < g then sAd S f g else 0) = _
      rw [if_pos hfg]
    rw [← ih, fin, ← Nat.add_assoc, b154_18, hM.E, if_neg (zq_nle (by omega) (by omega)), b154_28, c_mAl sc hI hf (by omega) (by omega) i hM, Option.bind_some]
    dsimp only
    rw [b154_35]
    rcases sAl_01 S f g with q | q
    · rw [q, if_pos (show nI 0 = 0 from rfl), b154_42, b154_43, show sAd S f g = 0 from if_neg (fun z => by have := z.2; omega), Int32.add_zero, nI_1]
      rfl
    · rw [q, if_neg (show ¬ nI 1 = 0 by decide), b154_38, b154_43, show sAd S f g = 1 from if_pos ⟨by omega, q⟩, nI_1, nI_1]
theorem c_mLk (sc : zScr) {S : zS} (hI : Inv S) (i : Nat → Nat → Int32) (hM : MR S i) (b : Bool) (l : Nat → Nat → Int64) : ∀ (n f : Nat) (w : Option Value), f + n = S 1 0 → zev sc (154, 4, [some (.ref 173), some (.int (nI (zsum (fun f => zsum (fun g => if f < g then sAd S f g else 0) (S 1 0)) f))), some (.int (nI f)), w], [], (197, i, zRF b, l)) = some (.int (nI (sLk S)), (197, i, zRF b, l))
  | 0, f, w, hf => by
    have e : f = S 1 0 := by omega
    subst e
    rw [b154_4, hM.E, if_pos (Int32.le_refl _), b154_57, ← zsum_swap _ (sAd_symm S)]
    rfl
  | n + 1, f, w, hf => by
    have hE := hI.E
    have h0 : ∀ k, k ≤ f + 1 → zsum (fun g => if f < g then sAd S f g else 0) k = 0 := by
      intro k hk
      rw [zsum_congr (q := fun _ => 0) (fun j hj => if_neg (by omega)), zsum_0]
    have ih := c_mLi sc (a0 := zsum (fun f => zsum (fun g => if f < g then sAd S f g else 0) (S 1 0)) f) hI (f := f) (by omega) i hM b l (S 1 0 - (f + 1)) (f + 1) (by omega) (by omega)
    rw [h0 (f + 1) (by omega), Nat.add_zero] at ih
    rw [b154_4, hM.E, if_neg (zq_nle (by omega) (by omega)), b154_14, nI_1, ih]
    exact c_mLk sc hI i hM b l n (f + 1) _ (by omega)
