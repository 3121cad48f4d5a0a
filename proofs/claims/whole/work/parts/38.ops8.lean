/-! now: alike strings -/
def sAl (S : zS) (f g : Nat) : Nat := if (sStr S f = 1 ∧ sStr S g = 1) ∧ S 9 (6 + f) = S 9 (6 + g) ∧ (sAt S g (S 4 f) = 1 ∨ sAt S g (S 5 f) = 1) then 1 else 0
theorem sAl_01 (S : zS) (f g : Nat) : sAl S f g = 0 ∨ sAl S f g = 1 := by unfold sAl; split <;> simp
theorem sAt_1 {S : zS} {f x : Nat} : sAt S f x = 1 ↔ S 4 f = x ∨ S 5 f = x := by
  unfold sAt
  split <;> rename_i h
  · exact ⟨fun _ => h, fun _ => rfl⟩
  · exact ⟨fun z => absurd z (by decide), fun z => absurd z h⟩
theorem zbt_eb {p q c : Nat} : zbt (2 ^ p ||| 2 ^ q) c = 0 ↔ ¬ (p = c ∨ q = c) := by
  have h : zbt (2 ^ p ||| 2 ^ q) c = 1 ↔ (p = c ∨ q = c) := by
    rw [zbt_testBit, Nat.testBit_or, Nat.testBit_two_pow, Nat.testBit_two_pow, Bool.or_eq_true, decide_eq_true_iff, decide_eq_true_iff]
  have h1 := zbt_01 (2 ^ p ||| 2 ^ q) c
  constructor
  · intro z y
    have := h.mpr y
    omega
  · intro z
    rcases h1 with y | y
    · exact y
    · exact absurd (h.mp y) z
theorem zeb_meet {S : zS} {f g : Nat} : sEb S f &&& sEb S g = 0 ↔ ¬ (sAt S g (S 4 f) = 1 ∨ sAt S g (S 5 f) = 1) := by
  unfold sEb
  rw [zand_or, zbt_eb, zbt_eb, sAt_1, sAt_1]
  constructor
  · rintro ⟨h1, h2⟩ h3
    omega
  · intro h
    exact ⟨fun z => h (by omega), fun z => h (by omega)⟩
theorem sAl_symm (S : zS) (f g : Nat) : sAl S f g = sAl S g f := by
  unfold sAl
  have e : (sAt S g (S 4 f) = 1 ∨ sAt S g (S 5 f) = 1) ↔ (sAt S f (S 4 g) = 1 ∨ sAt S f (S 5 g) = 1) := by
    rw [sAt_1, sAt_1, sAt_1, sAt_1]
    omega
  exact zifc ⟨fun h => ⟨⟨h.1.2, h.1.1⟩, h.2.1.symm, e.mp h.2.2⟩, fun h => ⟨⟨h.1.2, h.1.1⟩, h.2.1.symm, e.mpr h.2.2⟩⟩
theorem sEb_lt {S : zS} (hI : Inv S) {f : Nat} (hf : f < S 1 0) : sEb S f < 2 ^ 8 := by
  have hF := hI.F
  obtain ⟨hl, hr, -⟩ := hI.lr f hf
  exact zor_lt (Nat.pow_lt_pow_right (by decide) (by omega)) (Nat.pow_lt_pow_right (by decide) (by omega))
theorem c_xAl (sc : zScr) {S : zS} {f g : Nat} (hI : Inv S) (hf : f < S 1 0) (hg : g < S 1 0) (i : Nat → Nat → Int32) (hX : XR S i) (b : Bool) (l : Nat → Nat → Int64) : zev sc (5, 0, [some (.ref 75), some (.int (nI f)), some (.int (nI g))], [], (197, i, zRF b, l)) = some (.int (nI (sAl S f g)), (197, i, zRF b, l)) := by
  have hE := hI.E
  have hp := hI.pit hf
  have hq := hI.pit hg
  have no : sAl S f g = 0 → zev sc (5, 73, [some (.ref 75), some (.int (nI f)), some (.int (nI g))], [], (197, i, zRF b, l)) = some (.int (nI (sAl S f g)), (197, i, zRF b, l)) := by
    intro h
    rw [b5_73, b5_74 _ _ _ _ _ _ _ (Or.inl rfl), h]
    rfl
  rw [b5_0, c_xStr sc hI hf i hX, Option.bind_some]
  dsimp only
  rw [b5_8]
  rcases sStr_01 S f with q1 | q1
  · rw [q1, if_pos (show nI 0 = 0 from rfl)]
    exact no (if_neg (fun z => by have := z.1.1; omega))
  rw [q1, if_neg (show ¬ nI 1 = 0 by decide), b5_11, c_xStr sc hI hg i hX, Option.bind_some]
  dsimp only
  rw [b5_19]
  rcases sStr_01 S g with q2 | q2
  · rw [q2, if_pos (show nI 0 = 0 from rfl)]
    exact no (if_neg (fun z => by have := z.1.2; omega))
  rw [q2, if_neg (show ¬ nI 1 = 0 by decide), b5_22 _ _ _ _ _ _ (vp_in_nI (by omega) (by decide)) (vp_in_nI (by omega) (by decide)), nI_clamp (by omega), nI_clamp (by omega), hX.pit hf, hX.pit hg]
  by_cases q3 : S 9 (6 + f) = S 9 (6 + g)
  · rw [if_pos (by rw [q3]), b5_49, c_xEb sc hI hf i hX, Option.bind_some]
    dsimp only
    rw [b5_57, c_xEb sc hI hg i hX, Option.bind_some]
    dsimp only
    have hle : sEb S f &&& sEb S g ≤ sEb S f := Nat.and_le_left
    have hlt := sEb_lt hI hf
    rw [b5_65, fa_and]
    by_cases q4 : sAt S g (S 4 f) = 1 ∨ sAt S g (S 5 f) = 1
    · rw [if_neg (fun z => zeb_meet.mp ((nI_eq0 (by omega)).mp z) q4), b5_69, b5_74 _ _ _ _ _ _ _ (Or.inr rfl), show sAl S f g = 1 from if_pos ⟨⟨q1, q2⟩, q3, q4⟩]
      rfl
    · rw [if_pos ((nI_eq0 (by omega)).mpr (zeb_meet.mpr q4))]
      exact no (if_neg (fun z => q4 z.2.2))
  · rw [if_neg (fun z => q3 ((nI_eq (by omega) (by omega)).mp z))]
    exact no (if_neg (fun z => q3 z.2.1))
theorem c_mAl (sc : zScr) {S : zS} {f g : Nat} (hI : Inv S) (hf : f < S 1 0) (hg : g < S 1 0) (hne : f ≠ g) (i : Nat → Nat → Int32) (hM : MR S i) (b : Bool) (l : Nat → Nat → Int64) : zev sc (153, 0, [some (.ref 173), some (.int (nI f)), some (.int (nI g)), none], [], (197, i, zRF b, l)) = some (.int (nI (sAl S f g)), (197, i, zRF b, l)) := by
  have hE := hI.E
  have hF := hI.F
  have hp := hI.pit hf
  have hq := hI.pit hg
  obtain ⟨hl, hr, -⟩ := hI.lr f hf
  have hcf : (nI f).toNatClampNeg = f := nI_clamp (by omega)
  have hin : vp_in (nI f) 16 := vp_in_nI (by omega) (by decide)
  have ef : (6 : Int32) + nI f = nI (6 + f) := by rw [L6, nI_add]
  have eg : (6 : Int32) + nI g = nI (6 + g) := by rw [L6, nI_add]
  have no : ∀ v, sAl S f g = 0 → zev sc (153, 84, [some (.ref 173), some (.int (nI f)), some (.int (nI g)), some (.int v)], [], (197, i, zRF b, l)) = some (.int (nI (sAl S f g)), (197, i, zRF b, l)) := by
    intro v h
    rw [b153_84, b153_85 _ _ _ _ _ _ _ _ (Or.inl rfl), h]
    rfl
  have meets : zev sc (153, 0, [some (.ref 173), some (.int (nI f)), some (.int (nI g)), none], [], (197, i, zRF b, l)) = zev sc (153, 33, [some (.ref 173), some (.int (nI f)), some (.int (nI g)), none], [.int (if sAt S g (S 4 f) = 1 ∨ sAt S g (S 5 f) = 1 then 1 else 0)], (197, i, zRF b, l)) := by
    rw [b153_0 _ _ _ _ _ _ hin, hcf, hM.l hf, c_mAt sc hI hg (by omega) i hM, Option.bind_some]
    dsimp only
    rw [b153_11]
    rcases sAt_01 S g (S 4 f) with z1 | z1
    · rw [z1, if_pos (show nI 0 = 0 from rfl), b153_14 _ _ _ _ _ _ hin, hcf, hM.r hf, c_mAt sc hI hg (by omega) i hM, Option.bind_some]
      dsimp only
      rw [b153_25]
      rcases sAt_01 S g (S 5 f) with z2 | z2
      · rw [z2, if_pos (show nI 0 = 0 from rfl), b153_32, if_neg (by decide)]
      · rw [z2, if_neg (show ¬ nI 1 = 0 by decide), b153_28, if_pos (Or.inr rfl)]
    · rw [z1, if_neg (show ¬ nI 1 = 0 by decide), b153_28, if_pos (Or.inl rfl)]
  rw [meets, b153_33, if_neg (fun z => hne ((nI_eq (by omega) (by omega)).mp z)), b153_39]
  by_cases q4 : sAt S g (S 4 f) = 1 ∨ sAt S g (S 5 f) = 1
  · rw [if_pos q4, if_neg (by decide), b153_43, c_mStr sc hI hf i hM, Option.bind_some]
    dsimp only
    rw [b153_48]
    rcases sStr_01 S f with q1 | q1
    · rw [q1, if_pos (show nI 0 = 0 from rfl)]
      exact no _ (if_neg (fun z => by have := z.1.1; omega))
    rw [q1, if_neg (show ¬ nI 1 = 0 by decide), b153_51, c_mStr sc hI hg i hM, Option.bind_some]
    dsimp only
    rw [b153_56]
    rcases sStr_01 S g with q2 | q2
    · rw [q2, if_pos (show nI 0 = 0 from rfl)]
      exact no _ (if_neg (fun z => by have := z.1.2; omega))
    rw [q2, if_neg (show ¬ nI 1 = 0 by decide), b153_59 _ _ _ _ _ _ _ (by rw [ef]; exact vp_in_nI (by omega) (by decide)) (by rw [eg]; exact vp_in_nI (by omega) (by decide)), ef, eg, nI_clamp (n := 6 + f) (by omega), nI_clamp (n := 6 + g) (by omega), hM.now (by omega), hM.now (by omega)]
    by_cases q3 : S 9 (6 + f) = S 9 (6 + g)
    · rw [if_pos (by rw [q3]), b153_80, b153_85 _ _ _ _ _ _ _ _ (Or.inr rfl), show sAl S f g = 1 from if_pos ⟨⟨q1, q2⟩, q3, q4⟩]
      rfl
    · rw [if_neg (fun z => q3 ((nI_eq (by omega) (by omega)).mp z))]
      exact no _ (if_neg (fun z => q3 z.2.1))
  · rw [if_neg q4, if_pos rfl]
    exact no _ (if_neg (fun z => q4 z.2.2))
/-- the partners of a string behind it, as bits -/
def sPn (S : zS) (f : Nat) : Nat → Nat
  | 0 => 0
  | n + 1 => if f < n ∧ sAl S f n = 1 then sPn S f n ||| 2 ^ n else sPn S f n
theorem sPn_lt (S : zS) (f : Nat) : ∀ n, sPn S f n < 2 ^ n
  | 0 => (by decide : 0 < 1)
  | n + 1 => by
    have ih := sPn_lt S f n
    have h2 : 2 ^ n < 2 ^ (n + 1) := Nat.pow_lt_pow_right (by decide) (by omega)
    unfold sPn
    split
    · exact zor_lt (by omega) h2
    · omega
theorem sPn_0 (S : zS) (f : Nat) : ∀ n, n ≤ f + 1 → sPn S f n = 0
  | 0, _ => rfl
  | n + 1, h => by
    rw [show sPn S f (n + 1) = sPn S f n from if_neg (fun z => by have := z.1; omega)]
    exact sPn_0 S f n (by omega)
theorem c_xPi (sc : zScr) {S : zS} {f : Nat} (hI : Inv S) (hf : f < S 1 0) (b : Bool) (l : Nat → Nat → Int64) : ∀ (n g : Nat) (i : Nat → Nat → Int32), f < g → g + n = S 1 0 → XR S i → i 76 f = nI (sPn S f g) → ∃ i', zev sc (4, 24, [some (.ref 75), some (.int (nI f)), some (.int (nI g))], [], (197, i, zRF b, l)) = zev sc (4, 62, [some (.ref 75), some (.int (nI f)), some (.int (nI (S 1 0)))], [], (197, i', zRF b, l)) ∧ i' 76 f = nI (sPn S f (S 1 0)) ∧ ∀ c t, (c ≠ 76 ∨ t ≠ f) → i' c t = i c t
  | 0, g, i, hfg, hg, hX, h0 => by
    have e : g = S 1 0 := by omega
    subst e
    refine ⟨i, ?_, h0, fun _ _ _ => rfl⟩
    rw [b4_24, hX.E, if_pos (Int32.le_refl _)]
  | n + 1, g, i, hfg, hg, hX, h0 => by
    have hE := hI.E
    have hgg : g < S 1 0 := by omega
    have hh : zev sc (4, 24, [some (.ref 75), some (.int (nI f)), some (.int (nI g))], [], (197, i, zRF b, l)) = if f < g ∧ sAl S f g = 1 then zev sc (4, 44, [some (.ref 75), some (.int (nI f)), some (.int (nI g))], [], (197, i, zRF b, l)) else zev sc (4, 56, [some (.ref 75), some (.int (nI f)), some (.int (nI g))], [], (197, i, zRF b, l)) := by
      rw [b4_24, hX.E, if_neg (zq_nle (by omega) (by omega)), b4_35, c_xAl sc hI hf hgg i hX, Option.bind_some]
      dsimp only
      rw [b4_41]
      rcases sAl_01 S f g with q | q
      · rw [q, if_pos (show nI 0 = 0 from rfl), if_neg (fun z => by have := z.2; omega)]
      · rw [q, if_neg (show ¬ nI 1 = 0 by decide), if_pos ⟨hfg, rfl⟩]
    by_cases hc : f < g ∧ sAl S f g = 1
    · have hne : ∀ c t, (c ≠ 76 ∨ t ≠ f) → zU i 76 f (nI (sPn S f g ||| 2 ^ g)) c t = i c t := fun c t h => zUn _ _ h
      obtain ⟨i', p1, p2, p3⟩ := c_xPi sc hI hf b l n (g + 1) (zU i 76 f (nI (sPn S f g ||| 2 ^ g))) (by omega) (by omega) (hX.congr (fun c t z => hne c t (Or.inl (by have := z.2.2.2; omega)))) (by rw [zUs, show sPn S f (g + 1) = sPn S f g ||| 2 ^ g from if_pos hc])
      refine ⟨i', ?_, p2, fun c t h => by rw [p3 c t h, hne c t h]⟩
      rw [hh, if_pos hc, ← p1, b4_44 _ _ _ _ _ _ (vp_in_nI (by omega) (by decide)), nI_clamp (by omega), h0, zsh1 (by omega), fa_or, b4_56, nI_1]
    · obtain ⟨i', p1, p2, p3⟩ := c_xPi sc hI hf b l n (g + 1) i (by omega) (by omega) hX (by rw [h0, show sPn S f (g + 1) = sPn S f g from if_neg hc])
      refine ⟨i', ?_, p2, p3⟩
      rw [hh, if_neg hc, ← p1, b4_56, nI_1]
theorem c_xPa (sc : zScr) {S : zS} (hI : Inv S) (b : Bool) (l : Nat → Nat → Int64) : ∀ (n f : Nat) (i : Nat → Nat → Int32) (w : Option Value), f + n = S 1 0 → XR S i → (∀ t, t < f → i 76 t = nI (sPn S t (S 1 0))) → ∃ i', zev sc (4, 2, [some (.ref 75), some (.int (nI f)), w], [], (197, i, zRF b, l)) = some (.null, (197, i', zRF b, l)) ∧ (∀ t, t < S 1 0 → i' 76 t = nI (sPn S t (S 1 0))) ∧ ∀ c t, c ≠ 76 → i' c t = i c t
  | 0, f, i, w, hf, hX, h0 => by
    have e : f = S 1 0 := by omega
    subst e
    refine ⟨i, ?_, h0, fun _ _ _ => rfl⟩
    rw [b4_2, hX.E, if_pos (Int32.le_refl _), b4_68]
  | n + 1, f, i, w, hf, hX, h0 => by
    have hE := hI.E
    obtain ⟨i1, a1, a2, a3⟩ := c_xPi sc hI (f := f) (by omega) b l (S 1 0 - (f + 1)) (f + 1) (zU i 76 f 0) (by omega) (by omega) (hX.congr (fun c t z => zUn _ _ (Or.inl (by have := z.2.2.2; omega)))) (by rw [zUs, sPn_0 S f (f + 1) (Nat.le_refl _)]; rfl)
    have hX1 : XR S i1 := hX.congr (fun c t z => by have := z.2.2.2; rw [a3 c t (Or.inl (by omega)), zUn _ _ (Or.inl (by omega))])
    obtain ⟨i', p1, p2, p3⟩ := c_xPa sc hI b l n (f + 1) i1 (some (.int (nI (S 1 0)))) (by omega) hX1 (fun t ht => by
      by_cases e : t = f
      · rw [e]; exact a2
      · rw [a3 _ _ (Or.inr e), zUn _ _ (Or.inr e)]; exact h0 t (by omega))
    refine ⟨i', ?_, p2, fun c t h => by rw [p3 c t h, a3 c t (Or.inl h), zUn _ _ (Or.inl h)]⟩
    rw [← p1, b4_2, hX.E, if_neg (zq_nle (by omega) (by omega)), b4_13 _ _ _ _ _ _ (vp_in_nI (by omega) (by decide)), nI_clamp (by omega), nI_1, a1, b4_62, nI_1]
