/-! now: fields that a string joins -/
def sEr (S : zS) : Nat → Nat → Nat
  | 0, _ => 0
  | n + 1, x => if sStr S n = 1 then (if x = S 4 n then sEr S n x ||| 2 ^ S 5 n else sEr S n x) else sEr S n x
theorem sEr_lt {S : zS} (hI : Inv S) : ∀ n x, n ≤ S 1 0 → sEr S n x < 2 ^ 8
  | 0, _, _ => (by decide : 0 < 2 ^ 8)
  | n + 1, x, hn => by
    have hF := hI.F
    have ih := sEr_lt hI n x (by omega)
    obtain ⟨hl, hr, -⟩ := hI.lr n (by omega)
    unfold sEr
    split
    · split
      · exact zor_lt ih (Nat.pow_lt_pow_right (by decide) (by omega))
      · exact ih
    · exact ih
theorem c_xE0 (sc : zScr) {S : zS} (hI : Inv S) (b : Bool) (l : Nat → Nat → Int64) : ∀ (n v : Nat) (i : Nat → Nat → Int32), v + n = S 0 0 → XR S i → (∀ t, t < v → i 76 t = nI (sEr S 0 t)) → ∃ i', zev sc (3, 2, [some (.ref 75), some (.int (nI v))], [], (197, i, zRF b, l)) = zev sc (3, 26, [some (.ref 75), some (.int (nI (S 0 0)))], [], (197, i', zRF b, l)) ∧ (∀ t, t < S 0 0 → i' 76 t = nI (sEr S 0 t)) ∧ ∀ c t, c ≠ 76 → i' c t = i c t
  | 0, v, i, hv, hX, h0 => by
    have e : v = S 0 0 := by omega
    subst e
    refine ⟨i, ?_, h0, fun _ _ _ => rfl⟩
    rw [b3_2, hX.F, if_pos (Int32.le_refl _)]
  | n + 1, v, i, hv, hX, h0 => by
    have hF := hI.F
    obtain ⟨i', p1, p2, p3⟩ := c_xE0 sc hI b l n (v + 1) (zU i 76 v 0) (by omega) (hX.congr (fun c t z => zUn _ _ (Or.inl (by have := z.2.2.2; omega)))) (fun t ht => by
      by_cases e : t = v
      · rw [e, zUs]; rfl
      · rw [zUn _ _ (Or.inr e)]; exact h0 t (by omega))
    refine ⟨i', ?_, p2, fun c t h => by rw [p3 c t h, zUn _ _ (Or.inl h)]⟩
    rw [← p1, b3_2, hX.F, if_neg (zq_nle (by omega) (by omega)), b3_13 _ _ _ _ _ (vp_in_nI (by omega) (by decide)), nI_clamp (by omega), nI_1]
theorem c_xE1 (sc : zScr) {S : zS} (hI : Inv S) (b : Bool) (l : Nat → Nat → Int64) : ∀ (n f : Nat) (i : Nat → Nat → Int32), f + n = S 1 0 → XR S i → (∀ t, t < S 0 0 → i 76 t = nI (sEr S f t)) → ∃ i', zev sc (3, 28, [some (.ref 75), some (.int (nI f))], [], (197, i, zRF b, l)) = zev sc (3, 84, [some (.ref 75), some (.int (nI (S 1 0)))], [], (197, i', zRF b, l)) ∧ (∀ t, t < S 0 0 → i' 76 t = nI (sEr S (S 1 0) t)) ∧ ∀ c t, c ≠ 76 → i' c t = i c t
  | 0, f, i, hf, hX, h0 => by
    have e : f = S 1 0 := by omega
    subst e
    refine ⟨i, ?_, h0, fun _ _ _ => rfl⟩
    rw [b3_28, hX.E, if_pos (Int32.le_refl _)]
  | n + 1, f, i, hf, hX, h0 => by
    have hE := hI.E
    have hF := hI.F
    have hff : f < S 1 0 := by omega
    obtain ⟨hl, hr, hlr⟩ := hI.lr f hff
    have hcf : (nI f).toNatClampNeg = f := nI_clamp (by omega)
    have hh : zev sc (3, 28, [some (.ref 75), some (.int (nI f))], [], (197, i, zRF b, l)) = if nI (sStr S f) = 0 then zev sc (3, 78, [some (.ref 75), some (.int (nI f))], [], (197, i, zRF b, l)) else zev sc (3, 50, [some (.ref 75), some (.int (nI f))], [], (197, i, zRF b, l)) := by
      rw [b3_28, hX.E, if_neg (zq_nle (by omega) (by omega)), b3_39, c_xStr sc hI hff i hX, Option.bind_some]
      dsimp only
      rw [b3_47]
    rcases sStr_01 S f with q | q
    · obtain ⟨i', p1, p2, p3⟩ := c_xE1 sc hI b l n (f + 1) i (by omega) hX (fun t ht => by rw [h0 t ht, show sEr S (f + 1) t = sEr S f t from if_neg (by omega)])
      refine ⟨i', ?_, p2, p3⟩
      rw [hh, q, if_pos (show nI 0 = 0 from rfl), ← p1, b3_78, nI_1]
    · have e1 : i 76 (S 4 f) ||| ((1 : Int32) <<< (nI (S 5 f) &&& 31)) = nI (sEr S f (S 4 f) ||| 2 ^ S 5 f) := by rw [h0 _ hl, zsh1 (by omega), fa_or]
      have hne : ∀ c t, c ≠ 76 → zU i 76 (S 4 f) (nI (sEr S f (S 4 f) ||| 2 ^ S 5 f)) c t = i c t := fun c t h => zUn _ _ (Or.inl h)
      obtain ⟨i', p1, p2, p3⟩ := c_xE1 sc hI b l n (f + 1) (zU i 76 (S 4 f) (nI (sEr S f (S 4 f) ||| 2 ^ S 5 f))) (by omega) (hX.congr (fun c t z => hne c t (by have := z.2.2.2; omega))) (fun t ht => by
        show _ = nI (if sStr S f = 1 then (if t = S 4 f then sEr S f t ||| 2 ^ S 5 f else sEr S f t) else sEr S f t)
        rw [if_pos q]
        by_cases q4 : t = S 4 f
        · rw [if_pos q4, q4, zUs]
        · rw [zUn _ _ (Or.inr q4), if_neg q4, h0 t ht])
      refine ⟨i', ?_, p2, fun c t h => by rw [p3 c t h, hne c t h]⟩
      rw [hh, q, if_neg (show ¬ nI 1 = 0 by decide), ← p1, b3_50 _ _ _ _ _ (vp_in_nI (by omega) (by decide)) (by rw [hcf, hX.l hff]; exact vp_in_nI (by omega) (by decide)), hcf, hX.l hff, hX.r hff, nI_clamp (n := S 4 f) (by omega), e1, b3_78, nI_1]
