/-! herd: the class's table; the walk; herd -/
theorem c_xMw (sc : zScr) {S : zS} {k x t w : Nat} (hI : Inv S) (hk : k < S 3 0) (hx : x < S 0 0) (ht : t < 2 ^ S 0 0) (i : Nat → Nat → Int32) (hX : XR S i) (h77 : i 77 x = nI (sFif S x)) (h78 : i 78 (t ||| 2 ^ x) = nI w) (b : Bool) (l : Nat → Nat → Int64) : zev sc (12, 0, [some (.ref 75), some (.int (nI k)), some (.int (nI x)), some (.int (nI t))], [], (197, i, zRF b, l)) = some (.int (nI (w + sMi S k x)), (197, i, zRF b, l)) := by
  have hF := hI.F
  have hB := hI.B
  have hK := hI.K
  have hA := z2p hF.2
  have ho := zor2 ht hx
  have hko := hI.ko k hk
  have e1 : nI t ||| ((1 : Int32) <<< (nI x &&& 31)) = nI (t ||| 2 ^ x) := by rw [zsh1 (by omega), fa_or]
  have c1 : (nI k).toNatClampNeg = k := nI_clamp (by omega)
  have c2 : (nI x).toNatClampNeg = x := nI_clamp (by omega)
  have c3 : (nI (t ||| 2 ^ x)).toNatClampNeg = t ||| 2 ^ x := nI_clamp (by omega)
  have c4 : (nI (S 8 k)).toNatClampNeg = S 8 k := nI_clamp (by omega)
  have g1 : vp_in (nI k) 6 := vp_in_nI (by omega) (by decide)
  have g2 : vp_in (i 9 (nI k).toNatClampNeg) 4 := by
    rw [c1, hX.ko hk]
    exact vp_in_nI (by omega) (by decide)
  have g3 : vp_in (nI x) 8 := vp_in_nI (by omega) (by decide)
  have g4 : vp_in (nI t ||| ((1 : Int32) <<< (nI x &&& 31))) 256 := by
    rw [e1]
    exact vp_in_nI (by omega) (by decide)
  have es : nI (S 7 (S 8 k)) * nI (sFif S x) + nI w = nI (w + sMi S k x) := by
    rw [zmul, nI_add, Nat.add_comm w]
    rfl
  rw [b12_0 _ _ _ _ _ _ _ g1 g2 g3 g4, e1, c1, c2, c3, hX.ko hk, c4, hX.m hko, h77, h78, es]
theorem c_xHx (sc : zScr) {S : zS} {t : Nat} (hI : Inv S) (ht : t < 2 ^ S 0 0) (hz : zpc t < S 3 0) (b : Bool) (l : Nat → Nat → Int64) : ∀ (n x : Nat) (i : Nat → Nat → Int32), x + n = S 0 0 → XR S i → (∀ x, x < S 0 0 → i 77 x = nI (sFif S x)) → (∀ u, t < u → u < 2 ^ S 0 0 → i 78 u = nI (sHw S (S 3 0 - zpc u) u)) → i 78 t = nI (zmx (sHp S (zpc t) t (sHw S (S 3 0 - (zpc t + 1)))) x) → ∃ i' w', zev sc (11, 63, [some (.ref 75), some (.int (nI t)), some (.int (nI (zpc t))), some (.int (nI x))], [], (197, i, zRF b, l)) = zev sc (11, 121, [some (.ref 75), some (.int (nI t)), some (.int (nI (zpc t))), some (.int w')], [], (197, i', zRF b, l)) ∧ i' 78 t = nI (zmx (sHp S (zpc t) t (sHw S (S 3 0 - (zpc t + 1)))) (S 0 0)) ∧ ∀ c j, (c ≠ 78 ∨ j ≠ t) → i' c j = i c j
  | 0, x, i, hx, hX, h77, h78, h0 => by
    have e : x = S 0 0 := by omega
    subst e
    refine ⟨i, nI (S 0 0), ?_, h0, fun _ _ _ => rfl⟩
    rw [b11_63, hX.F, if_pos (Int32.le_refl _)]
  | n + 1, x, i, hx, hX, h77, h78, h0 => by
    have hF := hI.F
    have hB := hI.B
    have hA := z2p hF.2
    have hmx : ∀ n, zmx (sHp S (zpc t) t (sHw S (S 3 0 - (zpc t + 1)))) n ≤ 576 * (S 3 0 - (zpc t + 1)) + 576 := zmx_le (sHp_le hI hz (fun u => sHw_le hI _ u (by omega)))
    have hm1 := hmx x
    have hp1 : sHp S (zpc t) t (sHw S (S 3 0 - (zpc t + 1))) x ≤ 576 * (S 3 0 - (zpc t + 1)) + 576 := sHp_le hI (t := t) hz (fun u => sHw_le hI (S 3 0 - (zpc t + 1)) u (by omega)) x
    have em : zmx (sHp S (zpc t) t (sHw S (S 3 0 - (zpc t + 1)))) (x + 1) = if zmx (sHp S (zpc t) t (sHw S (S 3 0 - (zpc t + 1)))) x < sHp S (zpc t) t (sHw S (S 3 0 - (zpc t + 1))) x then sHp S (zpc t) t (sHw S (S 3 0 - (zpc t + 1))) x else zmx (sHp S (zpc t) t (sHw S (S 3 0 - (zpc t + 1)))) x := rfl
    by_cases h : zbt t x = 0
    · obtain ⟨q1, q2⟩ := zpc_or t (by omega) x (by omega) h
      have ho := zor2 (S := S) ht (x := x) (by omega)
      have ep : sHp S (zpc t) t (sHw S (S 3 0 - (zpc t + 1))) x = sHw S (S 3 0 - (zpc t + 1)) (t ||| 2 ^ x) + sMi S (zpc t) x := if_pos h
      have g := c_xMw sc hI hz (show x < S 0 0 by omega) ht i hX (h77 x (by omega)) (by rw [h78 _ q2 ho, q1]) b l
      have hne : ∀ v c j, (c ≠ 78 ∨ j ≠ t) → zU i 78 t v c j = i c j := fun v c j h => zUn _ _ h
      have ev : (if nI (zmx (sHp S (zpc t) t (sHw S (S 3 0 - (zpc t + 1)))) x) < nI (sHp S (zpc t) t (sHw S (S 3 0 - (zpc t + 1))) x) then nI (sHp S (zpc t) t (sHw S (S 3 0 - (zpc t + 1))) x) else nI (zmx (sHp S (zpc t) t (sHw S (S 3 0 - (zpc t + 1)))) x)) = nI (zmx (sHp S (zpc t) t (sHw S (S 3 0 - (zpc t + 1)))) (x + 1)) := by
        rw [em, zifc (nI_ltI (by omega) (by omega)), apply_ite nI]
      obtain ⟨i', w', p1, p2, p3⟩ := c_xHx sc hI ht hz b l n (x + 1) (zU i 78 t (nI (zmx (sHp S (zpc t) t (sHw S (S 3 0 - (zpc t + 1)))) (x + 1)))) (by omega) (hX.congr (fun c j z => hne _ c j (Or.inl (by have := z.2.2.2; omega)))) (fun x hx => by rw [hne _ _ _ (Or.inl (by decide))]; exact h77 x hx) (fun u hu hu2 => by rw [hne _ _ _ (Or.inr (by omega))]; exact h78 u hu hu2) (by rw [zUs])
      refine ⟨i', w', ?_, p2, fun c j h => by rw [p3 c j h, hne _ c j h]⟩
      rw [← p1, b11_63, hX.F, if_neg (zq_nle (by omega) (by omega)), b11_74, hX.B, if_neg (zq_nle hz (by omega)), b11_85, zbit (by omega) (by omega), h, if_pos (show nI 0 = 0 from rfl), b11_93 _ _ _ _ _ _ _ (vp_in_nI (by omega) (by decide)), g, Option.bind_some]
      dsimp only
      rw [nI_clamp (by omega), h0, b11_111 _ _ _ _ _ _ _ _ _ _ (vp_in_nI (by omega) (by decide)), nI_clamp (by omega), ← ep, ev, b11_115, nI_1]
    · have ep : sHp S (zpc t) t (sHw S (S 3 0 - (zpc t + 1))) x = 0 := if_neg h
      obtain ⟨i', w', p1, p2, p3⟩ := c_xHx sc hI ht hz b l n (x + 1) i (by omega) hX h77 h78 (by rw [h0, em, ep, if_neg (Nat.not_lt_zero _)])
      refine ⟨i', w', ?_, p2, p3⟩
      rw [← p1, b11_63, hX.F, if_neg (zq_nle (by omega) (by omega)), b11_74, hX.B, if_neg (zq_nle hz (by omega)), b11_85, zbit (by omega) (by omega), (zbt_01 t x).resolve_left h, if_neg (show ¬ nI 1 = 0 by decide), b11_115, nI_1]
theorem c_xHt (sc : zScr) {S : zS} (hI : Inv S) (b : Bool) (l : Nat → Nat → Int64) : ∀ (t : Nat) (i : Nat → Nat → Int32) (w2 w3 : Option Value), t ≤ 2 ^ S 0 0 → XR S i → (∀ x, x < S 0 0 → i 77 x = nI (sFif S x)) → (∀ u, t ≤ u → u < 2 ^ S 0 0 → i 78 u = nI (sHw S (S 3 0 - zpc u) u)) → ∃ i', zev sc (11, 45, [some (.ref 75), some (.int (nI t - 1)), w2, w3], [], (197, i, zRF b, l)) = some (.null, (197, i', zRF b, l)) ∧ (∀ u, u < 2 ^ S 0 0 → i' 78 u = nI (sHw S (S 3 0 - zpc u) u)) ∧ ∀ c j, c ≠ 78 → i' c j = i c j
  | 0, i, w2, w3, ht, hX, h77, h78 => by
    refine ⟨i, ?_, fun u hu => h78 u (Nat.zero_le _) hu, fun _ _ _ => rfl⟩
    rw [show nI 0 - 1 = -1 by decide, b11_45, if_pos (by decide), b11_127]
  | t + 1, i, w2, w3, ht, hX, h77, h78 => by
    have hF := hI.F
    have hB := hI.B
    have hA := z2p hF.2
    have hzl := zpc_le t
    have hne : ∀ c j, (c ≠ 78 ∨ j ≠ t) → zU i 78 t 0 c j = i c j := fun c j h => zUn _ _ h
    have hX1 : XR S (zU i 78 t 0) := hX.congr (fun c j z => hne c j (Or.inl (by have := z.2.2.2; omega)))
    have key : ∃ i1 w', zev sc (11, 63, [some (.ref 75), some (.int (nI t)), some (.int (nI (zpc t))), some (.int 0)], [], (197, zU i 78 t 0, zRF b, l)) = zev sc (11, 121, [some (.ref 75), some (.int (nI t)), some (.int (nI (zpc t))), some (.int w')], [], (197, i1, zRF b, l)) ∧ i1 78 t = nI (sHw S (S 3 0 - zpc t) t) ∧ ∀ c j, (c ≠ 78 ∨ j ≠ t) → i1 c j = zU i 78 t 0 c j := by
      by_cases hz : zpc t < S 3 0
      · obtain ⟨i1, w', p1, p2, p3⟩ := c_xHx sc hI (by omega) hz b l (S 0 0) 0 (zU i 78 t 0) (by omega) hX1 (fun x hx => by rw [hne _ _ (Or.inl (by decide))]; exact h77 x hx) (fun u hu hu2 => by rw [hne _ _ (Or.inr (by omega))]; exact h78 u (by omega) hu2) (by rw [zUs]; rfl)
        refine ⟨i1, w', p1, ?_, p3⟩
        rw [p2, show S 3 0 - zpc t = S 3 0 - (zpc t + 1) + 1 by omega]
        show _ = nI (zmx (sHp S (S 3 0 - (S 3 0 - (zpc t + 1) + 1)) t (sHw S (S 3 0 - (zpc t + 1)))) (S 0 0))
        rw [show S 3 0 - (S 3 0 - (zpc t + 1) + 1) = zpc t by omega]
      · refine ⟨zU i 78 t 0, 0, ?_, ?_, fun _ _ _ => rfl⟩
        · rw [b11_63, hX1.F, if_neg (show ¬ nI (S 0 0) ≤ 0 from zq_nle (b := 0) (by omega) (by omega)), b11_74, hX1.B, if_pos ((nI_leI (by omega) (by omega)).mpr (by omega))]
        · rw [zUs, show S 3 0 - zpc t = 0 by omega]
          rfl
    obtain ⟨i1, w', p1, p2, p3⟩ := key
    have hq : ∀ c j, (c ≠ 78 ∨ j ≠ t) → i1 c j = i c j := fun c j h => by rw [p3 c j h, hne c j h]
    obtain ⟨i', q1, q2, q3⟩ := c_xHt sc hI b l t i1 (some (.int (nI (zpc t)))) (some (.int w')) (by omega) (hX.congr (fun c j z => hq c j (Or.inl (by have := z.2.2.2; omega)))) (fun x hx => by rw [hq _ _ (Or.inl (by decide))]; exact h77 x hx) (fun u hu hu2 => by
      by_cases e : u = t
      · rw [e]; exact p2
      · rw [hq _ _ (Or.inr e)]; exact h78 u (by omega) hu2)
    refine ⟨i', ?_, q2, fun c j h => by rw [q3 c j h, hq c j (Or.inl h)]⟩
    rw [← q1, nI_pred, b11_45, if_neg (nI_pos (by omega)), b11_49, c_bitCount sc (by omega), Option.bind_some]
    dsimp only
    rw [b11_53 _ _ _ _ _ _ _ _ (vp_in_nI (by omega) (by decide)), nI_clamp (by omega), p1, b11_121, Lm1, ← L1]
theorem c_xH0 (sc : zScr) {S : zS} (hI : Inv S) (b : Bool) (l : Nat → Nat → Int64) : ∀ (n x : Nat) (i : Nat → Nat → Int32), x + n = S 0 0 → XR S i → (∀ u, u < x → i 77 u = nI (sFif S u)) → ∃ i', zev sc (11, 2, [some (.ref 75), some (.int (nI x)), none, none], [], (197, i, zRF b, l)) = zev sc (11, 33, [some (.ref 75), some (.int (nI (S 0 0))), none, none], [], (197, i', zRF b, l)) ∧ (∀ u, u < S 0 0 → i' 77 u = nI (sFif S u)) ∧ ∀ c j, c ≠ 77 → i' c j = i c j
  | 0, x, i, hx, hX, h0 => by
    have e : x = S 0 0 := by omega
    subst e
    refine ⟨i, ?_, h0, fun _ _ _ => rfl⟩
    rw [b11_2, hX.F, if_pos (Int32.le_refl _)]
  | n + 1, x, i, hx, hX, h0 => by
    have hF := hI.F
    have hne : ∀ c j, (c ≠ 77 ∨ j ≠ x) → zU i 77 x (nI (sFif S x)) c j = i c j := fun c j h => zUn _ _ h
    obtain ⟨i', p1, p2, p3⟩ := c_xH0 sc hI b l n (x + 1) (zU i 77 x (nI (sFif S x))) (by omega) (hX.congr (fun c j z => hne c j (Or.inl (by have := z.2.2.2; omega)))) (fun u hu => by
      by_cases e : u = x
      · rw [e, zUs]
      · rw [hne _ _ (Or.inr e)]; exact h0 u (by omega))
    refine ⟨i', ?_, p2, fun c j h => by rw [p3 c j h, hne c j (Or.inl h)]⟩
    rw [← p1, b11_2, hX.F, if_neg (zq_nle (by omega) (by omega)), b11_13, c_xFif sc hI (by omega) i hX, Option.bind_some]
    dsimp only
    rw [b11_26 _ _ _ _ _ _ _ (vp_in_nI (by omega) (by decide)), nI_clamp (by omega), nI_1]
theorem c_xMeas (sc : zScr) {S : zS} (hI : Inv S) (b : Bool) (l : Nat → Nat → Int64) (i : Nat → Nat → Int32) (hX : XR S i) : ∃ i', zev sc (11, 0, [some (.ref 75), none, none, none], [], (197, i, zRF b, l)) = some (.null, (197, i', zRF b, l)) ∧ (∀ x, x < S 0 0 → i' 77 x = nI (sFif S x)) ∧ (∀ u, u < 2 ^ S 0 0 → i' 78 u = nI (sHw S (S 3 0 - zpc u) u)) ∧ ∀ c j, (c ≠ 77 ∧ c ≠ 78) → i' c j = i c j := by
  have hF := hI.F
  obtain ⟨i1, p1, p2, p3⟩ := c_xH0 sc hI b l (S 0 0) 0 i (by omega) hX (fun u hu => absurd hu (Nat.not_lt_zero _))
  have hX1 : XR S i1 := hX.congr (fun c j z => p3 c j (by have := z.2.2.2; omega))
  obtain ⟨i', q1, q2, q3⟩ := c_xHt sc hI b l (2 ^ S 0 0) i1 none none (Nat.le_refl _) hX1 p2 (fun u hu hu2 => absurd hu2 (by omega))
  refine ⟨i', ?_, fun x hx => by rw [q3 _ _ (by decide)]; exact p2 x hx, q2, fun c j h => by rw [q3 c j h.2, p3 c j h.1]⟩
  rw [show nI 0 = 0 from rfl] at p1
  rw [b11_0, p1, b11_33, hX1.F, zsh1 (by omega), q1]
/-- the first that is so -/
def zff (P : Nat → Prop) [DecidablePred P] : Nat → Nat → Nat
  | 0, v => v
  | n + 1, v => if P v then v else zff P n (v + 1)
theorem zff_at {P : Nat → Prop} [DecidablePred P] : ∀ n v, (∃ y, v ≤ y ∧ y < v + n ∧ P y) → (v ≤ zff P n v ∧ zff P n v < v + n) ∧ P (zff P n v) ∧ ∀ x, v ≤ x → x < zff P n v → ¬ P x
  | 0, v, h => by
    obtain ⟨y, h1, h2, -⟩ := h
    omega
  | n + 1, v, h => by
    unfold zff
    by_cases hp : P v
    · rw [if_pos hp]
      exact ⟨by omega, hp, fun x h1 h2 => by omega⟩
    · rw [if_neg hp]
      obtain ⟨y, h1, h2, h3⟩ := h
      have hy : y ≠ v := fun e => hp (by rw [← e]; exact h3)
      obtain ⟨g1, g2, g3⟩ := zff_at (P := P) n (v + 1) ⟨y, by omega, by omega, h3⟩
      refine ⟨by omega, g2, fun x q1 q2 => ?_⟩
      by_cases e : x = v
      · rw [e]; exact hp
      · exact g3 x (by omega) q2
abbrev sHq (S : zS) (k t x : Nat) : Prop := zbt t x = 0 ∧ sHp S k t (sHw S (S 3 0 - (k + 1))) x = zmx (sHp S k t (sHw S (S 3 0 - (k + 1)))) (S 0 0)
def sHk (S : zS) (k t : Nat) : Nat := zff (sHq S k t) (S 0 0) 0
def sHt (S : zS) : Nat → Nat
  | 0 => 0
  | k + 1 => sHt S k ||| 2 ^ sHk S k (sHt S k)
theorem zmx_at {S : zS} {k t : Nat} {w : Nat → Nat} : ∀ n, zsum (zbt t) n < n → ∃ x, x < n ∧ zbt t x = 0 ∧ sHp S k t w x = zmx (sHp S k t w) n
  | 0, h => absurd h (Nat.not_lt_zero _)
  | n + 1, h => by
    have h1 := zbt_sum_le t n
    have h3 : zsum (zbt t) (n + 1) = zsum (zbt t) n + zbt t n := rfl
    have em : zmx (sHp S k t w) (n + 1) = if zmx (sHp S k t w) n < sHp S k t w n then sHp S k t w n else zmx (sHp S k t w) n := rfl
    rw [em]
    rcases zbt_01 t n with h0 | h0
    · by_cases h4 : zmx (sHp S k t w) n < sHp S k t w n
      · exact ⟨n, by omega, h0, (if_pos h4).symm⟩
      · rw [if_neg h4]
        by_cases h5 : zsum (zbt t) n < n
        · obtain ⟨x, g1, g2, g3⟩ := zmx_at (S := S) (k := k) (w := w) n h5
          exact ⟨x, by omega, g2, g3⟩
        · have := zmx_taken (S := S) (k := k) (t := t) (w := w) n (by omega)
          exact ⟨n, by omega, h0, by omega⟩
    · have h4 : sHp S k t w n = 0 := if_neg (by omega)
      obtain ⟨x, g1, g2, g3⟩ := zmx_at (S := S) (k := k) (t := t) (w := w) n (by omega)
      exact ⟨x, by omega, g2, by rw [h4, if_neg (Nat.not_lt_zero _)]; exact g3⟩
theorem sHk_at {S : zS} (hI : Inv S) {k t : Nat} (ht : t < 2 ^ S 0 0) (hz : zpc t < S 0 0) : sHk S k t < S 0 0 ∧ sHq S k t (sHk S k t) ∧ ∀ x, x < sHk S k t → ¬ sHq S k t x := by
  have hF := hI.F
  have hp := zpc_F hF.2 ht
  obtain ⟨x, h1, h2, h3⟩ := zmx_at (S := S) (k := k) (t := t) (w := sHw S (S 3 0 - (k + 1))) (S 0 0) (by omega)
  obtain ⟨g1, g2, g3⟩ := zff_at (P := sHq S k t) (S 0 0) 0 ⟨x, Nat.zero_le _, by omega, h2, h3⟩
  exact ⟨by unfold sHk; omega, g2, fun x hx => g3 x (Nat.zero_le _) hx⟩
theorem sHt_at {S : zS} (hI : Inv S) : ∀ k, k ≤ S 0 0 → sHt S k < 2 ^ S 0 0 ∧ zpc (sHt S k) = k
  | 0, _ => ⟨Nat.lt_of_lt_of_le Nat.zero_lt_one Nat.one_le_two_pow, (by decide : zpc 0 = 0)⟩
  | k + 1, h => by
    have hF := hI.F
    have hA := z2p hF.2
    obtain ⟨h1, h2⟩ := sHt_at hI k (by omega)
    obtain ⟨g1, g2, -⟩ := sHk_at hI (k := k) h1 (by omega)
    refine ⟨zor2 h1 g1, ?_⟩
    show zpc (sHt S k ||| 2 ^ sHk S k (sHt S k)) = k + 1
    rw [(zpc_or _ (by omega) _ (by omega) g2.1).1, h2]
/-- what one step leaves: the best of a taken set -/
theorem sHw_top {S : zS} {k t : Nat} (hk : k < S 3 0) : sHw S (S 3 0 - k) t = zmx (sHp S k t (sHw S (S 3 0 - (k + 1)))) (S 0 0) := by
  rw [show S 3 0 - k = S 3 0 - (k + 1) + 1 by omega]
  show zmx (sHp S (S 3 0 - (S 3 0 - (k + 1) + 1)) t (sHw S (S 3 0 - (k + 1)))) (S 0 0) = _
  rw [show S 3 0 - (S 3 0 - (k + 1) + 1) = k by omega]
theorem c_xBf (sc : zScr) {S : zS} {k t : Nat} (hI : Inv S) (hk : k < S 3 0) (ht : t < 2 ^ S 0 0) (hz : zpc t = k) (hkF : k < S 0 0) (i : Nat → Nat → Int32) (hX : XR S i) (h77 : ∀ x, x < S 0 0 → i 77 x = nI (sFif S x)) (h78 : ∀ u, u < 2 ^ S 0 0 → i 78 u = nI (sHw S (S 3 0 - zpc u) u)) (b : Bool) (l : Nat → Nat → Int64) : ∀ (n v : Nat), v + n = sHk S k t → zev sc (10, 2, [some (.ref 75), some (.int (nI k)), some (.int (nI t)), some (.int (nI v))], [], (197, i, zRF b, l)) = some (.int (nI (sHk S k t)), (197, i, zRF b, l)) := by
  have hF := hI.F
  have hB := hI.B
  have hA := z2p hF.2
  obtain ⟨g1, g2, g3⟩ := sHk_at hI (k := k) ht (by omega)
  have hmx : ∀ n, zmx (sHp S k t (sHw S (S 3 0 - (k + 1)))) n ≤ 576 * (S 3 0 - (k + 1)) + 576 := zmx_le (sHp_le hI hk (fun t => sHw_le hI _ t (by omega)))
  have hm1 := hmx (S 0 0)
  have step : ∀ v, v < S 0 0 → (sHq S k t v → zev sc (10, 2, [some (.ref 75), some (.int (nI k)), some (.int (nI t)), some (.int (nI v))], [], (197, i, zRF b, l)) = some (.int (nI v), (197, i, zRF b, l))) ∧ (¬ sHq S k t v → zev sc (10, 2, [some (.ref 75), some (.int (nI k)), some (.int (nI t)), some (.int (nI v))], [], (197, i, zRF b, l)) = zev sc (10, 2, [some (.ref 75), some (.int (nI k)), some (.int (nI t)), some (.int (nI (v + 1)))], [], (197, i, zRF b, l))) := by
    intro v hv
    rw [b10_2, hX.F, if_neg (zq_nle hv (by omega)), b10_13, zbit (by omega) (by omega)]
    by_cases h : zbt t v = 0
    · obtain ⟨q1, q2⟩ := zpc_or t (by omega) v (by omega) h
      have ho := zor2 (S := S) ht hv
      have hp1 : sHp S k t (sHw S (S 3 0 - (k + 1))) v ≤ 576 * (S 3 0 - (k + 1)) + 576 := sHp_le hI (t := t) hk (fun u => sHw_le hI (S 3 0 - (k + 1)) u (by omega)) v
      have ep : sHp S k t (sHw S (S 3 0 - (k + 1))) v = sHw S (S 3 0 - (k + 1)) (t ||| 2 ^ v) + sMi S k v := if_pos h
      have g := c_xMw sc hI hk hv ht i hX (h77 v hv) (by rw [h78 _ ho, q1, hz]) b l
      rw [show nI (zbt t v) = 0 by rw [h]; rfl, if_pos rfl, b10_21, g, Option.bind_some]
      dsimp only
      rw [b10_28 _ _ _ _ _ _ _ _ (vp_in_nI (by omega) (by decide)), nI_clamp (by omega), h78 t ht, hz, sHw_top hk, ← ep]
      refine ⟨fun e => ?_, fun e => ?_⟩
      · rw [if_pos (by rw [e.2]), b10_37]
      · rw [if_neg (fun z => e ⟨h, (nI_eq (by omega) (by omega)).mp z⟩), b10_39, nI_1]
    · rw [show nI (zbt t v) = 1 by rw [(zbt_01 t v).resolve_left h]; rfl, if_neg (by decide), b10_39, nI_1]
      exact ⟨fun e => absurd e.1 h, fun _ => rfl⟩
  intro n
  induction n with
  | zero =>
    intro v hv
    have e : v = sHk S k t := by omega
    subst e
    exact (step _ g1).1 g2
  | succ n ih =>
    intro v hv
    rw [(step v (by omega)).2 (g3 v (by omega)), ih (v + 1) (by omega)]
theorem c_xFih (sc : zScr) {S : zS} {bq : Nat} (hI : Inv S) (hb : bq < S 3 0) (hBF : S 3 0 ≤ S 0 0) (i : Nat → Nat → Int32) (hX : XR S i) (h77 : ∀ x, x < S 0 0 → i 77 x = nI (sFif S x)) (h78 : ∀ u, u < 2 ^ S 0 0 → i 78 u = nI (sHw S (S 3 0 - zpc u) u)) (b : Bool) (l : Nat → Nat → Int64) : ∀ (n k : Nat) (v : Int32), k + n = bq → zev sc (9, 12, [some (.ref 75), some (.int (nI bq)), some (.int (nI (sHt S k))), some (.int v), some (.int (nI k))], [], (197, i, zRF b, l)) = some (.int (nI (sHk S bq (sHt S bq))), (197, i, zRF b, l)) := by
  have hF := hI.F
  have hB := hI.B
  have hA := z2p hF.2
  have step : ∀ k v, k ≤ bq → zev sc (9, 12, [some (.ref 75), some (.int (nI bq)), some (.int (nI (sHt S k))), some (.int v), some (.int (nI k))], [], (197, i, zRF b, l)) = zev sc (9, 12, [some (.ref 75), some (.int (nI bq)), some (.int (nI (sHt S (k + 1)))), some (.int (nI (sHk S k (sHt S k)))), some (.int (nI (k + 1)))], [], (197, i, zRF b, l)) := by
    intro k v hk
    obtain ⟨h1, h2⟩ := sHt_at hI k (by omega)
    obtain ⟨g1, g2, -⟩ := sHk_at hI (k := k) h1 (by omega)
    have g := c_xBf sc hI (k := k) (by omega) h1 h2 (by omega) i hX h77 h78 b l (sHk S k (sHt S k)) 0 (by omega)
    rw [show nI 0 = 0 from rfl] at g
    rw [b9_12, if_neg (nI_nlt (by omega) (by omega)), b9_18, b10_0, g, Option.bind_some]
    dsimp only
    rw [b9_25, if_neg (nI_ne9 (by omega)), b9_35, zsh1 (by omega), fa_or, nI_1]
    rfl
  intro n
  induction n with
  | zero =>
    intro k v hk
    have e : k = bq := by omega
    subst e
    rw [step k v (Nat.le_refl _), b9_12, if_pos ((nI_ltI (by omega) (by omega)).mpr (by omega)), b9_47]
  | succ n ih =>
    intro k v hk
    rw [step k v (by omega), ih (k + 1) _ (by omega)]
theorem c_mWl (sc : zScr) {S : zS} {k t : Nat} (hI : Inv S) (hk : k < S 3 0) (ht : t < 2 ^ S 0 0) (hz : zpc t = k) (hBF : S 3 0 ≤ S 0 0) (v1 : Int32) (w5 w6 : Option Value) (i : Nat → Nat → Int32) (hM : MR S i) (hT : ∀ q, q ≤ S 3 0 → ∀ t, t < 2 ^ S 0 0 → i 196 (256 * q + t) = sHm S (S 3 0 - q) t) (b : Bool) (l : Nat → Nat → Int64) : ∀ (n v : Nat), v + n = sHk S k t → zev sc (175, 197, [some (.ref 173), some (.int v1), some (.int (nI t)), some (.int (nI v)), some (.int (nI k)), w5, w6], [], (197, i, zRF b, l)) = zev sc (175, 227, [some (.ref 173), some (.int v1), some (.int (nI t)), some (.int (nI (sHk S k t))), some (.int (nI k)), w5, w6], [], (197, i, zRF b, l)) := by
  have hF := hI.F
  have hB := hI.B
  have hA := z2p hF.2
  obtain ⟨g1, g2, g3⟩ := sHk_at hI (k := k) ht (by omega)
  have hmx : ∀ n, zmx (sHp S k t (sHw S (S 3 0 - (k + 1)))) n ≤ 576 * (S 3 0 - (k + 1)) + 576 := zmx_le (sHp_le hI hk (fun t => sHw_le hI _ t (by omega)))
  have hm1 := hmx (S 0 0)
  have e1 : (256 : Int32) * nI k + nI t = nI (256 * k + t) := by rw [L256, zmul, nI_add]
  have step : ∀ v, v < S 0 0 → (sHq S k t v → zev sc (175, 197, [some (.ref 173), some (.int v1), some (.int (nI t)), some (.int (nI v)), some (.int (nI k)), w5, w6], [], (197, i, zRF b, l)) = zev sc (175, 227, [some (.ref 173), some (.int v1), some (.int (nI t)), some (.int (nI v)), some (.int (nI k)), w5, w6], [], (197, i, zRF b, l))) ∧ (¬ sHq S k t v → zev sc (175, 197, [some (.ref 173), some (.int v1), some (.int (nI t)), some (.int (nI v)), some (.int (nI k)), w5, w6], [], (197, i, zRF b, l)) = zev sc (175, 197, [some (.ref 173), some (.int v1), some (.int (nI t)), some (.int (nI (v + 1))), some (.int (nI k)), w5, w6], [], (197, i, zRF b, l))) := by
    intro v hv
    rw [b175_197, c_mMb sc hI hk hv ht i hM (hT (k + 1) (by omega)), Option.bind_some]
    dsimp only
    rw [b175_205 _ _ _ _ _ _ _ _ _ _ _ (by rw [e1]; exact vp_in_nI (by omega) (by decide)), e1, nI_clamp (by omega), hT k (by omega) t ht, show sHm S (S 3 0 - k) t = nI (sHw S (S 3 0 - k) t) from if_pos (by omega), sHw_top hk]
    by_cases h : zbt t v = 0
    · have hp1 : sHp S k t (sHw S (S 3 0 - (k + 1))) v ≤ 576 * (S 3 0 - (k + 1)) + 576 := sHp_le hI (t := t) hk (fun u => sHw_le hI (S 3 0 - (k + 1)) u (by omega)) v
      have ep : sHp S k t (sHw S (S 3 0 - (k + 1))) v = sHw S (S 3 0 - (k + 1)) (t ||| 2 ^ v) + sMi S k v := if_pos h
      rw [show sHv S k v t = nI (sHw S (S 3 0 - (k + 1)) (t ||| 2 ^ v) + sMi S k v) from if_pos ⟨h, by omega⟩, ← ep]
      refine ⟨fun e => ?_, fun e => ?_⟩
      · rw [if_pos (by rw [e.2])]
      · rw [if_neg (fun z => e ⟨h, (nI_eq (by omega) (by omega)).mp z⟩), b175_221, nI_1]
    · rw [show sHv S k v t = -9 from if_neg (fun z => h z.1), if_neg (fun z => nI_ne9 (by omega) z.symm), b175_221, nI_1]
      exact ⟨fun e => absurd e.1 h, fun _ => rfl⟩
  intro n
  induction n with
  | zero =>
    intro v hv
    have e : v = sHk S k t := by omega
    subst e
    exact (step _ g1).1 g2
  | succ n ih =>
    intro v hv
    rw [(step v (by omega)).2 (g3 v (by omega)), ih (v + 1) (by omega)]
theorem c_mFih (sc : zScr) {S : zS} {bq : Nat} (hI : Inv S) (hb : bq < S 3 0) (hBF : S 3 0 ≤ S 0 0) (w5 w6 : Option Value) (i : Nat → Nat → Int32) (hM : MR S i) (hT : ∀ q, q ≤ S 3 0 → ∀ t, t < 2 ^ S 0 0 → i 196 (256 * q + t) = sHm S (S 3 0 - q) t) (b : Bool) (l : Nat → Nat → Int64) : ∀ (n k : Nat) (v : Int32), k + n = bq → zev sc (175, 189, [some (.ref 173), some (.int (nI bq)), some (.int (nI (sHt S k))), some (.int v), some (.int (nI k)), w5, w6], [], (197, i, zRF b, l)) = some (.int (nI (sHk S bq (sHt S bq))), (197, i, zRF b, l)) := by
  have hF := hI.F
  have hB := hI.B
  have hA := z2p hF.2
  have step : ∀ k v, k ≤ bq → zev sc (175, 189, [some (.ref 173), some (.int (nI bq)), some (.int (nI (sHt S k))), some (.int v), some (.int (nI k)), w5, w6], [], (197, i, zRF b, l)) = zev sc (175, 189, [some (.ref 173), some (.int (nI bq)), some (.int (nI (sHt S (k + 1)))), some (.int (nI (sHk S k (sHt S k)))), some (.int (nI (k + 1))), w5, w6], [], (197, i, zRF b, l)) := by
    intro k v hk
    obtain ⟨h1, h2⟩ := sHt_at hI k (by omega)
    obtain ⟨g1, g2, -⟩ := sHk_at hI (k := k) h1 (by omega)
    have g := c_mWl sc hI (k := k) (by omega) h1 h2 hBF (nI bq) w5 w6 i hM hT b l (sHk S k (sHt S k)) 0 (by omega)
    rw [show nI 0 = 0 from rfl] at g
    rw [b175_189, if_neg (nI_nlt (by omega) (by omega)), b175_195, g, b175_227, zsh1 (by omega), fa_or, nI_1]
    rfl
  intro n
  induction n with
  | zero =>
    intro k v hk
    have e : k = bq := by omega
    subst e
    rw [step k v (Nat.le_refl _), b175_189, if_pos ((nI_ltI (by omega) (by omega)).mpr (by omega)), b175_239]
  | succ n ih =>
    intro k v hk
    rw [step k v (by omega), ih (k + 1) _ (by omega)]
