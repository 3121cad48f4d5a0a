/-! herd: the best of the fields that are left -/
def sMi (S : zS) (k x : Nat) : Nat := S 7 (S 8 k) * sFif S x
def sHp (S : zS) (k t : Nat) (w : Nat → Nat) (x : Nat) : Nat := if zbt t x = 0 then w (t ||| 2 ^ x) + sMi S k x else 0
def sHw (S : zS) : Nat → Nat → Nat
  | 0, _ => 0
  | d + 1, t => zmx (sHp S (S 3 0 - (d + 1)) t (sHw S d)) (S 0 0)
theorem zpc_or : ∀ t, t < 256 → ∀ x, x < 8 → zbt t x = 0 → zpc (t ||| 2 ^ x) = zpc t + 1 ∧ t < t ||| 2 ^ x := by decide +kernel
theorem zbt_hi {t n : Nat} (h : t < 2 ^ n) {j : Nat} (hj : n ≤ j) : zbt t j = 0 := by
  unfold zbt
  rw [Nat.div_eq_of_lt (Nat.lt_of_lt_of_le h (Nat.pow_le_pow_right (by decide) hj))]
theorem zpc_F {t n : Nat} (hn : n ≤ 8) (h : t < 2 ^ n) : zpc t = zsum (zbt t) n := by
  have := zsum_ext (p := zbt t) (n := n) (fun j hj => zbt_hi h hj) (8 - n)
  rw [show n + (8 - n) = 8 by omega] at this
  exact this
theorem zbt_sum_le (t : Nat) : ∀ n, zsum (zbt t) n ≤ n := zsum_le (fun j => by have := zbt_01 t j; omega)
theorem zsum_leT {p : Nat → Nat} {c : Nat} : ∀ {n : Nat}, (∀ j, j < n → p j ≤ c) → zsum p n ≤ c * n
  | 0, _ => Nat.zero_le _
  | n + 1, h => by
    have h1 := zsum_leT (p := p) (c := c) (n := n) (fun j hj => h j (by omega))
    have h2 := h n (by omega)
    show zsum p n + p n ≤ c * (n + 1)
    rw [Nat.mul_succ]
    omega
theorem sFif_le {S : zS} (hI : Inv S) (x : Nat) : sFif S x ≤ 64 := by
  have hE := hI.E
  have h := zsum_leT (p := fun f => zsum (sFi S x f) f) (c := 8) (n := S 1 0) (fun f hf => by
    have : zsum (sFi S x f) f ≤ f := zsum_le (fun j => by unfold sFi; split <;> omega) f
    omega)
  unfold sFif
  omega
theorem sMi_le {S : zS} (hI : Inv S) {k : Nat} (hk : k < S 3 0) (x : Nat) : sMi S k x ≤ 576 := by
  have h1 := sFif_le hI x
  have h2 := (hI.vm _ (hI.ko k hk)).2
  have := Nat.mul_le_mul h2 h1
  exact this
theorem sHp_le {S : zS} (hI : Inv S) {k t c : Nat} {w : Nat → Nat} (hk : k < S 3 0) (hw : ∀ t, w t ≤ c) (x : Nat) : sHp S k t w x ≤ c + 576 := by
  have h1 := sMi_le hI hk x
  have h2 := hw (t ||| 2 ^ x)
  unfold sHp
  split <;> omega
theorem sHw_le {S : zS} (hI : Inv S) : ∀ d t, d ≤ S 3 0 → sHw S d t ≤ 576 * d
  | 0, t, _ => Nat.le_refl 0
  | d + 1, t, h => by
    have := zmx_le (p := sHp S (S 3 0 - (d + 1)) t (sHw S d)) (c := 576 * d + 576) (sHp_le hI (by omega) (fun t => sHw_le hI d t (by omega))) (S 0 0)
    exact this
/-- what the model keeps: none where the fields don't go round -/
def sHm (S : zS) (d t : Nat) : Int32 := if d + zpc t ≤ S 0 0 then nI (sHw S d t) else -9
def sHv (S : zS) (k x t : Nat) : Int32 := if zbt t x = 0 ∧ S 3 0 - (k + 1) + zpc t + 1 ≤ S 0 0 then nI (sHw S (S 3 0 - (k + 1)) (t ||| 2 ^ x) + sMi S k x) else -9
theorem zor2 {S : zS} {t x : Nat} (ht : t < 2 ^ S 0 0) (hx : x < S 0 0) : t ||| 2 ^ x < 2 ^ S 0 0 := zor_lt ht (Nat.pow_lt_pow_right (by decide) hx)
theorem c_mMb (sc : zScr) {S : zS} {k x t : Nat} (hI : Inv S) (hk : k < S 3 0) (hx : x < S 0 0) (ht : t < 2 ^ S 0 0) (i : Nat → Nat → Int32) (hM : MR S i) (hT : ∀ t, t < 2 ^ S 0 0 → i 196 (256 * (k + 1) + t) = sHm S (S 3 0 - (k + 1)) t) (b : Bool) (l : Nat → Nat → Int64) : zev sc (174, 0, [some (.ref 173), some (.int (nI k)), some (.int (nI x)), some (.int (nI t)), none], [], (197, i, zRF b, l)) = some (.int (sHv S k x t), (197, i, zRF b, l)) := by
  have hF := hI.F
  have hB := hI.B
  have hK := hI.K
  have hA := z2p hF.2
  have ho := zor2 ht hx
  have hko := hI.ko k hk
  rw [b174_0, c_has sc (by omega) (by omega), Option.bind_some]
  dsimp only
  rw [b174_5]
  by_cases h0 : zbt t x = 0
  · have e1 : (256 : Int32) * (nI k + 1) + (nI t ||| ((1 : Int32) <<< (nI x &&& 31))) = nI (256 * (k + 1) + (t ||| 2 ^ x)) := by
      rw [zsh1 (by omega), fa_or, nI_1, L256, zmul, nI_add]
    obtain ⟨hp, -⟩ := zpc_or t (by omega) x (by omega) h0
    rw [h0, if_pos (show nI 0 = 0 from rfl), b174_13 _ _ _ _ _ _ _ (by rw [e1]; exact vp_in_nI (by omega) (by decide)), e1, nI_clamp (by omega), hT _ ho, b174_31]
    by_cases h1 : S 3 0 - (k + 1) + zpc t + 1 ≤ S 0 0
    · have hw := sHw_le hI (S 3 0 - (k + 1)) (t ||| 2 ^ x) (by omega)
      have em : sHm S (S 3 0 - (k + 1)) (t ||| 2 ^ x) = nI (sHw S (S 3 0 - (k + 1)) (t ||| 2 ^ x)) := if_pos (by omega)
      rw [em, if_neg (nI_ne9 (by omega)), b174_45 _ _ _ _ _ _ _ _ (vp_in_nI (by omega) (by decide)) (by rw [nI_clamp (by omega), hM.ko hk]; exact vp_in_nI (by omega) (by decide)), nI_clamp (by omega), hM.ko hk, nI_clamp (by omega), hM.m hko, c_mFif sc hI (by omega) i hM, Option.bind_some]
      dsimp only
      rw [b174_63, b174_65, zmul, nI_add, show sHv S k x t = nI (sHw S (S 3 0 - (k + 1)) (t ||| 2 ^ x) + sMi S k x) from if_pos ⟨h0, h1⟩]
      rfl
    · rw [show sHm S (S 3 0 - (k + 1)) (t ||| 2 ^ x) = -9 from if_neg (by omega), if_pos rfl, b174_40, b174_65, show sHv S k x t = -9 from if_neg (fun z => h1 z.2)]
  · rw [(zbt_01 t x).resolve_left h0, if_neg (show ¬ nI 1 = 0 by decide), b174_8, b174_31, if_pos rfl, b174_40, b174_65, show sHv S k x t = -9 from if_neg (fun z => h0 z.1)]
/-- the best of the first n fields -/
def sHb (S : zS) (k t n : Nat) : Int32 := if S 3 0 - (k + 1) + zpc t + 1 ≤ S 0 0 ∧ zsum (zbt t) n < n then nI (zmx (sHp S k t (sHw S (S 3 0 - (k + 1)))) n) else -9
theorem zmx_taken {S : zS} {k t : Nat} {w : Nat → Nat} : ∀ n, zsum (zbt t) n = n → zmx (sHp S k t w) n = 0
  | 0, _ => rfl
  | n + 1, h => by
    have h1 := zbt_sum_le t n
    have h2 := zbt_01 t n
    have h3 : zsum (zbt t) n + zbt t n = n + 1 := h
    have ih := zmx_taken (S := S) (k := k) (t := t) (w := w) n (by omega)
    have h4 : sHp S k t w n = 0 := if_neg (by omega)
    show (if zmx (sHp S k t w) n < sHp S k t w n then _ else _) = 0
    rw [ih, h4]
    rfl
theorem sHb_step {S : zS} (hI : Inv S) {k x t : Nat} (hk : k < S 3 0) : (if sHv S k x t ≤ sHb S k t x then sHb S k t x else sHv S k x t) = sHb S k t (x + 1) := by
  have hB := hI.B
  have hle := zbt_sum_le t x
  have hmx : ∀ n, zmx (sHp S k t (sHw S (S 3 0 - (k + 1)))) n ≤ 576 * (S 3 0 - (k + 1)) + 576 := zmx_le (sHp_le hI hk (fun t => sHw_le hI _ t (by omega)))
  have hm1 := hmx x
  have hp1 : sHp S k t (sHw S (S 3 0 - (k + 1))) x ≤ 576 * (S 3 0 - (k + 1)) + 576 := sHp_le hI (t := t) hk (fun t => sHw_le hI (S 3 0 - (k + 1)) t (by omega)) x
  have ez : zsum (zbt t) (x + 1) = zsum (zbt t) x + zbt t x := rfl
  have em : zmx (sHp S k t (sHw S (S 3 0 - (k + 1)))) (x + 1) = if zmx (sHp S k t (sHw S (S 3 0 - (k + 1)))) x < sHp S k t (sHw S (S 3 0 - (k + 1))) x then sHp S k t (sHw S (S 3 0 - (k + 1))) x else zmx (sHp S k t (sHw S (S 3 0 - (k + 1)))) x := rfl
  have h9 : ∀ n, n < 2 ^ 31 → (-9 : Int32) ≤ nI n := fun n hn => Int32.le_iff_toInt_le.mpr (by rw [nI_toInt hn, show (-9 : Int32).toInt = -9 from rfl]; omega)
  have h9n : ∀ n, n < 2 ^ 31 → ¬ nI n ≤ (-9 : Int32) := fun n hn q => by
    have := Int32.le_iff_toInt_le.mp q
    rw [nI_toInt hn, show (-9 : Int32).toInt = -9 from rfl] at this
    omega
  by_cases h1 : S 3 0 - (k + 1) + zpc t + 1 ≤ S 0 0
  · rcases zbt_01 t x with h0 | h0
    · have ev : sHv S k x t = nI (sHp S k t (sHw S (S 3 0 - (k + 1))) x) := by
        rw [show sHv S k x t = _ from if_pos ⟨h0, h1⟩, show sHp S k t (sHw S (S 3 0 - (k + 1))) x = _ from if_pos h0]
      rw [ev, show sHb S k t (x + 1) = nI (zmx (sHp S k t (sHw S (S 3 0 - (k + 1)))) (x + 1)) from if_pos ⟨h1, by omega⟩, em]
      by_cases h2 : zsum (zbt t) x < x
      · rw [show sHb S k t x = nI (zmx (sHp S k t (sHw S (S 3 0 - (k + 1)))) x) from if_pos ⟨h1, h2⟩]
        by_cases h3 : zmx (sHp S k t (sHw S (S 3 0 - (k + 1)))) x < sHp S k t (sHw S (S 3 0 - (k + 1))) x
        · rw [if_neg (zq_nle h3 (by omega)), if_pos h3]
        · rw [if_pos ((nI_leI (by omega) (by omega)).mpr (by omega)), if_neg h3]
      · have hz := zmx_taken (S := S) (k := k) (t := t) (w := sHw S (S 3 0 - (k + 1))) x (by omega)
        rw [show sHb S k t x = -9 from if_neg (fun z => h2 z.2), if_neg (h9n _ (by omega)), hz]
        by_cases h4 : 0 < sHp S k t (sHw S (S 3 0 - (k + 1))) x
        · rw [if_pos h4]
        · rw [if_neg h4, show sHp S k t (sHw S (S 3 0 - (k + 1))) x = 0 by omega]
    · have ep : sHp S k t (sHw S (S 3 0 - (k + 1))) x = 0 := if_neg (by omega)
      rw [show sHv S k x t = -9 from if_neg (fun z => by have := z.1; omega)]
      by_cases h2 : zsum (zbt t) x < x
      · rw [show sHb S k t (x + 1) = nI (zmx (sHp S k t (sHw S (S 3 0 - (k + 1)))) (x + 1)) from if_pos ⟨h1, by omega⟩, em, ep, show sHb S k t x = nI (zmx (sHp S k t (sHw S (S 3 0 - (k + 1)))) x) from if_pos ⟨h1, h2⟩, if_pos (h9 _ (by omega)), if_neg (Nat.not_lt_zero _)]
      · rw [show sHb S k t x = -9 from if_neg (fun z => h2 z.2), show sHb S k t (x + 1) = -9 from if_neg (fun z => by have := z.2; omega), if_pos (by decide)]
  · rw [show sHv S k x t = -9 from if_neg (fun z => h1 z.2), show sHb S k t x = -9 from if_neg (fun z => h1 z.1), show sHb S k t (x + 1) = -9 from if_neg (fun z => h1 z.1), if_pos (by decide)]
theorem sHb_F {S : zS} (hI : Inv S) {k t : Nat} (hk : k < S 3 0) (ht : t < 2 ^ S 0 0) : sHb S k t (S 0 0) = sHm S (S 3 0 - k) t := by
  have hF := hI.F
  have hp := zpc_F hF.2 ht
  have e : S 3 0 - k = S 3 0 - (k + 1) + 1 := by omega
  have ew : sHw S (S 3 0 - k) t = zmx (sHp S k t (sHw S (S 3 0 - (k + 1)))) (S 0 0) := by
    rw [e]
    show zmx (sHp S (S 3 0 - (S 3 0 - (k + 1) + 1)) t (sHw S (S 3 0 - (k + 1)))) (S 0 0) = _
    rw [show S 3 0 - (S 3 0 - (k + 1) + 1) = k by omega]
  unfold sHb sHm
  rw [ew]
  exact zifc (by omega)
theorem c_mHx (sc : zScr) {S : zS} {k t : Nat} (hI : Inv S) (hk : k < S 3 0) (ht : t < 2 ^ S 0 0) (v1 : Int32) (i : Nat → Nat → Int32) (hM : MR S i) (hT : ∀ t, t < 2 ^ S 0 0 → i 196 (256 * (k + 1) + t) = sHm S (S 3 0 - (k + 1)) t) (b : Bool) (l : Nat → Nat → Int64) : ∀ (n x : Nat) (w : Option Value), x + n = S 0 0 → ∃ w', zev sc (175, 89, [some (.ref 173), some (.int v1), some (.int (nI k)), some (.int (nI t)), some (.int (sHb S k t x)), some (.int (nI x)), w], [], (197, i, zRF b, l)) = zev sc (175, 132, [some (.ref 173), some (.int v1), some (.int (nI k)), some (.int (nI t)), some (.int (sHm S (S 3 0 - k) t)), some (.int (nI (S 0 0))), w'], [], (197, i, zRF b, l))
  | 0, x, w, hx => by
    have e : x = S 0 0 := by omega
    subst e
    refine ⟨w, ?_⟩
    rw [b175_89, hM.F, if_pos (Int32.le_refl _), sHb_F hI hk ht]
  | n + 1, x, w, hx => by
    have hF := hI.F
    obtain ⟨w', h⟩ := c_mHx sc hI hk ht v1 i hM hT b l n (x + 1) (some (.int (sHv S k x t))) (by omega)
    refine ⟨w', ?_⟩
    rw [← h, b175_89, hM.F, if_neg (zq_nle (by omega) (by omega)), b175_100, c_mMb sc hI hk (by omega) ht i hM hT, Option.bind_some]
    dsimp only
    rw [b175_108, ← sHb_step hI hk, ← nI_1]
    by_cases q : sHv S k x t ≤ sHb S k t x
    · rw [if_pos q, if_pos q, b175_122, b175_124]
    · rw [if_neg q, if_neg q, b175_117, b175_124]
theorem c_mHt (sc : zScr) {S : zS} {k : Nat} (hI : Inv S) (hk : k < S 3 0) (v1 : Int32) (b : Bool) (l : Nat → Nat → Int64) : ∀ (n t : Nat) (i : Nat → Nat → Int32) (w4 w5 w6 : Option Value), t + n = 2 ^ S 0 0 → MR S i → (∀ t, t < 2 ^ S 0 0 → i 196 (256 * (k + 1) + t) = sHm S (S 3 0 - (k + 1)) t) → (∀ u, u < t → i 196 (256 * k + u) = sHm S (S 3 0 - k) u) → ∃ i' w4' w5' w6', zev sc (175, 69, [some (.ref 173), some (.int v1), some (.int (nI k)), some (.int (nI t)), w4, w5, w6], [], (197, i, zRF b, l)) = zev sc (175, 152, [some (.ref 173), some (.int v1), some (.int (nI k)), some (.int (nI (2 ^ S 0 0))), w4', w5', w6'], [], (197, i', zRF b, l)) ∧ (∀ u, u < 2 ^ S 0 0 → i' 196 (256 * k + u) = sHm S (S 3 0 - k) u) ∧ ∀ c j, (c ≠ 196 ∨ j < 256 * k ∨ 256 * (k + 1) ≤ j) → i' c j = i c j
  | 0, t, i, w4, w5, w6, ht, hM, hT, h0 => by
    have hF := hI.F
    have hA := z2p hF.2
    have h1 := Nat.one_le_two_pow (n := S 0 0)
    have e : t = 2 ^ S 0 0 := by omega
    subst e
    refine ⟨i, w4, w5, w6, ?_, h0, fun _ _ _ => rfl⟩
    rw [b175_69, hM.F, c_allOf sc hF.2, Option.bind_some]
    dsimp only
    rw [b175_79, if_pos ((nI_ltI (by omega) (by omega)).mpr (by omega))]
  | n + 1, t, i, w4, w5, w6, ht, hM, hT, h0 => by
    have hF := hI.F
    have hB := hI.B
    have hA := z2p hF.2
    have e1 : (256 : Int32) * nI k + nI t = nI (256 * k + t) := by rw [L256, zmul, nI_add]
    obtain ⟨w', g⟩ := c_mHx sc hI hk (t := t) (by omega) v1 i hM hT b l (S 0 0) 0 w6 (by omega)
    have hne : ∀ c j, (c ≠ 196 ∨ j ≠ 256 * k + t) → zU i 196 (256 * k + t) (sHm S (S 3 0 - k) t) c j = i c j := fun c j h => zUn _ _ h
    obtain ⟨i', w4', w5', w6', p1, p2, p3⟩ := c_mHt sc hI hk v1 b l n (t + 1) (zU i 196 (256 * k + t) (sHm S (S 3 0 - k) t)) (some (.int (sHm S (S 3 0 - k) t))) (some (.int (nI (S 0 0)))) w' (by omega) (hM.congr hI (fun c j z => hne c j (Or.inl (by unfold mrd at z; omega)))) (fun u hu => by rw [hne _ _ (Or.inr (by omega))]; exact hT u hu) (fun u hu => by
      by_cases e : u = t
      · rw [e, zUs]
      · rw [hne _ _ (Or.inr (by omega))]; exact h0 u (by omega))
    refine ⟨i', w4', w5', w6', ?_, p2, fun c j h => by rw [p3 c j h, hne c j (h.elim Or.inl (fun h => Or.inr (by omega)))]⟩
    rw [show nI 0 = 0 from rfl] at g
    rw [show sHb S k t 0 = -9 from if_neg (fun z => by have := z.2; omega)] at g
    rw [← p1, b175_69, hM.F, c_allOf sc hF.2, Option.bind_some]
    dsimp only
    rw [b175_79, if_neg (nI_nlt (by omega) (by omega)), b175_82, g, b175_132 _ _ _ _ _ _ _ _ _ _ (by rw [e1]; exact vp_in_nI (by omega) (by decide)), e1, nI_clamp (by omega), nI_1]
theorem c_mHk (sc : zScr) {S : zS} (hI : Inv S) (v1 : Int32) (b : Bool) (l : Nat → Nat → Int64) : ∀ (k : Nat) (i : Nat → Nat → Int32) (w3 w4 w5 w6 : Option Value), k ≤ S 3 0 → MR S i → (∀ q, k ≤ q → q ≤ S 3 0 → ∀ t, t < 2 ^ S 0 0 → i 196 (256 * q + t) = sHm S (S 3 0 - q) t) → ∃ i' w3' w4' w5' w6', zev sc (175, 63, [some (.ref 173), some (.int v1), some (.int (nI k - 1)), w3, w4, w5, w6], [], (197, i, zRF b, l)) = zev sc (175, 158, [some (.ref 173), some (.int v1), some (.int (-1)), w3', w4', w5', w6'], [], (197, i', zRF b, l)) ∧ (∀ q, q ≤ S 3 0 → ∀ t, t < 2 ^ S 0 0 → i' 196 (256 * q + t) = sHm S (S 3 0 - q) t) ∧ ∀ c j, c ≠ 196 → i' c j = i c j
  | 0, i, w3, w4, w5, w6, hk, hM, hT => by
    refine ⟨i, w3, w4, w5, w6, ?_, fun q hq => hT q (Nat.zero_le _) hq, fun _ _ _ => rfl⟩
    rw [show nI 0 - 1 = -1 by decide, b175_63, if_pos (by decide)]
  | k + 1, i, w3, w4, w5, w6, hk, hM, hT => by
    have hF := hI.F
    have hB := hI.B
    have hA := z2p hF.2
    obtain ⟨i1, a4, a5, a6, p1, p2, p3⟩ := c_mHt sc hI (k := k) (by omega) v1 b l (2 ^ S 0 0) 0 i w4 w5 w6 (by omega) hM (fun t ht => hT (k + 1) (Nat.le_refl _) hk t ht) (fun u hu => absurd hu (Nat.not_lt_zero _))
    obtain ⟨i', w3', w4', w5', w6', q1, q2, q3⟩ := c_mHk sc hI v1 b l k i1 (some (.int (nI (2 ^ S 0 0)))) a4 a5 a6 (by omega) (hM.congr hI (fun c j z => p3 c j (Or.inl (by unfold mrd at z; omega)))) (fun q hq hq2 t ht => by
      by_cases e : q = k
      · rw [e]; exact p2 t ht
      · rw [p3 _ _ (Or.inr (Or.inr (by omega)))]; exact hT q (by omega) hq2 t ht)
    refine ⟨i', w3', w4', w5', w6', ?_, q2, fun c j h => by rw [q3 c j h, p3 c j (Or.inl h)]⟩
    rw [show nI 0 = 0 from rfl] at p1
    rw [← q1, nI_pred, b175_63, if_neg (nI_pos (by omega)), b175_67, p1, b175_152, Lm1, ← L1]
theorem c_mH0 (sc : zScr) {S : zS} (hI : Inv S) (v1 : Int32) (b : Bool) (l : Nat → Nat → Int64) : ∀ (n t : Nat) (i : Nat → Nat → Int32), t + n = 2 ^ S 0 0 → MR S i → (∀ u, u < t → i 196 (256 * S 3 0 + u) = 0) → ∃ i', zev sc (175, 17, [some (.ref 173), some (.int v1), some (.int (nI t)), none, none, none, none], [], (197, i, zRF b, l)) = zev sc (175, 54, [some (.ref 173), some (.int v1), some (.int (nI (2 ^ S 0 0))), none, none, none, none], [], (197, i', zRF b, l)) ∧ (∀ u, u < 2 ^ S 0 0 → i' 196 (256 * S 3 0 + u) = 0) ∧ ∀ c j, c ≠ 196 → i' c j = i c j
  | 0, t, i, ht, hM, h0 => by
    have hF := hI.F
    have hA := z2p hF.2
    have h1 := Nat.one_le_two_pow (n := S 0 0)
    have e : t = 2 ^ S 0 0 := by omega
    subst e
    refine ⟨i, ?_, h0, fun _ _ _ => rfl⟩
    rw [b175_17, hM.F, c_allOf sc hF.2, Option.bind_some]
    dsimp only
    rw [b175_27, if_pos ((nI_ltI (by omega) (by omega)).mpr (by omega))]
  | n + 1, t, i, ht, hM, h0 => by
    have hF := hI.F
    have hB := hI.B
    have hA := z2p hF.2
    have e1 : (256 : Int32) * nI (S 3 0) + nI t = nI (256 * S 3 0 + t) := by rw [L256, zmul, nI_add]
    have hne : ∀ c j, (c ≠ 196 ∨ j ≠ 256 * S 3 0 + t) → zU i 196 (256 * S 3 0 + t) 0 c j = i c j := fun c j h => zUn _ _ h
    obtain ⟨i', p1, p2, p3⟩ := c_mH0 sc hI v1 b l n (t + 1) (zU i 196 (256 * S 3 0 + t) 0) (by omega) (hM.congr hI (fun c j z => hne c j (Or.inl (by unfold mrd at z; omega)))) (fun u hu => by
      by_cases e : u = t
      · rw [e, zUs]
      · rw [hne _ _ (Or.inr (by omega))]; exact h0 u (by omega))
    refine ⟨i', ?_, p2, fun c j h => by rw [p3 c j h, hne c j (Or.inl h)]⟩
    rw [← p1, b175_17, hM.F, c_allOf sc hF.2, Option.bind_some]
    dsimp only
    rw [b175_27, if_neg (nI_nlt (by omega) (by omega)), b175_30 _ _ _ _ _ _ (by rw [hM.B, e1]; exact vp_in_nI (by omega) (by decide)), hM.B, e1, nI_clamp (by omega), nI_1]
