/-! frost: powers, divisors; the class -/
theorem zdv {a c : Nat} (ha : a < 2 ^ 31) (hc : c < 2 ^ 31) : nI a / nI c = nI (a / c) := by
  apply Int32.toInt_inj.mp
  have hd : a / c ≤ a := Nat.div_le_self _ _
  have hne : nI c ≠ -1 := fun z => by
    have h := nI_toInt hc
    rw [z, show (-1 : Int32).toInt = -1 from rfl] at h
    omega
  rw [Int32.toInt_div_of_ne_right _ _ hne, nI_toInt ha, nI_toInt hc, nI_toInt (by omega), Int.ofNat_tdiv]
theorem zmd {a c : Nat} (ha : a < 2 ^ 31) (hc : c < 2 ^ 31) : nI a - nI a / nI c * nI c = nI (a % c) := by
  have hle : a / c * c ≤ a := Nat.div_mul_le_self _ _
  have h := Nat.div_add_mod a c
  rw [Nat.mul_comm] at h
  rw [zdv ha hc, zmul, pk_sub hle]
  congr 1
  omega
theorem c_pow (sc : zScr) {a t : Nat} (ht : t < 2 ^ 31) (b : Bool) (l : Nat → Nat → Int64) (i : Nat → Nat → Int32) : ∀ (n v : Nat), v + n = t → zev sc (52, 4, [some (.int (nI a)), some (.int (nI t)), some (.int (nI (a ^ v))), some (.int (nI v))], [], (197, i, zRF b, l)) = some (.int (nI (a ^ t)), (197, i, zRF b, l))
  | 0, v, hv => by
    have e : v = t := by omega
    subst e
    rw [b52_4, if_pos (Int32.le_refl _), b52_19]
  | n + 1, v, hv => by
    rw [b52_4, if_neg (zq_nle (by omega) ht), b52_9, zmul, ← Nat.pow_succ, nI_1, c_pow sc ht b l i n (v + 1) (by omega)]
theorem c_power (sc : zScr) {a t : Nat} (ht : t < 2 ^ 31) (b : Bool) (l : Nat → Nat → Int64) (i : Nat → Nat → Int32) : zev sc (52, 0, [some (.int (nI a)), some (.int (nI t)), none, none], [], (197, i, zRF b, l)) = some (.int (nI (a ^ t)), (197, i, zRF b, l)) := by
  have g := c_pow sc (a := a) ht b l i t 0 (by omega)
  rw [Nat.pow_zero, show nI 0 = 0 from rfl, show nI 1 = 1 from rfl] at g
  rw [b52_0, g]
theorem zgcd (a c : Nat) : Nat.gcd a c = Nat.gcd c (a % c) := by rw [Nat.gcd_comm a c, Nat.gcd_rec, Nat.gcd_comm]
theorem zhalve {c r n : Nat} (hc : c < 2 ^ (n + 1)) (hr : 0 < r) (hrc : r < c) : c % r < 2 ^ n := by
  have h1 := Nat.mod_lt c hr
  have h2 : c % r ≤ c - r := by
    rw [Nat.mod_eq_sub_mod (by omega)]
    exact Nat.mod_le _ _
  rw [Nat.pow_succ] at hc
  omega
theorem c_cd (sc : zScr) (v0 v1 : Int32) (b : Bool) (l : Nat → Nat → Int64) (i : Nat → Nat → Int32) : ∀ (n j a c : Nat) (w5 : Option Value), c < 2 ^ n → a < 2 ^ 31 → c < 2 ^ 31 → j + 2 * n + 1 ≤ 100 → zev sc (53, 7, [some (.int v0), some (.int v1), some (.int (nI a)), some (.int (nI c)), some (.int (nI j)), w5], [], (197, i, zRF b, l)) = some (.int (nI (Nat.gcd a c)), (197, i, zRF b, l)) := by
  have h0 : ∀ (j a : Nat) (w5 : Option Value), j < 100 → zev sc (53, 7, [some (.int v0), some (.int v1), some (.int (nI a)), some (.int (nI 0)), some (.int (nI j)), w5], [], (197, i, zRF b, l)) = some (.int (nI (Nat.gcd a 0)), (197, i, zRF b, l)) := by
    intro j a w5 hj
    rw [b53_7, if_neg (show ¬ (100 : Int32) ≤ nI j from zq_nle (a := 100) hj (by decide)), b53_14, if_pos (show nI 0 = 0 from rfl), b53_34, Nat.gcd_zero_right]
  have h1 : ∀ (j a c : Nat) (w5 : Option Value), j < 100 → 0 < c → a < 2 ^ 31 → c < 2 ^ 31 → zev sc (53, 7, [some (.int v0), some (.int v1), some (.int (nI a)), some (.int (nI c)), some (.int (nI j)), w5], [], (197, i, zRF b, l)) = zev sc (53, 7, [some (.int v0), some (.int v1), some (.int (nI c)), some (.int (nI (a % c))), some (.int (nI (j + 1))), some (.int (nI (a % c)))], [], (197, i, zRF b, l)) := by
    intro j a c w5 hj hc ha hc2
    have hne : ¬ nI c = 0 := fun z => by have := (nI_eq0 hc2).mp z; omega
    rw [b53_7, if_neg (show ¬ (100 : Int32) ≤ nI j from zq_nle (a := 100) hj (by decide)), b53_14, if_neg hne, b53_18 _ _ _ _ _ _ _ _ _ _ hne, zmd ha hc2, nI_1]
  intro n
  induction n with
  | zero =>
    intro j a c w5 hn ha hc hj
    have e : c = 0 := by omega
    subst e
    exact h0 j a w5 (by omega)
  | succ n ih =>
    intro j a c w5 hn ha hc hj
    by_cases hc0 : c = 0
    · subst hc0
      exact h0 j a w5 (by omega)
    · have hr := Nat.mod_lt a (show c > 0 by omega)
      rw [h1 j a c w5 (by omega) (by omega) ha hc, zgcd a c]
      by_cases hr0 : a % c = 0
      · rw [hr0]
        exact h0 _ _ _ (by omega)
      · have h2 := zhalve hn (show 0 < a % c by omega) hr
        have h3 := Nat.mod_lt c (show a % c > 0 by omega)
        rw [h1 (j + 1) c (a % c) _ (by omega) (by omega) hc (by omega), zgcd c (a % c)]
        exact ih _ _ _ _ h2 (by omega) (by omega) (by omega)
def sBt (M : Nat → Prop) [DecidablePred M] : Nat → Nat
  | 0 => 0
  | n + 1 => if M n then sBt M n ||| 2 ^ n else sBt M n
theorem sBt_lt (M : Nat → Prop) [DecidablePred M] : ∀ n, sBt M n < 2 ^ n
  | 0 => (by decide : 0 < 1)
  | n + 1 => by
    have ih := sBt_lt M n
    have h2 : 2 ^ n < 2 ^ (n + 1) := Nat.pow_lt_pow_right (by decide) (by omega)
    show (if M n then sBt M n ||| 2 ^ n else sBt M n) < 2 ^ (n + 1)
    split
    · exact zor_lt (by omega) h2
    · omega
theorem zbt_0 (g : Nat) : zbt 0 g = 0 := by
  unfold zbt
  rw [Nat.zero_div]
theorem zbt_bt (M : Nat → Prop) [DecidablePred M] (g : Nat) : ∀ n, zbt (sBt M n) g = 1 ↔ g < n ∧ M g
  | 0 => by
    rw [show sBt M 0 = 0 from rfl, zbt_0]
    exact ⟨fun z => absurd z (by decide), fun z => absurd z.1 (Nat.not_lt_zero _)⟩
  | n + 1 => by
    have ih := zbt_bt M g n
    by_cases hM : M n
    · rw [show sBt M (n + 1) = sBt M n ||| 2 ^ n from if_pos hM, zbt_or, ih]
      constructor
      · rintro (z | z)
        · exact ⟨by omega, z.2⟩
        · subst z
          exact ⟨by omega, hM⟩
      · intro z
        by_cases e : n = g
        · exact Or.inr e
        · exact Or.inl ⟨by omega, z.2⟩
    · rw [show sBt M (n + 1) = sBt M n from if_neg hM, ih]
      constructor
      · exact fun z => ⟨by omega, z.2⟩
      · intro z
        refine ⟨?_, z.2⟩
        by_cases e : g = n
        · subst e
          exact absurd z.2 hM
        · omega
abbrev sSl (S : zS) (k f : Nat) : Prop := sSnd S k f = 0
abbrev sAu (S : zS) (k p f : Nat) : Prop := ¬ sSnd S k f = 0 ∧ p ≤ S 9 (6 + f)
abbrev sMy (S : zS) (p f : Nat) : Prop := sStr S f = 1 ∧ p ≤ S 9 (6 + f)
def sOp (S : zS) (k c f : Nat) : Nat := if zbt c f = 1 ∨ sSnd S k f = 0 then 1 else 0
/-- can one come there unheard, these being cut too -/
def sUh (S : zS) (k y x c : Nat) : Nat := zbt (sRr S (sOp S k c) y (S 0 0 - 1)) x
theorem sUh_le (S : zS) (k y x c : Nat) : sUh S k y x c ≤ 1 := by
  have := zbt_01 (sRr S (sOp S k c) y (S 0 0 - 1)) x
  unfold sUh
  omega
theorem sUh_or {S : zS} {k y x j : Nat} (hj : sSnd S k j = 0) (c : Nat) : sUh S k y x (c ||| 2 ^ j) = sUh S k y x c := by
  unfold sUh
  rw [sRr_congr y (o := sOp S k (c ||| 2 ^ j)) (o' := sOp S k c)]
  intro f hf
  unfold sOp
  refine zifc ?_
  rw [zbt_or]
  constructor
  · rintro ((h | h) | h)
    · exact Or.inl h
    · subst h
      exact Or.inr hj
    · exact Or.inr h
  · rintro (h | h)
    · exact Or.inl (Or.inl h)
    · exact Or.inr h
theorem c_xFp (sc : zScr) {S : zS} {k p : Nat} (hI : Inv S) (hk : k < S 2 0) (hp : p ≤ 40) (b : Bool) (l : Nat → Nat → Int64) : ∀ (n f : Nat) (i : Nat → Nat → Int32), f + n = S 1 0 → XR S i → i 72 5 = nI (sBt (sSl S k) f) → i 72 4 = nI (sCt (sAu S k p) f) → (∀ g, g < f → sAu S k p g → i 74 (sCt (sAu S k p) g) = nI g) → ∃ i', zev sc (48, 12, [some (.ref 72), some (.int (nI k)), some (.int (nI p)), some (.int (nI f))], [], (197, i, zRF b, l)) = zev sc (48, 92, [some (.ref 72), some (.int (nI k)), some (.int (nI p)), some (.int (nI (S 1 0)))], [], (197, i', zRF b, l)) ∧ i' 72 5 = nI (sBt (sSl S k) (S 1 0)) ∧ i' 72 4 = nI (sCt (sAu S k p) (S 1 0)) ∧ (∀ g, g < S 1 0 → sAu S k p g → i' 74 (sCt (sAu S k p) g) = nI g) ∧ ∀ c t, c ≠ 72 → c ≠ 74 → i' c t = i c t
  | 0, f, i, hf, hX, h5, h4, h74 => by
    have e : f = S 1 0 := by omega
    subst e
    refine ⟨i, ?_, h5, h4, h74, fun _ _ _ _ => rfl⟩
    rw [b48_12, hX.E, if_pos (Int32.le_refl _)]
  | n + 1, f, i, hf, hX, h5, h4, h74 => by
    have hE := hI.E
    have hff : f < S 1 0 := by omega
    have hs := sSnd_le hI hk hff
    have hpt := hI.pit hff
    have hlt := sBt_lt (sSl S k) f
    have hcl := sCt_le (sAu S k p) f
    have cf : (nI f).toNatClampNeg = f := nI_clamp (by omega)
    have hx1 : zev sc (48, 12, [some (.ref 72), some (.int (nI k)), some (.int (nI p)), some (.int (nI f))], [], (197, i, zRF b, l)) = zev sc (48, 32, [some (.ref 72), some (.int (nI k)), some (.int (nI p)), some (.int (nI f))], [.int (nI (sSnd S k f))], (197, i, zRF b, l)) := by
      rw [b48_12, hX.E, if_neg (zq_nle (by omega) (by omega)), b48_23, c_xSound sc hI hk hff i hX, Option.bind_some]
    by_cases h0 : sSnd S k f = 0
    · have hA : ¬ sAu S k p f := fun z => z.1 h0
      have eA : sCt (sAu S k p) (f + 1) = sCt (sAu S k p) f := if_neg hA
      have eS : sBt (sSl S k) (f + 1) = sBt (sSl S k) f ||| 2 ^ f := if_pos h0
      have hne : ∀ v c t, (c ≠ 72 ∨ t ≠ 5) → zU i 72 5 v c t = i c t := fun v c t h => zUn _ _ h
      obtain ⟨i', p1, p2, p3, p4, p5⟩ := c_xFp sc hI hk hp b l n (f + 1) (zU i 72 5 (nI (sBt (sSl S k) f ||| 2 ^ f))) (by omega) (hX.congr (fun c t z => hne _ c t (Or.inl (by have := z.2.2.2; omega)))) (by rw [zUs, eS]) (by rw [hne _ _ _ (Or.inr (by decide)), h4, eA]) (fun g hg ha => by
        rw [hne _ _ _ (Or.inl (by decide))]
        refine h74 g ?_ ha
        by_cases e : g = f
        · subst e
          exact absurd ha hA
        · omega)
      refine ⟨i', ?_, p2, p3, p4, fun c t q1 q2 => by rw [p5 c t q1 q2, hne _ _ _ (Or.inl q1)]⟩
      rw [hx1, ← p1, b48_32, h0, if_pos (show nI 0 = 0 from rfl), b48_35, h5, zsh1 (by omega), fa_or, b48_86, nI_1]
    · have eS : sBt (sSl S k) (f + 1) = sBt (sSl S k) f := if_neg h0
      have hx2 : zev sc (48, 12, [some (.ref 72), some (.int (nI k)), some (.int (nI p)), some (.int (nI f))], [], (197, i, zRF b, l)) = if nI (S 9 (6 + f)) < nI p then zev sc (48, 86, [some (.ref 72), some (.int (nI k)), some (.int (nI p)), some (.int (nI f))], [], (197, i, zRF b, l)) else zev sc (48, 66, [some (.ref 72), some (.int (nI k)), some (.int (nI p)), some (.int (nI f))], [], (197, i, zRF b, l)) := by
        rw [hx1, b48_32, if_neg (fun z => h0 ((nI_eq0 (by omega)).mp z)), b48_50 _ _ _ _ _ _ _ (vp_in_nI (by omega) (by decide)), cf, hX.pit hff]
      by_cases h1 : p ≤ S 9 (6 + f)
      · have hA : sAu S k p f := ⟨h0, h1⟩
        have eA : sCt (sAu S k p) (f + 1) = sCt (sAu S k p) f + 1 := if_pos hA
        have hne : ∀ u v c t, (c ≠ 72 ∨ t ≠ 4) → (c ≠ 74 ∨ t ≠ sCt (sAu S k p) f) → zU (zU i 74 (sCt (sAu S k p) f) u) 72 4 v c t = i c t := fun u v c t q1 q2 => by rw [zUn _ _ q1, zUn _ _ q2]
        obtain ⟨i', p1, p2, p3, p4, p5⟩ := c_xFp sc hI hk hp b l n (f + 1) (zU (zU i 74 (sCt (sAu S k p) f) (nI f)) 72 4 (nI (sCt (sAu S k p) f + 1))) (by omega) (hX.congr (fun c t z => hne _ _ c t (Or.inl (by have := z.2.2.2; omega)) (Or.inl (by have := z.2.2.2; omega)))) (by rw [hne _ _ _ _ (Or.inr (by decide)) (Or.inl (by decide)), h5, eS]) (by rw [zUs, eA]) (fun g hg ha => by
          by_cases e : g = f
          · rw [e, zUn _ _ (Or.inl (by decide)), zUs]
          · have hm := sCt_mono (sAu S k p) (g + 1) (f - (g + 1))
            rw [show g + 1 + (f - (g + 1)) = f by omega, show sCt (sAu S k p) (g + 1) = sCt (sAu S k p) g + 1 from if_pos ha] at hm
            rw [hne _ _ _ _ (Or.inl (by decide)) (Or.inr (by omega))]
            exact h74 g (by omega) ha)
        refine ⟨i', ?_, p2, p3, p4, fun c t q1 q2 => by rw [p5 c t q1 q2, hne _ _ _ _ (Or.inl q1) (Or.inl q2)]⟩
        rw [hx2, if_neg (nI_nlt h1 (by omega)), ← p1, b48_66 _ _ _ _ _ _ _ (by rw [h4]; exact vp_in_nI (by omega) (by decide)), h4, nI_clamp (by omega), zUn (f := i) (a := 74) (j := sCt (sAu S k p) f) _ (q := 72) (t := 4) (Or.inl (by decide)), h4, nI_1, b48_86, nI_1]
      · have hA : ¬ sAu S k p f := fun z => h1 z.2
        have eA : sCt (sAu S k p) (f + 1) = sCt (sAu S k p) f := if_neg hA
        obtain ⟨i', p1, p2, p3, p4, p5⟩ := c_xFp sc hI hk hp b l n (f + 1) i (by omega) hX (by rw [h5, eS]) (by rw [h4, eA]) (fun g hg ha => by
          refine h74 g ?_ ha
          by_cases e : g = f
          · subst e
            exact absurd ha hA
          · omega)
        refine ⟨i', ?_, p2, p3, p4, p5⟩
        rw [hx2, if_pos ((nI_ltI (by omega) (by omega)).mpr (by omega)), ← p1, b48_86, nI_1]
theorem c_xSf (sc : zScr) {S : zS} {k p t : Nat} (hI : Inv S) (ht : t < 256) (i : Nat → Nat → Int32) (h4 : i 72 4 = nI (sCt (sAu S k p) (S 1 0))) (h74 : ∀ g, g < S 1 0 → sAu S k p g → i 74 (sCt (sAu S k p) g) = nI g) (b : Bool) (l : Nat → Nat → Int64) : ∀ (n f : Nat), f + n = S 1 0 → zev sc (50, 4, [some (.ref 72), some (.int (nI t)), some (.int (nI (sSn (sAu S k p) t f))), some (.int (nI (sCt (sAu S k p) f)))], [], (197, i, zRF b, l)) = some (.int (nI (sSn (sAu S k p) t (S 1 0))), (197, i, zRF b, l))
  | 0, f, hf => by
    have e : f = S 1 0 := by omega
    subst e
    rw [b50_4, h4, if_pos (Int32.le_refl _), b50_33]
  | n + 1, f, hf => by
    have hE := hI.E
    have hff : f < S 1 0 := by omega
    have hcl := sCt_le (sAu S k p) f
    have hcE := sCt_le (sAu S k p) (S 1 0)
    have hm := sCt_mono (sAu S k p) (f + 1) (S 1 0 - (f + 1))
    rw [show f + 1 + (S 1 0 - (f + 1)) = S 1 0 by omega] at hm
    have ih := c_xSf sc hI ht i h4 h74 b l n (f + 1) (by omega)
    by_cases hA : sAu S k p f
    · have eA : sCt (sAu S k p) (f + 1) = sCt (sAu S k p) f + 1 := if_pos hA
      have eS : sSn (sAu S k p) t (f + 1) = sSn (sAu S k p) t f ||| (zbt t (sCt (sAu S k p) f) * 2 ^ f) := if_pos hA
      have h2 := z2p (n := f) (by omega)
      have hb : zbt t (sCt (sAu S k p) f) * 2 ^ f ≤ 1 * 2 ^ f := Nat.mul_le_mul_right _ (by have := zbt_01 t (sCt (sAu S k p) f); omega)
      rw [← ih, b50_4, h4, if_neg (zq_nle (by omega) (by omega)), b50_12 _ _ _ _ _ _ _ (vp_in_nI (by omega) (by decide)), nI_clamp (by omega), h74 f hff hA, zbit (by omega) (by omega), zshl (by omega) (by omega), fa_or, nI_1, eA, eS]
    · have eA : sCt (sAu S k p) (f + 1) = sCt (sAu S k p) f := if_neg hA
      have eS : sSn (sAu S k p) t (f + 1) = sSn (sAu S k p) t f := if_neg hA
      rw [← ih, eA, eS]
theorem c_xRf (sc : zScr) {S : zS} {o on : Nat} (hI : Inv S) (ho : o < 256) (hon : on < 2 ^ S 0 0) (v1 v2 v5 : Int32) (i : Nat → Nat → Int32) (hX : XR S i) (b : Bool) (l : Nat → Nat → Int64) : ∀ (n f : Nat), f + n = S 1 0 → zev sc (51, 23, [some (.ref 72), some (.int v1), some (.int v2), some (.int (nI o)), some (.int (nI (sRg S (zbt o) on f))), some (.int v5), some (.int (nI f))], [], (197, i, zRF b, l)) = zev sc (51, 80, [some (.ref 72), some (.int v1), some (.int v2), some (.int (nI o)), some (.int (nI (sRg S (zbt o) on (S 1 0)))), some (.int v5), some (.int (nI (S 1 0)))], [], (197, i, zRF b, l))
  | 0, f, hf => by
    have e : f = S 1 0 := by omega
    subst e
    rw [b51_23, hX.E, if_pos (Int32.le_refl _)]
  | n + 1, f, hf => by
    have hE := hI.E
    have hF := hI.F
    have hA := z2p hF.2
    have hff : f < S 1 0 := by omega
    have hg := (sRg_gr hI (zbt o) hon f (by omega)).2
    have hle : sRg S (zbt o) on f &&& sEb S f ≤ sRg S (zbt o) on f := Nat.and_le_left
    have ih := c_xRf sc hI ho hon v1 v2 v5 i hX b l n (f + 1) (by omega)
    have es : sRg S (zbt o) on (f + 1) = sRf S (zbt o) (sRg S (zbt o) on f) f := rfl
    rw [← ih, b51_23, hX.E, if_neg (zq_nle (by omega) (by omega)), b51_35, zbit (by omega) (by omega)]
    rcases zbt_01 o f with q | q
    · rw [show nI (zbt o f) = 0 by rw [q]; rfl, if_neg (by decide), b51_74, nI_1, es, show sRf S (zbt o) (sRg S (zbt o) on f) f = sRg S (zbt o) on f from if_neg (fun z => by have := z.1; omega)]
    · rw [show nI (zbt o f) = 1 by rw [q]; rfl, if_pos rfl, b51_45, c_xEb sc hI hff i hX, Option.bind_some]
      dsimp only
      rw [b51_56, fa_and]
      by_cases h0 : sRg S (zbt o) on f &&& sEb S f = 0
      · have h1 := zand_or.mp h0
        rw [if_pos ((nI_eq0 (by omega)).mpr h0), b51_74, nI_1, es, show sRf S (zbt o) (sRg S (zbt o) on f) f = sRg S (zbt o) on f from if_neg (fun z => by have := z.2; omega)]
      · have h1 : zbt (sRg S (zbt o) on f) (S 4 f) = 1 ∨ zbt (sRg S (zbt o) on f) (S 5 f) = 1 := by
          have g1 := zbt_01 (sRg S (zbt o) on f) (S 4 f)
          have g2 := zbt_01 (sRg S (zbt o) on f) (S 5 f)
          exact Decidable.byContradiction (fun z => h0 (zand_or.mpr ⟨by omega, by omega⟩))
        rw [if_neg (fun z => h0 ((nI_eq0 (by omega)).mp z)), b51_60, c_xEb sc hI hff i hX, Option.bind_some]
        dsimp only
        rw [b51_71, fa_or, b51_74, nI_1, es, show sRf S (zbt o) (sRg S (zbt o) on f) f = sRg S (zbt o) on f ||| sEb S f from if_pos ⟨q, h1⟩]
theorem c_xRr (sc : zScr) {S : zS} {o y x : Nat} (hI : Inv S) (ho : o < 256) (hy : y < S 0 0) (hx : x < S 0 0) (v1 : Int32) (i : Nat → Nat → Int32) (hX : XR S i) (b : Bool) (l : Nat → Nat → Int64) : ∀ (n j : Nat) (w : Option Value), j + 1 + n = S 0 0 → zev sc (51, 8, [some (.ref 72), some (.int v1), some (.int (nI x)), some (.int (nI o)), some (.int (nI (sRr S (zbt o) y j))), some (.int (nI (j + 1))), w], [], (197, i, zRF b, l)) = some (.int (nI (zbt (sRr S (zbt o) y (S 0 0 - 1)) x)), (197, i, zRF b, l))
  | 0, j, w, hj => by
    have hF := hI.F
    have hA := z2p hF.2
    have e : j = S 0 0 - 1 := by omega
    subst e
    have hl := sRr_lt hI (zbt o) hy (S 0 0 - 1)
    rw [b51_8, hX.F, show S 0 0 - 1 + 1 = S 0 0 by omega, if_pos (Int32.le_refl _), b51_86, zbit (by omega) (by omega)]
    rcases zbt_01 (sRr S (zbt o) y (S 0 0 - 1)) x with q | q
    · rw [q, if_neg (show ¬ nI 0 = 1 by decide), b51_100, b51_101 _ _ _ _ _ _ _ _ _ _ _ (Or.inl rfl)]
      rfl
    · rw [q, if_pos (show nI 1 = 1 from rfl), b51_96, b51_101 _ _ _ _ _ _ _ _ _ _ _ (Or.inr rfl)]
      rfl
  | n + 1, j, w, hj => by
    have hF := hI.F
    have ih := c_xRr sc hI ho hy hx v1 i hX b l n (j + 1) (some (.int (nI (S 1 0)))) (by omega)
    have g := c_xRf sc hI ho (sRr_lt hI (zbt o) hy j) v1 (nI x) (nI (j + 1)) i hX b l (S 1 0) 0 (by omega)
    rw [show nI 0 = 0 from rfl, show sRg S (zbt o) (sRr S (zbt o) y j) 0 = sRr S (zbt o) y j from rfl] at g
    rw [← ih, b51_8, hX.F, if_neg (zq_nle (by omega) (by omega)), b51_20, g, b51_80, nI_1]
    rfl
theorem c_xRe (sc : zScr) {S : zS} {o y x : Nat} (hI : Inv S) (ho : o < 256) (hy : y < S 0 0) (hx : x < S 0 0) (i : Nat → Nat → Int32) (hX : XR S i) (b : Bool) (l : Nat → Nat → Int64) : zev sc (51, 0, [some (.ref 72), some (.int (nI y)), some (.int (nI x)), some (.int (nI o)), none, none, none], [], (197, i, zRF b, l)) = some (.int (nI (zbt (sRr S (zbt o) y (S 0 0 - 1)) x)), (197, i, zRF b, l)) := by
  have hF := hI.F
  have g := c_xRr sc hI ho hy hx (nI y) i hX b l (S 0 0 - 1) 0 none (by omega)
  rw [show nI (0 + 1) = 1 from rfl, show sRr S (zbt o) y 0 = 2 ^ y from rfl] at g
  rw [b51_0, zsh1 (by omega), g]
