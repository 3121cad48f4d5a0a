/-! frost -/
theorem c_mWg (sc : zScr) {S : zS} {p q c : Nat} (hI : Inv S) (hq : q ≤ 10) (hc : c < 256) (v1 v2 v3 v4 v6 v8 v9 : Int32) (i : Nat → Nat → Int32) (hM : MR S i) (b : Bool) (l : Nat → Nat → Int64) : ∀ (n f : Nat), f + n = S 1 0 → zev sc (177, 190, [some (.ref 173), some (.int v1), some (.int v2), some (.int v3), some (.int v4), some (.int (nI q)), some (.int v6), some (.int (nI (sBt (sMy S p) (S 1 0)))), some (.int v8), some (.int v9), some (.int (nI c)), some (.int (nI (sWg (sMy S p) q c f))), some (.int (nI f))], [], (197, i, zRF b, l)) = zev sc (177, 246, [some (.ref 173), some (.int v1), some (.int v2), some (.int v3), some (.int v4), some (.int (nI q)), some (.int v6), some (.int (nI (sBt (sMy S p) (S 1 0)))), some (.int v8), some (.int v9), some (.int (nI c)), some (.int (nI (sWg (sMy S p) q c (S 1 0)))), some (.int (nI (S 1 0)))], [], (197, i, zRF b, l))
  | 0, f, hf => by
    have e : f = S 1 0 := by omega
    subst e
    rw [b177_190, hM.E, if_pos (Int32.le_refl _)]
  | n + 1, f, hf => by
    have hE := hI.E
    have h8 := z2p hE
    have hlt := sBt_lt (sMy S p) (S 1 0)
    have hbt := zbt_bt (sMy S p) f (S 1 0)
    have ih := c_mWg sc (p := p) hI hq hc v1 v2 v3 v4 v6 v8 v9 i hM b l n (f + 1) (by omega)
    have ew : sWg (sMy S p) q c (f + 1) = sWg (sMy S p) q c f * (if sMy S p f then (if zbt c f = 1 then q else 10 - q) else 1) := rfl
    rw [← ih, ew, b177_190, hM.E, if_neg (zq_nle (by omega) (by omega)), b177_201, c_has sc (by omega) (by omega), Option.bind_some]
    dsimp only
    rw [b177_210]
    by_cases hA : sMy S p f
    · rw [show nI (zbt (sBt (sMy S p) (S 1 0)) f) = 1 by rw [hbt.mpr ⟨by omega, hA⟩]; rfl, if_neg (by decide), b177_217, c_has sc (by omega) (by omega), Option.bind_some]
      dsimp only
      rw [b177_224, if_pos hA]
      rcases zbt_01 c f with r | r
      · rw [show nI (zbt c f) = 0 by rw [r]; rfl, if_pos rfl, b177_232, b177_237, if_neg (by omega), L10, pk_sub hq, zmul, nI_1]
      · rw [show nI (zbt c f) = 1 by rw [r]; rfl, if_neg (by decide), b177_227, b177_237, if_pos r, zmul, nI_1]
    · have h0 : zbt (sBt (sMy S p) (S 1 0)) f = 0 := (zbt_01 _ _).resolve_right (fun z => hA (hbt.mp z).2)
      rw [show nI (zbt (sBt (sMy S p) (S 1 0)) f) = 0 by rw [h0]; rfl, if_pos rfl, b177_213, b177_237, if_neg hA, L1, zmul, ← L1, nI_1]
def sHx (S : zS) (k p q y x c : Nat) : Nat := sSb (sMy S p) c (S 1 0) * (sUh S k y x (0 ||| c) * sWg (sMy S p) q c (S 1 0))
theorem zsubM {S : zS} {p c : Nat} (hE : S 1 0 ≤ 8) (hc : c < 2 ^ S 1 0) : (c ^^^ (c &&& sBt (sMy S p) (S 1 0))) = 0 ↔ sSb (sMy S p) c (S 1 0) = 1 := by
  have h8 := z2p hE
  rw [zsub_bits (by omega), sSb_iff]
  constructor
  · intro h g hg hb
    exact ((zbt_bt (sMy S p) g (S 1 0)).mp (h g (by omega) hb)).2
  · intro h g hg hb
    have hgE : g < S 1 0 := by
      refine Decidable.byContradiction (fun z => ?_)
      have := zbt_hi hc (show S 1 0 ≤ g by omega)
      omega
    exact (zbt_bt (sMy S p) g (S 1 0)).mpr ⟨hgE, h g hgE hb⟩
theorem c_mUp (sc : zScr) {S : zS} {k p q y x : Nat} (hI : Inv S) (hk : k < S 2 0) (hq : q ≤ 10) (hy : y < S 0 0) (hx : x < S 0 0) (v4 v6 v8 : Int32) (i : Nat → Nat → Int32) (hM : MR S i) (b : Bool) (l : Nat → Nat → Int64) : ∀ (n c : Nat) (w11 w12 : Option Value), c + n = sBt (sMy S p) (S 1 0) + 1 → ∃ w11' w12', zev sc (177, 155, [some (.ref 173), some (.int (nI k)), some (.int (nI y)), some (.int (nI x)), some (.int v4), some (.int (nI q)), some (.int v6), some (.int (nI (sBt (sMy S p) (S 1 0)))), some (.int v8), some (.int (nI (zsum (sHx S k p q y x) c))), some (.int (nI c)), w11, w12], [], (197, i, zRF b, l)) = zev sc (177, 259, [some (.ref 173), some (.int (nI k)), some (.int (nI y)), some (.int (nI x)), some (.int v4), some (.int (nI q)), some (.int v6), some (.int (nI (sBt (sMy S p) (S 1 0)))), some (.int v8), some (.int (nI (zsum (sHx S k p q y x) (sBt (sMy S p) (S 1 0) + 1)))), some (.int (nI (sBt (sMy S p) (S 1 0) + 1))), w11', w12'], [], (197, i, zRF b, l))
  | 0, c, w11, w12, hc => by
    have hE := hI.E
    have h8 := z2p hE
    have hlt := sBt_lt (sMy S p) (S 1 0)
    have e : c = sBt (sMy S p) (S 1 0) + 1 := by omega
    subst e
    refine ⟨w11, w12, ?_⟩
    rw [b177_155, if_pos ((nI_ltI (by omega) (by omega)).mpr (by omega))]
  | n + 1, c, w11, w12, hc => by
    have hE := hI.E
    have h8 := z2p hE
    have hlt := sBt_lt (sMy S p) (S 1 0)
    have hsub := zsubM (S := S) (p := p) hE (c := c) (by omega)
    have hxl : c ^^^ (c &&& sBt (sMy S p) (S 1 0)) < 2 ^ 31 := Nat.xor_lt_two_pow (by omega) (Nat.lt_of_le_of_lt Nat.and_le_left (by omega))
    have ez : zsum (sHx S k p q y x) (c + 1) = zsum (sHx S k p q y x) c + sHx S k p q y x c := rfl
    have no : sHx S k p q y x c = 0 → ∀ w11 w12, ∃ w11' w12', zev sc (177, 253, [some (.ref 173), some (.int (nI k)), some (.int (nI y)), some (.int (nI x)), some (.int v4), some (.int (nI q)), some (.int v6), some (.int (nI (sBt (sMy S p) (S 1 0)))), some (.int v8), some (.int (nI (zsum (sHx S k p q y x) c))), some (.int (nI c)), w11, w12], [], (197, i, zRF b, l)) = zev sc (177, 259, [some (.ref 173), some (.int (nI k)), some (.int (nI y)), some (.int (nI x)), some (.int v4), some (.int (nI q)), some (.int v6), some (.int (nI (sBt (sMy S p) (S 1 0)))), some (.int v8), some (.int (nI (zsum (sHx S k p q y x) (sBt (sMy S p) (S 1 0) + 1)))), some (.int (nI (sBt (sMy S p) (S 1 0) + 1))), w11', w12'], [], (197, i, zRF b, l)) := by
      intro h w11 w12
      obtain ⟨w11', w12', ih⟩ := c_mUp sc (p := p) hI hk hq hy hx v4 v6 v8 i hM b l n (c + 1) w11 w12 (by omega)
      rw [ez, h, Nat.add_zero] at ih
      exact ⟨w11', w12', by rw [b177_253, nI_1, ih]⟩
    have hh : zev sc (177, 155, [some (.ref 173), some (.int (nI k)), some (.int (nI y)), some (.int (nI x)), some (.int v4), some (.int (nI q)), some (.int v6), some (.int (nI (sBt (sMy S p) (S 1 0)))), some (.int v8), some (.int (nI (zsum (sHx S k p q y x) c))), some (.int (nI c)), w11, w12], [], (197, i, zRF b, l)) = if nI (c ^^^ (c &&& sBt (sMy S p) (S 1 0))) = 0 then zev sc (177, 172, [some (.ref 173), some (.int (nI k)), some (.int (nI y)), some (.int (nI x)), some (.int v4), some (.int (nI q)), some (.int v6), some (.int (nI (sBt (sMy S p) (S 1 0)))), some (.int v8), some (.int (nI (zsum (sHx S k p q y x) c))), some (.int (nI c)), w11, w12], [], (197, i, zRF b, l)) else zev sc (177, 253, [some (.ref 173), some (.int (nI k)), some (.int (nI y)), some (.int (nI x)), some (.int v4), some (.int (nI q)), some (.int v6), some (.int (nI (sBt (sMy S p) (S 1 0)))), some (.int v8), some (.int (nI (zsum (sHx S k p q y x) c))), some (.int (nI c)), w11, w12], [], (197, i, zRF b, l)) := by
      rw [b177_155, if_neg (nI_nlt (by omega) (by omega)), b177_162, zandnot, fa_and, nx_xor]
    by_cases hs : sSb (sMy S p) c (S 1 0) = 1
    · rw [hh, if_pos ((nI_eq0 hxl).mpr (hsub.mpr hs)), b177_172, c_mUh sc hI hk (by omega) hy hx i hM, Option.bind_some]
      dsimp only
      rw [b177_181]
      have h01 := sUh_le S k y x c
      by_cases hu : sUh S k y x c = 0
      · rw [show nI (sUh S k y x c) = 0 by rw [hu]; rfl, if_pos rfl]
        exact no (by unfold sHx; rw [Nat.zero_or, hu, Nat.zero_mul, Nat.mul_zero]) _ _
      · have hu1 : sUh S k y x c = 1 := by omega
        have g := c_mWg sc (p := p) hI hq (c := c) (by omega) (nI k) (nI y) (nI x) v4 v6 v8 (nI (zsum (sHx S k p q y x) c)) i hM b l (S 1 0) 0 (by omega)
        rw [show nI 0 = 0 from rfl, show nI (sWg (sMy S p) q c 0) = 1 from rfl] at g
        have eH : sHx S k p q y x c = sWg (sMy S p) q c (S 1 0) := by
          unfold sHx
          rw [Nat.zero_or, hu1, hs, Nat.one_mul, Nat.one_mul]
        obtain ⟨w11', w12', ih⟩ := c_mUp sc (p := p) hI hk hq hy hx v4 v6 v8 i hM b l n (c + 1) (some (.int (nI (sWg (sMy S p) q c (S 1 0))))) (some (.int (nI (S 1 0)))) (by omega)
        refine ⟨w11', w12', ?_⟩
        rw [← ih, show nI (sUh S k y x c) = 1 by rw [hu1]; rfl, if_neg (by decide), b177_184, g, b177_246, nI_add, b177_253, nI_1, ez, eH]
    · have hs0 := (sSb_01 (sMy S p) c (S 1 0)).resolve_right hs
      rw [hh, if_neg (fun z => hs (hsub.mp ((nI_eq0 hxl).mp z)))]
      exact no (by unfold sHx; rw [hs0, Nat.zero_mul]) _ _
theorem zsub_le : ∀ p, p < 256 → ∀ s, s < 256 → (p ^^^ (p &&& s)) = 0 → p ≤ s := by decide +kernel
theorem sHx_sum {S : zS} (hI : Inv S) (k p q y x : Nat) : zsum (sHx S k p q y x) (sBt (sMy S p) (S 1 0) + 1) = sTt (sMy S p) q (sUh S k y x) (S 1 0) 0 := by
  have hE := hI.E
  have h8 := z2p hE
  have hlt := sBt_lt (sMy S p) (S 1 0)
  rw [← sSb_sum q (sUh S k y x) (S 1 0) hE 0]
  have h1 := zsum_ext (p := fun j => if j < 2 ^ S 1 0 then sHx S k p q y x j else 0) (n := sBt (sMy S p) (S 1 0) + 1) (fun j hj => by
    by_cases e : j < 2 ^ S 1 0
    · show (if j < 2 ^ S 1 0 then sHx S k p q y x j else 0) = 0
      rw [if_pos e]
      have hs0 : sSb (sMy S p) j (S 1 0) = 0 := by
        refine (sSb_01 (sMy S p) j (S 1 0)).resolve_right (fun z => ?_)
        have := zsub_le j (by omega) (sBt (sMy S p) (S 1 0)) (by omega) ((zsubM hE e).mpr z)
        omega
      unfold sHx
      rw [hs0, Nat.zero_mul]
    · exact if_neg e) (2 ^ S 1 0 - (sBt (sMy S p) (S 1 0) + 1))
  rw [show sBt (sMy S p) (S 1 0) + 1 + (2 ^ S 1 0 - (sBt (sMy S p) (S 1 0) + 1)) = 2 ^ S 1 0 by omega] at h1
  rw [zsum_congr (p := sHx S k p q y x) (q := fun j => if j < 2 ^ S 1 0 then sHx S k p q y x j else 0) (n := sBt (sMy S p) (S 1 0) + 1) (fun j hj => (if_pos (by omega)).symm), ← h1]
  exact zsum_congr (fun j hj => if_pos hj)
theorem sSnd_str {S : zS} {k f : Nat} (h : ¬ sSnd S k f = 0) : sStr S f = 1 := by
  unfold sSnd at h
  unfold sStr
  by_cases hc : S 9 (6 + f) = 0 ∨ zbt (S 9 14) f = 1 ∨ zbt (S 9 15) f = 1
  · rw [if_pos hc] at h
    exact absurd rfl h
  · have := zbt_01 (S 9 14) f
    exact if_pos ⟨fun z => hc (Or.inl z), by omega⟩
theorem c_mGcd (sc : zScr) (v1 v2 v3 v4 v5 v6 v7 v8 v9 : Int32) (b : Bool) (l : Nat → Nat → Int64) (i : Nat → Nat → Int32) : ∀ (m a c : Nat) (w12 : Option Value), c ≤ m → a < 2 ^ 31 → c < 2 ^ 31 → ∃ w12', zev sc (177, 267, [some (.ref 173), some (.int v1), some (.int v2), some (.int v3), some (.int v4), some (.int v5), some (.int v6), some (.int v7), some (.int v8), some (.int v9), some (.int (nI a)), some (.int (nI c)), w12], [], (197, i, zRF b, l)) = zev sc (177, 290, [some (.ref 173), some (.int v1), some (.int v2), some (.int v3), some (.int v4), some (.int v5), some (.int v6), some (.int v7), some (.int v8), some (.int v9), some (.int (nI (Nat.gcd a c))), some (.int 0), w12'], [], (197, i, zRF b, l)) := by
  intro m
  induction m with
  | zero =>
    intro a c w12 hc ha hc2
    have e : c = 0 := by omega
    subst e
    exact ⟨w12, by rw [b177_267, if_pos (show nI 0 = 0 from rfl), Nat.gcd_zero_right]; rfl⟩
  | succ m ih =>
    intro a c w12 hc ha hc2
    by_cases h0 : c = 0
    · subst h0
      exact ⟨w12, by rw [b177_267, if_pos (show nI 0 = 0 from rfl), Nat.gcd_zero_right]; rfl⟩
    · have hr := Nat.mod_lt a (show c > 0 by omega)
      have hne : ¬ nI c = 0 := fun z => by have := (nI_eq0 hc2).mp z; omega
      obtain ⟨w12', g⟩ := ih c (a % c) (some (.int (nI (a % c)))) (by omega) hc2 (by omega)
      refine ⟨w12', ?_⟩
      rw [zgcd a c, ← g, b177_267, if_neg hne, b177_272 _ _ _ _ _ _ _ _ _ _ _ _ _ _ _ _ hne, zmd ha hc2]
