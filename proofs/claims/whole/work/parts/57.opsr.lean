/-! frost: the class's sum; the model's loops -/
theorem zbt_oor {a c g : Nat} : zbt (a ||| c) g = 1 ↔ (zbt a g = 1 ∨ zbt c g = 1) := by
  rw [zbt_testBit, zbt_testBit, zbt_testBit, Nat.testBit_or, Bool.or_eq_true]
theorem zbt_ite {c f : Nat} {P : Prop} [Decidable P] (h : zbt c f = 1 ↔ P) : zbt c f = if P then 1 else 0 := by
  by_cases hp : P
  · rw [if_pos hp]
    exact h.mpr hp
  · rw [if_neg hp]
    exact (zbt_01 c f).resolve_right (fun z => hp (h.mp z))
def sGx (S : zS) (k p q y x t : Nat) : Nat := q ^ zpc t * (10 - q) ^ (sCt (sAu S k p) (S 1 0) - zpc t) * sUh S k y x (0 ||| sSn (sAu S k p) t (S 1 0))
theorem zw_le {q a s : Nat} (hq : q ≤ 10) (ha : a ≤ s) (hs : s ≤ 8) : q ^ a * (10 - q) ^ (s - a) ≤ 100000000 := by
  have h1 : q ^ a ≤ 10 ^ a := Nat.pow_le_pow_left hq a
  have h2 : (10 - q) ^ (s - a) ≤ 10 ^ (s - a) := Nat.pow_le_pow_left (by omega) _
  have h3 := Nat.mul_le_mul h1 h2
  rw [← Nat.pow_add, show a + (s - a) = s by omega] at h3
  have h4 : 10 ^ s ≤ 10 ^ 8 := Nat.pow_le_pow_right (by decide) hs
  exact Nat.le_trans h3 h4
theorem c_xFu (sc : zScr) {S : zS} {k p q y x : Nat} (hI : Inv S) (hq : q ≤ 10) (hy : y < S 0 0) (hx : x < S 0 0) (i : Nat → Nat → Int32) (hX : XR S i) (h5 : i 72 5 = nI (sBt (sSl S k) (S 1 0))) (h4 : i 72 4 = nI (sCt (sAu S k p) (S 1 0))) (h74 : ∀ g, g < S 1 0 → sAu S k p g → i 74 (sCt (sAu S k p) g) = nI g) (b : Bool) (l : Nat → Nat → Int64) : ∀ (n t : Nat) (w6 w7 : Option Value), t + n = 2 ^ sCt (sAu S k p) (S 1 0) → zev sc (49, 6, [some (.ref 72), some (.int (nI y)), some (.int (nI x)), some (.int (nI q)), some (.int (nI (zsum (sGx S k p q y x) t))), some (.int (nI t)), w6, w7], [], (197, i, zRF b, l)) = some (.int (nI (zsum (sGx S k p q y x) (2 ^ sCt (sAu S k p) (S 1 0)))), (197, i, zRF b, l))
  | 0, t, w6, w7, ht => by
    have hE := hI.E
    have hs := sCt_le (sAu S k p) (S 1 0)
    have e : t = 2 ^ sCt (sAu S k p) (S 1 0) := by omega
    subst e
    rw [b49_6, h4, zsh1 (by omega), if_pos (Int32.le_refl _), b49_85]
  | n + 1, t, w6, w7, ht => by
    have hE := hI.E
    have hF := hI.F
    have hs := sCt_le (sAu S k p) (S 1 0)
    have h2 := z2p (n := sCt (sAu S k p) (S 1 0)) (by omega)
    have hz : zpc t ≤ sCt (sAu S k p) (S 1 0) := by
      rw [zpc_F (show sCt (sAu S k p) (S 1 0) ≤ 8 by omega) (by omega)]
      exact zbt_sum_le t _
    have hsl := sBt_lt (sSl S k) (S 1 0)
    have hsn := sSn_lt (A := sAu S k p) t (S 1 0)
    have h8 := z2p hE
    have ho : sBt (sSl S k) (S 1 0) ||| sSn (sAu S k p) t (S 1 0) < 256 := Nat.lt_of_lt_of_le (zor_lt hsl hsn) h8
    have hw := zw_le hq hz (show sCt (sAu S k p) (S 1 0) ≤ 8 by omega)
    have hu : zbt (sRr S (zbt (sBt (sSl S k) (S 1 0) ||| sSn (sAu S k p) t (S 1 0))) y (S 0 0 - 1)) x = sUh S k y x (sSn (sAu S k p) t (S 1 0)) := by
      unfold sUh
      rw [sRr_congr y (o := zbt (sBt (sSl S k) (S 1 0) ||| sSn (sAu S k p) t (S 1 0))) (o' := sOp S k (sSn (sAu S k p) t (S 1 0)))]
      intro f hf
      refine zbt_ite ?_
      rw [zbt_oor, zbt_bt]
      constructor
      · rintro (z | z)
        · exact Or.inr z.2
        · exact Or.inl z
      · rintro (z | z)
        · exact Or.inr z
        · exact Or.inl ⟨hf, z⟩
    have eG : sGx S k p q y x t = q ^ zpc t * (10 - q) ^ (sCt (sAu S k p) (S 1 0) - zpc t) * sUh S k y x (sSn (sAu S k p) t (S 1 0)) := by
      unfold sGx
      rw [Nat.zero_or]
    have ez : zsum (sGx S k p q y x) (t + 1) = zsum (sGx S k p q y x) t + sGx S k p q y x t := rfl
    have g0 : ∀ w6 w7, sGx S k p q y x t = 0 → zev sc (49, 79, [some (.ref 72), some (.int (nI y)), some (.int (nI x)), some (.int (nI q)), some (.int (nI (zsum (sGx S k p q y x) t))), some (.int (nI t)), some (.int w6), some (.int w7)], [], (197, i, zRF b, l)) = some (.int (nI (zsum (sGx S k p q y x) (2 ^ sCt (sAu S k p) (S 1 0)))), (197, i, zRF b, l)) := by
      intro w6 w7 h
      have ih := c_xFu sc hI hq hy hx i hX h5 h4 h74 b l n (t + 1) (some (.int w6)) (some (.int w7)) (by omega)
      rw [ez, h, Nat.add_zero] at ih
      rw [b49_79, nI_1, ih]
    have gs := c_xSf sc hI (k := k) (p := p) (t := t) (by omega) i h4 h74 b l (S 1 0) 0 (by omega)
    rw [show sSn (sAu S k p) t 0 = 0 from rfl, show sCt (sAu S k p) 0 = 0 from rfl, show nI 0 = 0 from rfl] at gs
    rw [b49_6, h4, zsh1 (by omega), if_neg (zq_nle (by omega) (by omega)), b49_17, c_bitCount sc (by omega), Option.bind_some]
    dsimp only
    rw [b49_22, c_power sc (by omega), Option.bind_some]
    dsimp only
    rw [b49_30, h4, L10, pk_sub hq, pk_sub hz, c_power sc (by omega), Option.bind_some]
    dsimp only
    rw [b49_44, zmul]
    by_cases hW : q ^ zpc t * (10 - q) ^ (sCt (sAu S k p) (S 1 0) - zpc t) = 0
    · rw [if_pos ((nI_le0 (by omega)).mpr hW)]
      exact g0 _ _ (by rw [eG, hW, Nat.zero_mul])
    · rw [if_neg (fun z => hW ((nI_le0 (by omega)).mp z)), b49_52, b50_0, gs, Option.bind_some]
      dsimp only
      rw [b49_65, h5, fa_or, c_xRe sc hI ho hy hx i hX, hu, Option.bind_some]
      dsimp only
      rw [b49_69]
      have h01 := sUh_le S k y x (sSn (sAu S k p) t (S 1 0))
      by_cases hr : sUh S k y x (sSn (sAu S k p) t (S 1 0)) = 0
      · rw [show nI (sUh S k y x (sSn (sAu S k p) t (S 1 0))) = 0 by rw [hr]; rfl, if_pos rfl]
        exact g0 _ _ (by rw [eG, hr, Nat.mul_zero])
      · have hr1 : sUh S k y x (sSn (sAu S k p) t (S 1 0)) = 1 := by omega
        have ih := c_xFu sc hI hq hy hx i hX h5 h4 h74 b l n (t + 1) (some (.int (nI (zpc t)))) (some (.int (nI (q ^ zpc t * (10 - q) ^ (sCt (sAu S k p) (S 1 0) - zpc t))))) (by omega)
        rw [ez, eG, hr1, Nat.mul_one] at ih
        rw [show nI (sUh S k y x (sSn (sAu S k p) t (S 1 0))) = 1 by rw [hr1]; rfl, if_neg (by decide), b49_72, nI_add, b49_79, nI_1, ih]
theorem c_mMay (sc : zScr) {S : zS} {p : Nat} (hI : Inv S) (hp : p ≤ 40) (v1 v2 v3 v5 v6 : Int32) (i : Nat → Nat → Int32) (hM : MR S i) (b : Bool) (l : Nat → Nat → Int64) : ∀ (n f : Nat) (w10 : Option Value), f + n = S 1 0 → ∃ w10', zev sc (177, 67, [some (.ref 173), some (.int v1), some (.int v2), some (.int v3), some (.int (nI p)), some (.int v5), some (.int v6), some (.int (nI (sBt (sMy S p) f))), some (.int (nI (10 ^ sCt (sMy S p) f))), some (.int (nI f)), w10, none, none], [], (197, i, zRF b, l)) = zev sc (177, 149, [some (.ref 173), some (.int v1), some (.int v2), some (.int v3), some (.int (nI p)), some (.int v5), some (.int v6), some (.int (nI (sBt (sMy S p) (S 1 0)))), some (.int (nI (10 ^ sCt (sMy S p) (S 1 0)))), some (.int (nI (S 1 0))), w10', none, none], [], (197, i, zRF b, l))
  | 0, f, w10, hf => by
    have e : f = S 1 0 := by omega
    subst e
    refine ⟨w10, ?_⟩
    rw [b177_67, hM.E, if_pos (Int32.le_refl _)]
  | n + 1, f, w10, hf => by
    have hE := hI.E
    have hff : f < S 1 0 := by omega
    have hpt := hI.pit hff
    have e6 : (6 : Int32) + nI f = nI (6 + f) := by rw [L6, nI_add]
    have hlt := sBt_lt (sMy S p) f
    have h01 : zev sc (177, 67, [some (.ref 173), some (.int v1), some (.int v2), some (.int v3), some (.int (nI p)), some (.int v5), some (.int v6), some (.int (nI (sBt (sMy S p) f))), some (.int (nI (10 ^ sCt (sMy S p) f))), some (.int (nI f)), w10, none, none], [], (197, i, zRF b, l)) = zev sc (177, 107, [some (.ref 173), some (.int v1), some (.int v2), some (.int v3), some (.int (nI p)), some (.int v5), some (.int v6), some (.int (nI (sBt (sMy S p) f))), some (.int (nI (10 ^ sCt (sMy S p) f))), some (.int (nI f)), w10, none, none], [.int (if sMy S p f then 1 else 0)], (197, i, zRF b, l)) := by
      rw [b177_67, hM.E, if_neg (zq_nle (by omega) (by omega)), b177_78, c_mStr sc hI hff i hM, Option.bind_some]
      dsimp only
      rw [b177_84]
      rcases sStr_01 S f with q | q
      · rw [show nI (sStr S f) = 0 by rw [q]; rfl, if_pos rfl, b177_106, if_neg (fun z => by have := z.1; omega)]
      · rw [show nI (sStr S f) = 1 by rw [q]; rfl, if_neg (by decide), b177_87 _ _ _ _ _ _ _ _ _ _ _ _ _ _ (by rw [e6]; exact vp_in_nI (by omega) (by decide)), e6, nI_clamp (by omega), hM.now (by omega)]
        by_cases h : p ≤ S 9 (6 + f)
        · rw [if_neg (nI_nlt h (by omega)), b177_102, if_pos ⟨q, h⟩]
        · rw [if_pos ((nI_ltI (by omega) (by omega)).mpr (by omega)), b177_106, if_neg (fun z => h z.2)]
    by_cases hA : sMy S p f
    · obtain ⟨w10', ih⟩ := c_mMay sc hI hp v1 v2 v3 v5 v6 i hM b l n (f + 1) (some (.int 1)) (by omega)
      refine ⟨w10', ?_⟩
      have e1 : sBt (sMy S p) (f + 1) = sBt (sMy S p) f ||| 2 ^ f := if_pos hA
      have e2 : sCt (sMy S p) (f + 1) = sCt (sMy S p) f + 1 := if_pos hA
      rw [h01, ← ih, if_pos hA, b177_107, if_neg (by decide), b177_116, zsh1 (by omega), b177_124, if_neg (by decide), fa_or, b177_134, b177_140, L10, zmul, nI_1, e1, e2, Nat.pow_succ]
    · obtain ⟨w10', ih⟩ := c_mMay sc hI hp v1 v2 v3 v5 v6 i hM b l n (f + 1) (some (.int 0)) (by omega)
      refine ⟨w10', ?_⟩
      have e1 : sBt (sMy S p) (f + 1) = sBt (sMy S p) f := if_neg hA
      have e2 : sCt (sMy S p) (f + 1) = sCt (sMy S p) f := if_neg hA
      have e3 : nI (sBt (sMy S p) f) ||| (0 : Int32) = nI (sBt (sMy S p) f) := by
        rw [L0, fa_or, Nat.or_zero]
      rw [h01, ← ih, if_neg hA, b177_107, if_pos rfl, b177_123, b177_124, if_pos rfl, e3, b177_139, b177_140, L1, zmul, ← L1, nI_1, e1, e2, Nat.mul_one]
theorem c_mRf (sc : zScr) {S : zS} {k c on : Nat} (hI : Inv S) (hk : k < S 2 0) (hc : c < 256) (hon : on < 2 ^ S 0 0) (v2 v3 v6 : Int32) (i : Nat → Nat → Int32) (hM : MR S i) (b : Bool) (l : Nat → Nat → Int64) : ∀ (n f : Nat) (w8 w9 : Option Value), f + n = S 1 0 → ∃ w8' w9', zev sc (176, 18, [some (.ref 173), some (.int (nI k)), some (.int v2), some (.int v3), some (.int (nI c)), some (.int (nI (sRg S (sOp S k c) on f))), some (.int v6), some (.int (nI f)), w8, w9], [], (197, i, zRF b, l)) = zev sc (176, 137, [some (.ref 173), some (.int (nI k)), some (.int v2), some (.int v3), some (.int (nI c)), some (.int (nI (sRg S (sOp S k c) on (S 1 0)))), some (.int v6), some (.int (nI (S 1 0))), w8', w9'], [], (197, i, zRF b, l))
  | 0, f, w8, w9, hf => by
    have e : f = S 1 0 := by omega
    subst e
    refine ⟨w8, w9, ?_⟩
    rw [b176_18, hM.E, if_pos (Int32.le_refl _)]
  | n + 1, f, w8, w9, hf => by
    have hE := hI.E
    have hF := hI.F
    have hA := z2p hF.2
    have hff : f < S 1 0 := by omega
    obtain ⟨hl, hr, -⟩ := hI.lr f hff
    have hs := sSnd_le hI hk hff
    have hg := (sRg_gr hI (sOp S k c) hon f (by omega)).2
    have cf : (nI f).toNatClampNeg = f := nI_clamp (by omega)
    have gf : vp_in (nI f) 16 := vp_in_nI (by omega) (by decide)
    have es : sRg S (sOp S k c) on (f + 1) = sRf S (sOp S k c) (sRg S (sOp S k c) on f) f := rfl
    have e0 : ∀ u, nI u ||| (0 : Int32) = nI u := fun u => by rw [L0, fa_or, Nat.or_zero]
    have s1 : zev sc (176, 18, [some (.ref 173), some (.int (nI k)), some (.int v2), some (.int v3), some (.int (nI c)), some (.int (nI (sRg S (sOp S k c) on f))), some (.int v6), some (.int (nI f)), w8, w9], [], (197, i, zRF b, l)) = zev sc (176, 54, [some (.ref 173), some (.int (nI k)), some (.int v2), some (.int v3), some (.int (nI c)), some (.int (nI (sRg S (sOp S k c) on f))), some (.int v6), some (.int (nI f)), w8, w9], [.int (nI (sOp S k c f))], (197, i, zRF b, l)) := by
      rw [b176_18, hM.E, if_neg (zq_nle (by omega) (by omega)), b176_29, c_has sc (by omega) (by omega), Option.bind_some]
      dsimp only
      rw [b176_36]
      unfold sOp
      rcases zbt_01 c f with q | q
      · rw [show nI (zbt c f) = 0 by rw [q]; rfl, if_pos rfl, b176_39, c_mSound sc hI hk hff i hM, Option.bind_some]
        dsimp only
        rw [b176_46]
        by_cases h0 : sSnd S k f = 0
        · rw [if_pos ((nI_eq0 (by omega)).mpr h0), b176_49, if_pos (Or.inr h0)]
          rfl
        · rw [if_neg (fun z => h0 ((nI_eq0 (by omega)).mp z)), b176_53, if_neg (fun z => z.elim (fun z => by omega) h0)]
          rfl
      · rw [show nI (zbt c f) = 1 by rw [q]; rfl, if_neg (by decide), b176_49, if_pos (Or.inl q)]
        rfl
    have s2 : ∀ v w9, zev sc (176, 54, [some (.ref 173), some (.int (nI k)), some (.int v2), some (.int v3), some (.int (nI c)), some (.int (nI (sRg S (sOp S k c) on f))), some (.int v6), some (.int (nI f)), w8, w9], [.int v], (197, i, zRF b, l)) = zev sc (176, 91, [some (.ref 173), some (.int (nI k)), some (.int v2), some (.int v3), some (.int (nI c)), some (.int (nI (sRg S (sOp S k c) on f))), some (.int v6), some (.int (nI f)), some (.int v), w9], [.int (if zbt (sRg S (sOp S k c) on f) (S 4 f) = 1 ∨ zbt (sRg S (sOp S k c) on f) (S 5 f) = 1 then 1 else 0)], (197, i, zRF b, l)) := by
      intro v w9
      rw [b176_54 _ _ _ _ _ _ _ _ _ _ _ _ _ _ gf, cf, hM.l hff, c_has sc (by omega) (by omega), Option.bind_some]
      dsimp only
      rw [b176_68]
      rcases zbt_01 (sRg S (sOp S k c) on f) (S 4 f) with q | q
      · rw [show nI (zbt (sRg S (sOp S k c) on f) (S 4 f)) = 0 by rw [q]; rfl, if_pos rfl, b176_71 _ _ _ _ _ _ _ _ _ _ _ _ _ gf, cf, hM.r hff, c_has sc (by omega) (by omega), Option.bind_some]
        dsimp only
        rw [b176_83]
        rcases zbt_01 (sRg S (sOp S k c) on f) (S 5 f) with q2 | q2
        · rw [show nI (zbt (sRg S (sOp S k c) on f) (S 5 f)) = 0 by rw [q2]; rfl, if_pos rfl, b176_90, if_neg (by omega)]
        · rw [show nI (zbt (sRg S (sOp S k c) on f) (S 5 f)) = 1 by rw [q2]; rfl, if_neg (by decide), b176_86, if_pos (Or.inr q2)]
      · rw [show nI (zbt (sRg S (sOp S k c) on f) (S 4 f)) = 1 by rw [q]; rfl, if_neg (by decide), b176_86, if_pos (Or.inl q)]
    obtain ⟨w8', w9', ih⟩ := c_mRf sc hI hk hc hon v2 v3 v6 i hM b l n (f + 1) (some (.int (nI (sOp S k c f)))) (some (.int (if zbt (sRg S (sOp S k c) on f) (S 4 f) = 1 ∨ zbt (sRg S (sOp S k c) on f) (S 5 f) = 1 then 1 else 0))) (by omega)
    refine ⟨w8', w9', ?_⟩
    rw [s1, s2, ← ih, es, b176_91]
    by_cases h1 : sOp S k c f = 1
    · rw [show nI (sOp S k c f) = 1 by rw [h1]; rfl, if_neg (by decide), b176_100]
      by_cases h2 : zbt (sRg S (sOp S k c) on f) (S 4 f) = 1 ∨ zbt (sRg S (sOp S k c) on f) (S 5 f) = 1
      · rw [if_pos h2, if_neg (by decide), b176_105 _ _ _ _ _ _ _ _ _ _ _ _ _ _ gf, cf, hM.l hff, hM.r hff, zsh1 (by omega), zsh1 (by omega), fa_or, b176_128, fa_or, nI_1, show sRf S (sOp S k c) (sRg S (sOp S k c) on f) f = sRg S (sOp S k c) on f ||| sEb S f from if_pos ⟨h1, h2⟩]
        rfl
      · rw [if_neg h2, if_pos rfl, b176_127, b176_128, e0, nI_1, show sRf S (sOp S k c) (sRg S (sOp S k c) on f) f = sRg S (sOp S k c) on f from if_neg (fun z => h2 z.2)]
    · have h0 : sOp S k c f = 0 := by
        unfold sOp at h1 ⊢
        split
        · rename_i z
          rw [if_pos z] at h1
          exact absurd rfl h1
        · rfl
      rw [show nI (sOp S k c f) = 0 by rw [h0]; rfl, if_pos rfl, b176_127, b176_128, e0, nI_1, show sRf S (sOp S k c) (sRg S (sOp S k c) on f) f = sRg S (sOp S k c) on f from if_neg (fun z => h1 z.1)]
theorem c_mRr (sc : zScr) {S : zS} {k c y x : Nat} (hI : Inv S) (hk : k < S 2 0) (hc : c < 256) (hy : y < S 0 0) (hx : x < S 0 0) (v2 : Int32) (i : Nat → Nat → Int32) (hM : MR S i) (b : Bool) (l : Nat → Nat → Int64) : ∀ (n j : Nat) (w7 w8 w9 : Option Value), j + n = 8 → zev sc (176, 8, [some (.ref 173), some (.int (nI k)), some (.int v2), some (.int (nI x)), some (.int (nI c)), some (.int (nI (sRr S (sOp S k c) y j))), some (.int (nI j)), w7, w8, w9], [], (197, i, zRF b, l)) = some (.int (nI (sUh S k y x c)), (197, i, zRF b, l))
  | 0, j, w7, w8, w9, hj => by
    have hF := hI.F
    have hA := z2p hF.2
    have e : j = 8 := by omega
    subst e
    have hl := sRr_lt hI (sOp S k c) hy 8
    have hc8 : sRr S (sOp S k c) y 8 = sRr S (sOp S k c) y (S 0 0 - 1) := by
      have := sRr_conv hI (sOp S k c) hy (8 - (S 0 0 - 1))
      rw [show S 0 0 - 1 + (8 - (S 0 0 - 1)) = 8 by omega] at this
      exact this
    rw [b176_8, if_pos (by decide), b176_143, c_has sc (by omega) (by omega), Option.bind_some]
    dsimp only
    rw [b176_149 _ _ _ _ _ _ _ _ _ _ _ _ _ _ (by rcases zbt_01 (sRr S (sOp S k c) y 8) x with q | q <;> rw [q]; exact Or.inl rfl; exact Or.inr rfl), hc8]
    rfl
  | n + 1, j, w7, w8, w9, hj => by
    obtain ⟨w8', w9', g⟩ := c_mRf sc hI hk hc (sRr_lt hI (sOp S k c) hy j) v2 (nI x) (nI j) i hM b l (S 1 0) 0 w8 w9 (by omega)
    have ih := c_mRr sc hI hk hc hy hx v2 i hM b l n (j + 1) (some (.int (nI (S 1 0)))) w8' w9' (by omega)
    rw [show nI 0 = 0 from rfl, show sRg S (sOp S k c) (sRr S (sOp S k c) y j) 0 = sRr S (sOp S k c) y j from rfl] at g
    rw [← ih, b176_8, if_neg (show ¬ (8 : Int32) ≤ nI j from zq_nle (a := 8) (by omega) (by decide)), b176_15, g, b176_137, nI_1]
    rfl
theorem c_mUh (sc : zScr) {S : zS} {k c y x : Nat} (hI : Inv S) (hk : k < S 2 0) (hc : c < 256) (hy : y < S 0 0) (hx : x < S 0 0) (i : Nat → Nat → Int32) (hM : MR S i) (b : Bool) (l : Nat → Nat → Int64) : zev sc (176, 0, [some (.ref 173), some (.int (nI k)), some (.int (nI y)), some (.int (nI x)), some (.int (nI c)), none, none, none, none, none], [], (197, i, zRF b, l)) = some (.int (nI (sUh S k y x c)), (197, i, zRF b, l)) := by
  have hF := hI.F
  have g := c_mRr sc hI hk hc hy hx (nI y) i hM b l 8 0 none none none (by omega)
  rw [show nI 0 = 0 from rfl, show sRr S (sOp S k c) y 0 = 2 ^ y from rfl] at g
  rw [b176_0, zsh1 (by omega), g]
