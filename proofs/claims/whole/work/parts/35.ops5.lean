/-! ways -/
theorem zmod {n : Nat} (hn : n < 2 ^ 31) : nI n - nI n / 1000003 * 1000003 = nI (n % 1000003) := by
  have hq : nI n / 1000003 = nI (n / 1000003) := by
    apply Int32.toInt_inj.mp
    have hd : n / 1000003 ≤ n := Nat.div_le_self _ _
    rw [Int32.toInt_div_of_ne_right _ _ (by decide), nI_toInt hn, nI_toInt (by omega), show (1000003 : Int32).toInt = ((1000003 : Nat) : Int) from rfl, Int.ofNat_tdiv]
  have hle : n / 1000003 * 1000003 ≤ n := Nat.div_mul_le_self _ _
  rw [hq, L1000003, zmul]
  have := Nat.div_add_mod n 1000003
  obtain ⟨r, hr⟩ : ∃ r, n = n / 1000003 * 1000003 + r := ⟨n - n / 1000003 * 1000003, by omega⟩
  apply Int32.toInt_inj.mp
  rw [Int32.toInt_sub, nI_toInt hn, nI_toInt (by omega), nI_toInt (by omega), Int.bmod_eq_of_le (by omega) (by omega)]
  omega
theorem zRL_len : ∀ b, (zRL b).length = 197 := by decide +kernel
theorem zRL_same : ∀ a, a < 197 → a ≠ 67 → (zRL true)[a]? = (zRL false)[a]? := by decide +kernel
theorem zRF_same {a : Nat} (h : a ≠ 67) (b : Bool) (j : Nat) : zRF (!b) a j = zRF b a j := by
  have e : (zRL true)[a]? = (zRL false)[a]? := by
    by_cases g : a < 197
    · exact zRL_same a g h
    · rw [List.getElem?_eq_none (by rw [zRL_len]; omega), List.getElem?_eq_none (by rw [zRL_len]; omega)]
  unfold zRF
  cases b
  · show ((zRL true)[a]?.bind _).join = ((zRL false)[a]?.bind _).join
    rw [e]
  · show ((zRL false)[a]?.bind _).join = ((zRL true)[a]?.bind _).join
    rw [e]
theorem zRF_67 (b : Bool) : ∀ j, zRF (!b) 67 j = if j = 5 then some (zrw b 4) else if j = 4 then some (zrw b 5) else zRF b 67 j
  | 0 => by cases b <;> rfl
  | 1 => by cases b <;> rfl
  | 2 => by cases b <;> rfl
  | 3 => by cases b <;> rfl
  | 4 => by cases b <;> rfl
  | 5 => by cases b <;> rfl
  | 6 => by cases b <;> rfl
  | n + 7 => by
    rw [if_neg (by omega), if_neg (by omega)]
    cases b <;> rfl
theorem zRF_swap (b : Bool) : zU (zU (zRF b) 67 4 (some (zrw b 5))) 67 5 (some (zrw b 4)) = zRF (!b) := by
  funext a j
  by_cases h : a = 67
  · subst h
    rw [zRF_67]
    unfold zU
    by_cases h5 : j = 5
    · rw [if_pos ⟨rfl, h5⟩, if_pos h5]
    · rw [if_neg (fun z => h5 z.2), if_neg h5]
      by_cases h4 : j = 4
      · rw [if_pos ⟨rfl, h4⟩, if_pos h4]
      · rw [if_neg (fun z => h4 z.2), if_neg h4]
  · rw [zRF_same h, zUn _ _ (Or.inl h), zUn _ _ (Or.inl h)]
theorem zrw_no (b : Bool) : zrw (!b) 4 = zrw b 5 := by cases b <;> rfl
theorem zrw_r (b : Bool) : (zrw b 4 = 70 ∨ zrw b 4 = 71) ∧ (zrw b 5 = 70 ∨ zrw b 5 = 71) ∧ zrw b 4 ≠ zrw b 5 := by cases b <;> decide
def sWu (acc q : Nat → Nat) (a c : Nat) : Nat → Nat := fun t => if t = a then (acc a + q c) % 1000003 else if t = c then (acc c + q a) % 1000003 else acc t
def sWf (S : zS) (k s : Nat) (q : Nat → Nat) : Nat → Nat → (Nat → Nat) → Nat → Nat
  | 0, _, acc => acc
  | n + 1, f, acc => sWf S k s q n (f + 1) (if sSnd S k f = s then sWu acc q (S 4 f) (S 5 f) else acc)
def sWr (S : zS) (k : Nat) : Nat → Nat → (Nat → Nat) → Nat → Nat
  | 0, _, q => q
  | n + 1, j, q => sWr S k n (j + 1) (sWf S k (S 14 j) q (S 1 0) 0 (fun _ => 0))
def sWm (q : Nat → Nat) : Nat → Nat
  | 0 => 0
  | n + 1 => (sWm q n + q n) % 1000003
theorem sWu_lt {acc q : Nat → Nat} {a c : Nat} (h : ∀ t, acc t < 1000003) (t : Nat) : sWu acc q a c t < 1000003 := by
  unfold sWu
  split
  · exact Nat.mod_lt _ (by decide)
  · split
    · exact Nat.mod_lt _ (by decide)
    · exact h t
theorem sWf_lt (S : zS) (k s : Nat) (q : Nat → Nat) : ∀ n f acc, (∀ t, acc t < 1000003) → ∀ t, sWf S k s q n f acc t < 1000003
  | 0, _, _, h => h
  | n + 1, f, acc, h => by
    unfold sWf
    refine sWf_lt S k s q n (f + 1) _ (fun t => ?_)
    split
    · exact sWu_lt h t
    · exact h t
theorem sWf_0 {S : zS} (hI : Inv S) (k s : Nat) (q : Nat → Nat) : ∀ n f acc, f + n = S 1 0 → (∀ t, S 0 0 ≤ t → acc t = 0) → ∀ t, S 0 0 ≤ t → sWf S k s q n f acc t = 0
  | 0, _, _, _, h => h
  | n + 1, f, acc, hf, h => by
    obtain ⟨hl, hr, -⟩ := hI.lr f (by omega)
    unfold sWf
    refine sWf_0 hI k s q n (f + 1) _ (by omega) (fun t ht => ?_)
    split
    · unfold sWu
      rw [if_neg (by omega), if_neg (by omega)]
      exact h t ht
    · exact h t ht
theorem sWr_lt (S : zS) (k : Nat) : ∀ n j q, (∀ t, q t < 1000003) → ∀ t, sWr S k n j q t < 1000003
  | 0, _, _, h => h
  | n + 1, j, q, h => sWr_lt S k n (j + 1) _ (sWf_lt S k _ q _ _ _ (fun _ => by decide))
theorem sWr_0 {S : zS} (hI : Inv S) (k : Nat) : ∀ n j q, (∀ t, S 0 0 ≤ t → q t = 0) → ∀ t, S 0 0 ≤ t → sWr S k n j q t = 0
  | 0, _, _, h => h
  | n + 1, j, q, h => sWr_0 hI k n (j + 1) _ (sWf_0 hI k _ q _ _ _ (by omega) (fun _ _ => rfl))
theorem sWm_lt (q : Nat → Nat) : ∀ n, sWm q n < 1000003
  | 0 => (by decide : 0 < 1000003)
  | n + 1 => Nat.mod_lt _ (by decide)
theorem sWm_0 {q : Nat → Nat} {F : Nat} (h : ∀ t, F ≤ t → q t = 0) : ∀ d, sWm q (F + d) = sWm q F
  | 0 => rfl
  | d + 1 => by
    show (sWm q (F + d) + q (F + d)) % 1000003 = _
    rw [h _ (by omega), sWm_0 h d]
    exact Nat.mod_eq_of_lt (sWm_lt q F)
/-- one crossing, in the class -/
theorem c_xCrL (sc : zScr) {S : zS} {k s : Nat} (hI : Inv S) (hk : k < S 2 0) (hs : s ≤ 43) (q : Nat → Nat) (hq : ∀ t, q t < 1000003) (b : Bool) (l : Nat → Nat → Int64) : ∀ (n f : Nat) (acc : Nat → Nat) (i : Nat → Nat → Int32) (w w2 : Option Value), f + n = S 1 0 → XR S i → (∀ t, acc t < 1000003) → (∀ t, t < S 0 0 → i (zrw b 5) t = nI (acc t)) → (∀ t, t < S 0 0 → i (zrw b 4) t = nI (q t)) → ∃ i' w' w2', zev sc (22, 28, [some (.ref 67), some (.int (nI k)), some (.int (nI s)), some (.int (nI f)), w, w2], [], (197, i, zRF b, l)) = zev sc (22, 130, [some (.ref 67), some (.int (nI k)), some (.int (nI s)), some (.int (nI (S 1 0))), w', w2'], [], (197, i', zRF b, l)) ∧ (∀ t, t < S 0 0 → i' (zrw b 5) t = nI (sWf S k s q n f acc t)) ∧ ∀ c j, c ≠ zrw b 5 → i' c j = i c j
  | 0, f, acc, i, w, w2, hf, hX, ha, h5, h4 => by
    have e : f = S 1 0 := by omega
    subst e
    refine ⟨i, w, w2, ?_, h5, fun _ _ _ => rfl⟩
    rw [b22_28, hX.E, if_pos (Int32.le_refl _)]
  | n + 1, f, acc, i, w, w2, hf, hX, ha, h5, h4 => by
    have hE := hI.E
    have hF := hI.F
    obtain ⟨z4, z5, zne⟩ := zrw_r b
    have hff : f < S 1 0 := by omega
    obtain ⟨hl, hr, hlr⟩ := hI.lr f hff
    have hsn := sSnd_le hI hk hff
    have hh : zev sc (22, 28, [some (.ref 67), some (.int (nI k)), some (.int (nI s)), some (.int (nI f)), w, w2], [], (197, i, zRF b, l)) = if nI (sSnd S k f) = nI s then zev sc (22, 52, [some (.ref 67), some (.int (nI k)), some (.int (nI s)), some (.int (nI f)), w, w2], [], (197, i, zRF b, l)) else zev sc (22, 124, [some (.ref 67), some (.int (nI k)), some (.int (nI s)), some (.int (nI f)), w, w2], [], (197, i, zRF b, l)) := by
      rw [b22_28, hX.E, if_neg (zq_nle (by omega) (by omega)), b22_39, c_xSound sc hI hk hff i hX, Option.bind_some]
      dsimp only
      rw [b22_48]
    by_cases hsq : sSnd S k f = s
    · have g1 := ha (S 4 f)
      have g2 := hq (S 5 f)
      have g3 := ha (S 5 f)
      have g4 := hq (S 4 f)
      have e1 : i (zrw b 5) (S 4 f) + i (zrw b 4) (S 5 f) - (i (zrw b 5) (S 4 f) + i (zrw b 4) (S 5 f)) / 1000003 * 1000003 = nI ((acc (S 4 f) + q (S 5 f)) % 1000003) := by
        rw [h5 _ hl, h4 _ hr, nI_add, zmod (by omega)]
      have e2 : zU i (zrw b 5) (S 4 f) (nI ((acc (S 4 f) + q (S 5 f)) % 1000003)) (zrw b 5) (S 5 f) = nI (acc (S 5 f)) := by rw [zUn _ _ (Or.inr (by omega)), h5 _ hr]
      have e3 : zU i (zrw b 5) (S 4 f) (nI ((acc (S 4 f) + q (S 5 f)) % 1000003)) (zrw b 4) (S 4 f) = nI (q (S 4 f)) := by rw [zUn _ _ (Or.inl zne), h4 _ hl]
      have e4 : nI (acc (S 5 f)) + nI (q (S 4 f)) - (nI (acc (S 5 f)) + nI (q (S 4 f))) / 1000003 * 1000003 = nI ((acc (S 5 f) + q (S 4 f)) % 1000003) := by rw [nI_add, zmod (by omega)]
      have hcf : (nI f).toNatClampNeg = f := nI_clamp (by omega)
      have hne : ∀ c j, c ≠ zrw b 5 → zU (zU i (zrw b 5) (S 4 f) (nI ((acc (S 4 f) + q (S 5 f)) % 1000003))) (zrw b 5) (S 5 f) (nI ((acc (S 5 f) + q (S 4 f)) % 1000003)) c j = i c j := fun c j hc => by rw [zUn _ _ (Or.inl hc), zUn _ _ (Or.inl hc)]
      obtain ⟨i', w', w2', p1, p2, p3⟩ := c_xCrL sc hI hk hs q hq b l n (f + 1) (sWu acc q (S 4 f) (S 5 f)) (zU (zU i (zrw b 5) (S 4 f) (nI ((acc (S 4 f) + q (S 5 f)) % 1000003))) (zrw b 5) (S 5 f) (nI ((acc (S 5 f) + q (S 4 f)) % 1000003))) (some (.int (nI (S 4 f)))) (some (.int (nI (S 5 f)))) (by omega) (hX.congr (fun c j z => hne c j (by have := z.2.2.2; omega))) (sWu_lt ha) (fun t ht => by
        unfold sWu
        by_cases q5 : t = S 5 f
        · rw [q5, zUs, if_neg (fun z => hlr z.symm), if_pos rfl]
        · rw [zUn _ _ (Or.inr q5)]
          by_cases q4 : t = S 4 f
          · rw [q4, zUs, if_pos rfl]
          · rw [zUn _ _ (Or.inr q4), if_neg q4, if_neg q5, h5 t ht]) (fun t ht => by rw [hne _ _ zne, h4 t ht])
      refine ⟨i', w', w2', ?_, ?_, fun c j hc => by rw [p3 c j hc, hne c j hc]⟩
      · rw [hh, if_pos (by rw [hsq]), ← p1, b22_52 _ _ _ _ _ _ _ _ _ (vp_in_nI (by omega) (by decide)) (by rw [hcf, hX.l hff]; exact vp_in_nI (by omega) (by decide)) (by rw [hcf, hX.r hff]; exact vp_in_nI (by omega) (by decide)), hcf, hX.l hff, hX.r hff, nI_clamp (n := S 4 f) (by omega), nI_clamp (n := S 5 f) (by omega), e1, e2, e3, e4, b22_124, nI_1]
      · intro t ht
        rw [p2 t ht]
        show _ = nI (sWf S k s q n (f + 1) (if sSnd S k f = s then sWu acc q (S 4 f) (S 5 f) else acc) t)
        rw [if_pos hsq]
    · obtain ⟨i', w', w2', p1, p2, p3⟩ := c_xCrL sc hI hk hs q hq b l n (f + 1) acc i w w2 (by omega) hX ha h5 h4
      refine ⟨i', w', w2', ?_, ?_, p3⟩
      · rw [hh, if_neg (fun z => hsq ((nI_eq (by omega) (by omega)).mp z)), ← p1, b22_124, nI_1]
      · intro t ht
        rw [p2 t ht]
        show _ = nI (sWf S k s q n (f + 1) (if sSnd S k f = s then sWu acc q (S 4 f) (S 5 f) else acc) t)
        rw [if_neg hsq]
theorem c_xCr0 (sc : zScr) {S : zS} (hI : Inv S) (v1 v2 : Int32) (b : Bool) (l : Nat → Nat → Int64) : ∀ (n v : Nat) (i : Nat → Nat → Int32), v + n = S 0 0 → XR S i → (∀ t, t < v → i (zrw b 5) t = 0) → ∃ i', zev sc (22, 2, [some (.ref 67), some (.int v1), some (.int v2), some (.int (nI v)), none, none], [], (197, i, zRF b, l)) = zev sc (22, 26, [some (.ref 67), some (.int v1), some (.int v2), some (.int (nI (S 0 0))), none, none], [], (197, i', zRF b, l)) ∧ (∀ t, t < S 0 0 → i' (zrw b 5) t = 0) ∧ ∀ c j, c ≠ zrw b 5 → i' c j = i c j
  | 0, v, i, hv, hX, h0 => by
    have e : v = S 0 0 := by omega
    subst e
    refine ⟨i, ?_, h0, fun _ _ _ => rfl⟩
    rw [b22_2, hX.F, if_pos (Int32.le_refl _)]
  | n + 1, v, i, hv, hX, h0 => by
    have hF := hI.F
    obtain ⟨z4, z5, zne⟩ := zrw_r b
    obtain ⟨i', p1, p2, p3⟩ := c_xCr0 sc hI v1 v2 b l n (v + 1) (zU i (zrw b 5) v 0) (by omega) (hX.congr (fun c j z => zUn _ _ (Or.inl (by have := z.2.2.2; omega)))) (fun t ht => by
      by_cases e : t = v
      · rw [e, zUs]
      · rw [zUn _ _ (Or.inr e)]; exact h0 t (by omega))
    refine ⟨i', ?_, p2, fun c j hc => by rw [p3 c j hc, zUn _ _ (Or.inl hc)]⟩
    rw [← p1, b22_2, hX.F, if_neg (zq_nle (by omega) (by omega)), b22_13 _ _ _ _ _ _ _ (vp_in_nI (by omega) (by decide)), nI_clamp (by omega), nI_1]
theorem c_xCross (sc : zScr) {S : zS} {k s : Nat} (hI : Inv S) (hk : k < S 2 0) (hs : s ≤ 43) (q : Nat → Nat) (hq : ∀ t, q t < 1000003) (i : Nat → Nat → Int32) (hX : XR S i) (b : Bool) (l : Nat → Nat → Int64) (h4 : ∀ t, t < S 0 0 → i (zrw b 4) t = nI (q t)) : ∃ i', zev sc (22, 0, [some (.ref 67), some (.int (nI k)), some (.int (nI s)), none, none, none], [], (197, i, zRF b, l)) = some (.null, (197, i', zRF (!b), l)) ∧ (∀ t, t < S 0 0 → i' (zrw (!b) 4) t = nI (sWf S k s q (S 1 0) 0 (fun _ => 0) t)) ∧ ∀ c j, c ≠ 70 → c ≠ 71 → i' c j = i c j := by
  obtain ⟨z4, z5, zne⟩ := zrw_r b
  obtain ⟨i1, a1, a2, a3⟩ := c_xCr0 sc hI (nI k) (nI s) b l (S 0 0) 0 i (by omega) hX (fun t ht => absurd ht (Nat.not_lt_zero _))
  have hX1 : XR S i1 := hX.congr (fun c j z => a3 c j (by have := z.2.2.2; omega))
  obtain ⟨i2, w, w2, c1, c2, c3⟩ := c_xCrL sc hI hk hs q hq b l (S 1 0) 0 (fun _ => 0) i1 none none (by omega) hX1 (fun _ => by decide) a2 (fun t ht => by rw [a3 _ _ zne, h4 t ht])
  refine ⟨i2, ?_, by rw [zrw_no]; exact c2, fun c j h1 h2 => by rw [c3 c j (by omega), a3 c j (by omega)]⟩
  rw [show nI 0 = 0 from rfl] at a1 c1
  rw [b22_0, a1, b22_26, c1, b22_130, zRF_swap]
