/-! the past: note, know -/
theorem zmul (a b : Nat) : nI a * nI b = nI (a * b) := (Int32.ofNat_mul a b).symm
/-- the cells that are stands -/
def zSl : List Nat := [19, 26, 30, 34, 38, 42, 46, 50, 54, 58, 62, 80, 86, 90, 94, 98, 102, 106, 110, 114, 118, 122, 127, 133, 137, 141, 145, 149, 153, 157, 161, 165, 169]
def zSf (b : Bool) (a : Nat) : Bool := zok 197 a 7 && (zRF b a 0 == some (a + 1)) && (zRF b a 1 == some (a + 2)) && (zRF b a 2 == some (a + 3)) && zok 197 (a + 1) 100 && zok 197 (a + 2) 100 && zok 197 (a + 3) 100 && decide (6 ≤ (zK (a + 1)).2) && decide (8 ≤ (zK (a + 2)).2) && decide (12 ≤ (zK (a + 3)).2)
theorem zSf_all : ∀ b : Bool, ∀ a, a ∈ zSl → zSf b a = true := by decide +kernel
theorem zSl_ne : ∀ a, a ∈ zSl → ∀ c, c ∈ zSl → a ≠ c → a + 3 < c ∨ c + 3 < a := by decide +kernel
/-- one stand copied to another -/
theorem c_copy (sc : zScr) {a0 a1 : Nat} (h0 : a0 ∈ zSl) (h1 : a1 ∈ zSl) (hne : a0 ≠ a1) (i : Nat → Nat → Int32) (b : Bool) (l : Nat → Nat → Int64) : ∃ i', zev sc (56, 0, [some (.ref a0), some (.ref a1)], [], (197, i, zRF b, l)) = some (.null, (197, i', zRF b, l)) ∧ ((∀ t, t < 6 → i' (a0 + 1) t = i (a1 + 1) t) ∧ (∀ t, t < 8 → i' (a0 + 2) t = i (a1 + 2) t) ∧ (∀ t, t < 12 → i' (a0 + 3) t = i (a1 + 3) t) ∧ i' a0 3 = i a1 3 ∧ i' a0 4 = i a1 4 ∧ i' a0 5 = i a1 5 ∧ i' a0 6 = i a1 6) ∧ ∀ c j, (c < a0 ∨ a0 + 3 < c) → i' c j = i c j := by
  have f0 := zSf_all b a0 h0
  have f1 := zSf_all b a1 h1
  have hd := zSl_ne a0 h0 a1 h1 hne
  unfold zSf at f0 f1
  simp only [Bool.and_eq_true, beq_iff_eq, decide_eq_true_eq] at f0 f1
  obtain ⟨⟨⟨⟨⟨⟨⟨⟨⟨p1, p2⟩, p3⟩, p4⟩, p5⟩, p6⟩, p7⟩, p8⟩, p9⟩, p10⟩ := f0
  obtain ⟨⟨⟨⟨⟨⟨⟨⟨⟨s1, s2⟩, s3⟩, s4⟩, s5⟩, s6⟩, s7⟩, s8⟩, s9⟩, s10⟩ := f1
  refine ⟨_, b56_0 sc a0 a1 _ _ _ _ _ _ i b l s1 s2 p1 p2 p5 s5 s8 p8 s3 p3 p6 s6 s9 p9 s4 p4 p7 s7 s10 p10, ?_, ?_⟩
  · have cp : ∀ c j, (c < a0 ∨ a0 + 3 < c) ∨ c = a0 → zCp (zCp (zCp i (a1 + 1) (a0 + 1) 0 0 6) (a1 + 2) (a0 + 2) 0 0 8) (a1 + 3) (a0 + 3) 0 0 12 c j = i c j := by
      intro c j hc
      unfold zCp
      rw [if_neg (by omega), if_neg (by omega), if_neg (by omega)]
    refine ⟨fun t ht => ?_, fun t ht => ?_, fun t ht => ?_, ?_, ?_, ?_, ?_⟩
    · rw [zUn _ _ (Or.inl (by omega)), zUn _ _ (Or.inl (by omega)), zUn _ _ (Or.inl (by omega)), zUn _ _ (Or.inl (by omega))]
      unfold zCp
      rw [if_neg (by omega), if_neg (by omega), if_pos rfl]
      unfold va_cpy
      rw [if_pos (by omega), Nat.zero_add, Nat.sub_zero]
    · rw [zUn _ _ (Or.inl (by omega)), zUn _ _ (Or.inl (by omega)), zUn _ _ (Or.inl (by omega)), zUn _ _ (Or.inl (by omega))]
      unfold zCp
      rw [if_neg (by omega), if_pos rfl]
      unfold va_cpy
      rw [if_pos (by omega)]
      dsimp only
      rw [if_neg (by omega)]
      exact congrArg (i (a1 + 2)) (by omega)
    · rw [zUn _ _ (Or.inl (by omega)), zUn _ _ (Or.inl (by omega)), zUn _ _ (Or.inl (by omega)), zUn _ _ (Or.inl (by omega))]
      unfold zCp
      rw [if_pos rfl]
      unfold va_cpy
      rw [if_pos (by omega)]
      dsimp only
      rw [if_neg (by omega), if_neg (by omega)]
      exact congrArg (i (a1 + 3)) (by omega)
    · rw [zUn _ _ (Or.inr (by decide)), zUn _ _ (Or.inr (by decide)), zUn _ _ (Or.inr (by decide)), zUs, cp _ _ (Or.inl (by omega))]
    · rw [zUn _ _ (Or.inr (by decide)), zUn _ _ (Or.inr (by decide)), zUs, zUn _ _ (Or.inl (by omega)), cp _ _ (Or.inl (by omega))]
    · rw [zUn _ _ (Or.inr (by decide)), zUs, zUn _ _ (Or.inl (by omega)), zUn _ _ (Or.inl (by omega)), cp _ _ (Or.inl (by omega))]
    · rw [zUs, zUn _ _ (Or.inl (by omega)), zUn _ _ (Or.inl (by omega)), zUn _ _ (Or.inl (by omega)), cp _ _ (Or.inl (by omega))]
  · intro c j hc
    rw [zUn _ _ (Or.inl (by omega)), zUn _ _ (Or.inl (by omega)), zUn _ _ (Or.inl (by omega)), zUn _ _ (Or.inl (by omega))]
    unfold zCp
    rw [if_neg (by omega), if_neg (by omega), if_neg (by omega)]
/-- a stand that equals one -/
theorem XSt.copy {E B a a' : Nat} {r : Nat → Nat} {i i' : Nat → Nat → Int32} (h : XSt E B a r i) (hE : E ≤ 8) (hB : B ≤ 6) (hs : r 17 ≤ 12) (he : (∀ t, t < 6 → i' (a' + 1) t = i (a + 1) t) ∧ (∀ t, t < 8 → i' (a' + 2) t = i (a + 2) t) ∧ (∀ t, t < 12 → i' (a' + 3) t = i (a + 3) t) ∧ i' a' 3 = i a 3 ∧ i' a' 4 = i a 4 ∧ i' a' 5 = i a 5 ∧ i' a' 6 = i a 6) : XSt E B a' r i' := by
  obtain ⟨h1, h2, h3, h4, h5, h6, h7⟩ := h
  obtain ⟨e1, e2, e3, e4, e5, e6, e7⟩ := he
  refine ⟨fun b hb => ?_, fun f hf => ?_, fun j hj => ?_, ?_, ?_, ?_, ?_⟩
  · rw [e1 b (by omega)]; exact h1 b hb
  · rw [e2 f (by omega)]; exact h2 f hf
  · rw [e3 j (by omega)]; exact h3 j hj
  · rw [e4]; exact h4
  · rw [e5]; exact h5
  · rw [e6]; exact h6
  · rw [e7]; exact h7
theorem XSt.row {E B a : Nat} {r r' : Nat → Nat} {i : Nat → Nat → Int32} (h : XSt E B a r i) (hE : E ≤ 8) (hB : B ≤ 6) (hs : r 17 ≤ 12) (he : ∀ j, j < 30 → r' j = r j) : XSt E B a r' i := by
  obtain ⟨h1, h2, h3, h4, h5, h6, h7⟩ := h
  have e17 := he 17 (by decide)
  refine ⟨fun b hb => ?_, fun f hf => ?_, fun j hj => ?_, ?_, ?_, ?_, ?_⟩
  · rw [he _ (by omega)]; exact h1 b hb
  · rw [he _ (by omega)]; exact h2 f hf
  · rw [e17] at hj ⊢
    rw [he _ (by omega)]
    exact h3 j hj
  · rw [e17]; exact h4
  · rw [he _ (by decide)]; exact h5
  · rw [he _ (by decide)]; exact h6
  · rw [he _ (by decide)]; exact h7
theorem okR.row {F E B : Nat} {r r' : Nat → Nat} (h : okR F E B r) (hE : E ≤ 8) (hB : B ≤ 6) (he : ∀ j, j < 30 → r' j = r j) : okR F E B r' := by
  obtain ⟨h1, h2, h3, h4, h5, h6, h7⟩ := h
  have e17 := he 17 (by decide)
  refine ⟨fun b hb => ?_, fun f hf => ?_, ?_, ?_, ?_, ?_, fun j hj => ?_⟩
  · rw [he _ (by omega)]; exact h1 b hb
  · rw [he _ (by omega)]; exact h2 f hf
  · rw [he _ (by decide)]; exact h3
  · rw [he _ (by decide)]; exact h4
  · rw [he _ (by decide)]; exact h5
  · rw [e17]; exact h6
  · rw [e17] at hj
    rw [he _ (by omega)]
    exact h7 j hj
/-- the state with the stand put into the past -/
def sK1 (S : zS) : Nat := if S 10 0 = 10 then 9 else S 10 0
def sB1 (S : zS) (j : Nat) : Nat := if S 10 0 = 10 ∧ j < 270 then S 11 (30 + j) else S 11 j
def sB2 (S : zS) (j : Nat) : Nat := if 30 * sK1 S ≤ j ∧ j < 30 * sK1 S + 30 then S 9 (j - 30 * sK1 S) else sB1 S j
def sKn (S : zS) : zS := zRw (zRw S 10 (fun p => if p = 0 then sK1 S + 1 else S 10 p)) 11 (sB2 S)
theorem sK1_le {S : zS} (hI : Inv S) : sK1 S ≤ 9 := by
  have := (hI.past 0 (by decide) (Or.inl rfl)).1
  unfold sK1
  split <;> omega
/-- the rows of the past, afterwards: the last is the stand, the others are as they were -/
theorem rB_last {S : zS} (hI : Inv S) {j : Nat} (hj : j < 30) : rB (sKn S) 0 (sK1 S) j = S 9 j := by
  show sB2 S (300 * 0 + 30 * sK1 S + j) = _
  unfold sB2
  rw [if_pos (by omega)]
  exact congrArg (S 9) (by omega)
theorem rB_old {S : zS} (hI : Inv S) {n j : Nat} (hj : j < 30) (hn : n < sK1 S) : rB (sKn S) 0 n j = rB S 0 (if S 10 0 = 10 then n + 1 else n) j := by
  have hk := sK1_le hI
  show sB2 S (300 * 0 + 30 * n + j) = S 11 (300 * 0 + 30 * (if S 10 0 = 10 then n + 1 else n) + j)
  unfold sB2
  rw [if_neg (by omega)]
  unfold sB1
  by_cases h : S 10 0 = 10
  · rw [if_pos ⟨h, by omega⟩, if_pos h]
    exact congrArg (S 11) (by omega)
  · rw [if_neg (fun z => h z.1), if_neg h]
theorem rB_img {S : zS} (hI : Inv S) {p n j : Nat} (hj : j < 30) (hp : 1 ≤ p) : rB (sKn S) p n j = rB S p n j := by
  have hk := sK1_le hI
  show sB2 S (300 * p + 30 * n + j) = S 11 (300 * p + 30 * n + j)
  unfold sB2
  rw [if_neg (by omega)]
  unfold sB1
  rw [if_neg (by omega)]
theorem Inv.kn {S : zS} (hI : Inv S) : Inv (sKn S) := by
  have hk := sK1_le hI
  obtain ⟨h1, h2, h3, h4, h5, h6, h7, h8, h9, h10, h11, h12, h13, h14, h15⟩ := id hI
  refine ⟨h1, h2, h3, h4, h5, h6, h7, h8, ?_, h10, h11, h12, h13, h14, h15⟩
  intro p hp hq
  obtain ⟨g1, g2⟩ := h9 p hp hq
  by_cases e : p = 0
  · subst e
    refine ⟨show sK1 S + 1 ≤ 10 by omega, fun n hn => ?_⟩
    have hn' : n < sK1 S + 1 := hn
    by_cases e : n = sK1 S
    · subst e
      exact h8.row h2 h4 (fun j hj => rB_last hI hj)
    · refine (g2 (if S 10 0 = 10 then n + 1 else n) ?_).row h2 h4 (fun j hj => rB_old hI hj (by omega))
      unfold sK1 at hn' e
      split at hn' <;> rename_i q
      · rw [if_pos q] at e ⊢
        omega
      · rw [if_neg q] at e ⊢
        omega
  · have ep : sKn S 10 p = S 10 p := if_neg e
    rw [ep]
    exact ⟨g1, fun n hn => (g2 n hn).row h2 h4 (fun j hj => rB_img hI hj (by omega))⟩
/-- the class notes -/
theorem zring : ∀ t, t < 10 → zRF false 25 t = some (26 + 4 * t) ∧ zRF true 25 t = some (26 + 4 * t) ∧ (26 + 4 * t) ∈ zSl ∧ zok 197 (26 + 4 * t) 7 = true := by decide +kernel
theorem zringb (b : Bool) {t : Nat} (ht : t < 10) : zRF b 25 t = some (26 + 4 * t) := by
  cases b
  · exact (zring t ht).1
  · exact (zring t ht).2.1
theorem c_xNote (sc : zScr) {S : zS} (hI : Inv S) (i : Nat → Nat → Int32) (hX : XR S i) (b : Bool) (l : Nat → Nat → Int64) : ∃ i', zev sc (39, 0, [some (.ref 24), some (.ref 19)], [], (197, i, zRF b, l)) = some (.null, (197, i', zRF b, l)) ∧ XR (sKn S) i' ∧ ∀ c j, (c < 24 ∨ 65 < c) → i' c j = i c j := by
  have hE := hI.E
  have hB := hI.B
  have hk := sK1_le hI
  obtain ⟨hn, lt, hlt, hlat, hst⟩ := hX.past
  obtain ⟨hn10, hok⟩ := hI.past 0 (by decide) (Or.inl rfl)
  -- where the latest stands then
  have step : ∃ lt', lt' < 10 ∧ (lt' = lt + 1 ∨ (lt = 9 ∧ lt' = 0)) ∧ zev sc (39, 0, [some (.ref 24), some (.ref 19)], [], (197, i, zRF b, l)) = zev sc (39, 22, [some (.ref 24), some (.ref 19)], [.int (nI lt'), .ref 24], (197, i, zRF b, l)) := by
    rw [b39_0, hlat, nI_1, L10]
    by_cases h9 : lt = 9
    · refine ⟨0, by decide, Or.inr ⟨h9, rfl⟩, ?_⟩
      rw [if_pos ((nI_leI (by decide) (by omega)).mpr (by omega)), b39_21]
      rfl
    · refine ⟨lt + 1, by omega, Or.inl rfl, ?_⟩
      rw [if_neg (fun z => by have := (nI_leI (by decide) (by omega)).mp z; omega), b39_12, hlat, nI_1]
  obtain ⟨lt', hl', hll, hstep⟩ := step
  have hm : (26 + 4 * lt') ∈ zSl := (zring lt' hl').2.2.1
  obtain ⟨i2, hc1, hc2, hc3⟩ := c_copy sc hm (by decide : 19 ∈ zSl) (by omega) (zU i 24 1 (nI lt')) b l
  have hle : ∀ c j, (c < 26 + 4 * lt' ∨ 26 + 4 * lt' + 3 < c) → (c ≠ 24 ∨ j ≠ 1) → i2 c j = i c j := fun c j g1 g2 => by rw [hc3 c j g1, zUn _ _ g2]
  have hkn : i2 24 2 = nI (S 10 0) := by rw [hle _ _ (by omega) (by omega), hn]
  have hmin : (if (i2 24 2) + (1 : Int32) < 10 then (i2 24 2) + (1 : Int32) else 10) = nI (sK1 S + 1) := by
    rw [hkn, nI_1, L10]
    unfold sK1
    by_cases e : S 10 0 = 10
    · rw [if_neg (fun z => by have := (nI_ltI (by omega) (by decide)).mp z; omega), if_pos e]
    · by_cases e9 : S 10 0 = 9
      · rw [if_neg (fun z => by have := (nI_ltI (by omega) (by decide)).mp z; omega), if_neg e, e9]
      · rw [if_pos ((nI_ltI (by omega) (by decide)).mpr (by omega)), if_neg e]
  refine ⟨zU i2 24 2 (nI (sK1 S + 1)), ?_, ?_, ?_⟩
  · rw [hstep, b39_22 _ _ (26 + 4 * lt') _ _ _ (by rw [zUs]; exact vp_in_nI hl' (by decide)) (by rw [zUs, nI_clamp (by omega)]; exact zringb b hl') (zring lt' hl').2.2.2, hc1, Option.bind_some]
    dsimp only
    rw [b39_38, hmin]
  · have hout : ∀ c j, (c < 24 ∨ 65 < c) → zU i2 24 2 (nI (sK1 S + 1)) c j = i c j := fun c j hc => by rw [zUn _ _ (Or.inl (by omega)), hle _ _ (by omega) (by omega)]
    refine XR.mk (hX.xl.congr (fun c j h1 h2 => hout c j (by omega))) (hX.now.congr (fun c j h1 h2 => hout c j (by omega))) ?_ ?_ (hX.xe.congr (fun c j h1 h2 => hout c j (by omega))) (hX.xt.congr (fun c j h1 => hout c j (by omega)))
    · refine ⟨zUs _ _ _ _, lt', hl', ?_, fun t ht => ?_⟩
      · rw [zUn _ _ (Or.inr (by decide)), hc3 _ _ (by omega), zUs]
      · have ht' : t < sK1 S + 1 := ht
        show XSt (S 1 0) (S 3 0) (26 + 4 * ((lt' + 10 - t) % 10)) (rB (sKn S) 0 (sK1 S + 1 - 1 - t)) _
        by_cases e : t = 0
        · subst e
          rw [show (lt' + 10 - 0) % 10 = lt' by omega, show sK1 S + 1 - 1 - 0 = sK1 S by omega]
          have hs17 : rN S 17 ≤ 12 := hI.sung
          refine ((hX.now.congr (i' := zU i 24 1 (nI lt')) (fun c j g1 g2 => zUn _ _ (Or.inl (by omega)))).copy hE hB hs17 ?_).row hE hB hs17 (fun j hj => rB_last hI hj)
          refine ⟨fun t ht => ?_, fun t ht => ?_, fun t ht => ?_, ?_, ?_, ?_, ?_⟩ <;> rw [zUn _ _ (Or.inl (by omega))]
          · exact hc2.1 t ht
          · exact hc2.2.1 t ht
          · exact hc2.2.2.1 t ht
          · exact hc2.2.2.2.1
          · exact hc2.2.2.2.2.1
          · exact hc2.2.2.2.2.2.1
          · exact hc2.2.2.2.2.2.2
        · have hpos : (lt' + 10 - t) % 10 = (lt + 10 - (t - 1)) % 10 := by omega
          have hne : (lt + 10 - (t - 1)) % 10 ≠ lt' := by omega
          have hlt2 : (lt + 10 - (t - 1)) % 10 < 10 := Nat.mod_lt _ (by decide)
          have hk1 : sK1 S ≤ S 10 0 := by unfold sK1; split <;> omega
          have hrow : rB (sKn S) 0 (sK1 S + 1 - 1 - t) = rB (sKn S) 0 (sK1 S - t) := by rw [show sK1 S + 1 - 1 - t = sK1 S - t by omega]
          have hn1 : (if S 10 0 = 10 then sK1 S - t + 1 else sK1 S - t) = S 10 0 - 1 - (t - 1) := by
            unfold sK1 at ht' ⊢
            split <;> rename_i q
            · rw [if_pos q] at ht'; omega
            · rw [if_neg q] at ht'; omega
          have h17 : rB S 0 (S 10 0 - 1 - (t - 1)) 17 ≤ 12 := (hok _ (by omega)).2.2.2.2.2.1
          rw [hpos, hrow]
          refine ((hst (t - 1) (by omega)).congr (i' := zU i2 24 2 (nI (sK1 S + 1))) (fun c j g1 g2 => ?_)).row hE hB h17 (fun j hj => ?_)
          · rw [zUn _ _ (Or.inl (by omega)), hle _ _ (by omega) (by omega)]
          · rw [rB_old hI hj (by omega), hn1]
    · have hg := hX.xg.congr (i' := zU i2 24 2 (nI (sK1 S + 1))) (fun c j h1 h2 => hout c j (by omega))
      intro p hp
      refine ⟨(hg p hp).1, fun hq => ⟨((hg p hp).2 hq).1, ?_⟩⟩
      obtain ⟨q1, lt2, q2, q3, q4⟩ := ((hg p hp).2 hq).2
      have hok2 := (hI.past (1 + p) (by omega) (Or.inr (by rw [show 1 + p - 1 = p by omega]; exact hq))).2
      have e10 : sKn S 10 (1 + p) = S 10 (1 + p) := if_neg (by omega)
      rw [e10]
      refine ⟨q1, lt2, q2, q3, fun t ht => (q4 t ht).row hE hB ((hok2 _ (by omega)).2.2.2.2.2.1) (fun j hj => rB_img hI hj (by omega))⟩
  · intro c j hc
    rw [zUn _ _ (Or.inl (by omega)), hle _ _ (by omega) (by omega)]
/-- the model knows -/
theorem c_mSh (sc : zScr) {S : zS} (b : Bool) (l : Nat → Nat → Int64) : ∀ (n v : Nat) (i : Nat → Nat → Int32), v + n = 270 → (∀ j, j < v → i 189 j = nI (S 11 (30 + j))) → (∀ j, v ≤ j → j < 900 → i 189 j = nI (S 11 j)) → ∃ i' w, zev sc (145, 13, [some (.ref 173), some (.int (nI v))], [], (197, i, zRF b, l)) = zev sc (145, 41, [some (.ref 173), some (.int w)], [], (197, i', zRF b, l)) ∧ (∀ j, j < 900 → i' 189 j = nI (if j < 270 then S 11 (30 + j) else S 11 j)) ∧ ∀ c j, c ≠ 189 → i' c j = i c j
  | 0, v, i, hv, h1, h2 => by
    have e : v = 270 := by omega
    subst e
    refine ⟨i, nI 270, ?_, fun j hj => ?_, fun _ _ _ => rfl⟩
    · rw [b145_13, if_pos (by decide)]
    · by_cases h : j < 270
      · rw [if_pos h]; exact h1 j h
      · rw [if_neg h]; exact h2 j (by omega) hj
  | n + 1, v, i, hv, h1, h2 => by
    have e30 : (30 : Int32) + nI v = nI (30 + v) := by rw [L30, nI_add]
    obtain ⟨i', w, g1, g2, g3⟩ := c_mSh sc (S := S) b l n (v + 1) (zU i 189 v (i 189 (30 + v))) (by omega) (fun j hj => by
      by_cases e : j = v
      · rw [e, zUs]; exact h2 _ (by omega) (by omega)
      · rw [zUn _ _ (Or.inr e)]; exact h1 j (by omega)) (fun j hj hj2 => by rw [zUn _ _ (Or.inr (by omega))]; exact h2 j (by omega) hj2)
    refine ⟨i', w, ?_, g2, fun c j hc => by rw [g3 c j hc, zUn _ _ (Or.inl hc)]⟩
    rw [← g1, b145_13, if_neg (show ¬ (270 : Int32) ≤ nI v from zq_nle (a := 270) (by omega) (by decide)), b145_20 _ _ _ _ _ (by rw [e30]; exact vp_in_nI (by omega) (by decide)) (vp_in_nI (by omega) (by decide)), e30, nI_clamp (n := v) (by omega), nI_clamp (n := 30 + v) (by omega), nI_1]
theorem c_mPut (sc : zScr) {S : zS} {k : Nat} (hk : k ≤ 9) (B : Nat → Nat) (b : Bool) (l : Nat → Nat → Int64) : ∀ (n v : Nat) (i : Nat → Nat → Int32), v + n = 30 → i 188 0 = nI k → (∀ j, j < 30 → i 187 j = nI (S 9 j)) → (∀ j, j < 900 → i 189 j = nI (if 30 * k ≤ j ∧ j < 30 * k + v then S 9 (j - 30 * k) else B j)) → ∃ i' w, zev sc (145, 53, [some (.ref 173), some (.int (nI v))], [], (197, i, zRF b, l)) = zev sc (145, 87, [some (.ref 173), some (.int w)], [], (197, i', zRF b, l)) ∧ (∀ j, j < 900 → i' 189 j = nI (if 30 * k ≤ j ∧ j < 30 * k + 30 then S 9 (j - 30 * k) else B j)) ∧ ∀ c j, c ≠ 189 → i' c j = i c j
  | 0, v, i, hv, h0, h1, h2 => by
    have e : v = 30 := by omega
    subst e
    refine ⟨i, nI 30, ?_, h2, fun _ _ _ => rfl⟩
    rw [b145_53, if_pos (by decide)]
  | n + 1, v, i, hv, h0, h1, h2 => by
    have e30 : (30 : Int32) * i 188 0 + nI v = nI (30 * k + v) := by rw [h0, L30, zmul, nI_add]
    obtain ⟨i', w, g1, g2, g3⟩ := c_mPut sc (S := S) hk B b l n (v + 1) (zU i 189 (30 * k + v) (i 187 v)) (by omega) (by rw [zUn _ _ (Or.inl (by decide))]; exact h0) (fun j hj => by rw [zUn _ _ (Or.inl (by decide))]; exact h1 j hj) (fun j hj => by
      by_cases e : j = 30 * k + v
      · rw [e, zUs, if_pos (by omega), h1 v (by omega)]
        exact congrArg (fun t => nI (S 9 t)) (by omega)
      · rw [zUn _ _ (Or.inr e), h2 j hj, zifc (a := 30 * k ≤ j ∧ j < 30 * k + v) (b := 30 * k ≤ j ∧ j < 30 * k + (v + 1)) (by omega)])
    refine ⟨i', w, ?_, g2, fun c j hc => by rw [g3 c j hc, zUn _ _ (Or.inl hc)]⟩
    rw [← g1, b145_53, if_neg (show ¬ (30 : Int32) ≤ nI v from zq_nle (a := 30) (by omega) (by decide)), b145_59 _ _ _ _ _ (vp_in_nI (by omega) (by decide)) (by rw [e30]; exact vp_in_nI (by omega) (by decide)), e30, nI_clamp (n := v) (by omega), nI_clamp (n := 30 * k + v) (by omega), nI_1]
theorem c_mKnow (sc : zScr) {S : zS} (hI : Inv S) (i : Nat → Nat → Int32) (hM : MR S i) (b : Bool) (l : Nat → Nat → Int64) : ∃ i', zev sc (145, 0, [some (.ref 173), none], [], (197, i, zRF b, l)) = some (.null, (197, i', zRF b, l)) ∧ MR (sKn S) i' ∧ ∀ c j, (c < 188 ∨ 189 < c) → i' c j = i c j := by
  have hk := sK1_le hI
  have hn10 := (hI.past 0 (by decide) (Or.inl rfl)).1
  have e0 := hM.kn (j := 0) (by decide)
  have first : ∃ i1 w, zev sc (145, 0, [some (.ref 173), none], [], (197, i, zRF b, l)) = zev sc (145, 51, [some (.ref 173), w], [], (197, i1, zRF b, l)) ∧ (∀ j, j < 900 → i1 189 j = nI (sB1 S j)) ∧ i1 188 0 = nI (sK1 S) ∧ ∀ c j, c ≠ 189 → (c ≠ 188 ∨ j ≠ 0) → i1 c j = i c j := by
    by_cases h10 : S 10 0 = 10
    · obtain ⟨i1, w, g1, g2, g3⟩ := c_mSh sc (S := S) b l 270 0 i (by decide) (fun j hj => absurd hj (Nat.not_lt_zero _)) (fun j _ hj => hM.bf hj)
      refine ⟨zU i1 188 0 (nI 9), some (.int w), ?_, fun j hj => ?_, ?_, fun c j h1 h2 => ?_⟩
      · rw [show nI 0 = 0 from rfl] at g1
        rw [b145_0, e0, if_pos (by rw [h10]; rfl), b145_11, g1, b145_41, g3 _ _ (by decide), e0, h10, show nI 10 - 1 = nI 9 by decide]
      · rw [zUn _ _ (Or.inl (by decide)), g2 j hj]
        unfold sB1
        by_cases h : j < 270
        · rw [if_pos h, if_pos ⟨h10, h⟩]
        · rw [if_neg h, if_neg (fun z => h z.2)]
      · rw [zUs, show sK1 S = 9 from if_pos h10]
      · rw [zUn _ _ h2, g3 c j h1]
    · refine ⟨i, none, ?_, fun j hj => ?_, ?_, fun c j h1 h2 => rfl⟩
      · rw [b145_0, e0, if_neg (by rw [L10]; exact fun z => h10 ((nI_eq (by omega) (by decide)).mp z))]
      · rw [hM.bf hj, show sB1 S j = S 11 j from if_neg (fun z => h10 z.1)]
      · rw [e0, show sK1 S = S 10 0 from if_neg h10]
  obtain ⟨i1, w, g1, g2, g3, g4⟩ := first
  obtain ⟨i2, w2, p1, p2, p3⟩ := c_mPut sc (S := S) hk (sB1 S) b l 30 0 i1 (by decide) g3 (fun j hj => by rw [g4 _ _ (by decide) (Or.inl (by decide))]; exact hM.mn j hj) (fun j hj => by rw [if_neg (by omega)]; exact g2 j hj)
  refine ⟨zU i2 188 0 (nI (sK1 S + 1)), ?_, ?_, ?_⟩
  · rw [show nI 0 = 0 from rfl] at p1
    rw [g1, b145_51, p1, b145_87, p3 _ _ (by decide), g3, nI_1]
  · have he : ∀ c j, c ≠ 189 → (c ≠ 188 ∨ j ≠ 0) → zU i2 188 0 (nI (sK1 S + 1)) c j = i c j := fun c j h1 h2 => by rw [zUn _ _ h2, p3 c j h1, g4 c j h1 h2]
    refine MR.mk (hM.ml.congr (fun c j h1 h2 => he c j (by omega) (by omega))) (fun j hj => (he _ _ (by decide) (Or.inl (by decide))).trans (hM.mn j hj)) ⟨fun p hp => ?_, fun j hj => ?_, fun j hj => ?_, fun p hp => ?_⟩ (hM.me.congr (fun c j h1 => he c j (by omega) (by omega))) (hM.mt.congr (fun c j h1 => he c j (by omega) (by omega)))
    · by_cases e : p = 0
      · subst e
        rw [zUs]
        rfl
      · rw [he _ _ (by decide) (Or.inr e), hM.kn hp, show sKn S 10 p = S 10 p from if_neg e]
    · rw [zUn _ _ (Or.inl (by decide)), p2 j hj]
      rfl
    · rw [he _ _ (by decide) (Or.inl (by decide))]; exact hM.st hj
    · rw [he _ _ (by decide) (Or.inl (by decide))]; exact hM.kp hp
  · intro c j hc
    rw [zUn _ _ (Or.inl (by omega)), p3 c j (by omega), g4 c j (by omega) (Or.inl (by omega))]
/-- the stand replaced -/
def sNw (S : zS) (r : Nat → Nat) : zS := zRw S 9 r
theorem Inv.nw {S : zS} (hI : Inv S) {r : Nat → Nat} (hr : okR (S 0 0) (S 1 0) (S 3 0) r) : Inv (sNw S r) := by
  obtain ⟨h1, h2, h3, h4, h5, h6, h7, h8, h9, h10, h11, h12, h13, h14, h15⟩ := hI
  exact ⟨h1, h2, h3, h4, h5, h6, h7, hr, h9, h10, h11, h12, h13, h14, h15⟩
theorem XR.nw {S : zS} {i i' : Nat → Nat → Int32} (hX : XR S i) {r : Nat → Nat} (hr : XSt (S 1 0) (S 3 0) 19 r i') (he : ∀ c j, (c < 19 ∨ 22 < c) → i' c j = i c j) : XR (sNw S r) i' :=
  XR.mk (S := sNw S r) (hX.xl.congr (fun c j h1 h2 => he c j (by omega))) hr (hX.past.congr (fun c j h1 h2 => he c j (by omega))) (hX.xg.congr (fun c j h1 h2 => he c j (by omega))) (hX.xe.congr (fun c j h1 h2 => he c j (by omega))) (hX.xt.congr (fun c j h1 => he c j (by omega)))
theorem MR.nw {S : zS} {i i' : Nat → Nat → Int32} (hM : MR S i) {r : Nat → Nat} (hr : ∀ j, j < 30 → i' 187 j = nI (r j)) (he : ∀ c j, 173 ≤ c → c ≠ 187 → i' c j = i c j) : MR (sNw S r) i' :=
  MR.mk (S := sNw S r) (hM.ml.congr (fun c j h1 h2 => he c j (by omega) (by omega))) hr (hM.mp.congr (fun c j h1 h2 => he c j (by omega) (by omega))) (hM.me.congr (fun c j h1 => he c j (by omega) (by omega))) (hM.mt.congr (fun c j h1 => he c j (by omega) (by omega)))
