/-! keep, back -/
theorem zin2 (v : Int32) : (if 0 ≤ v ∧ v ≤ 1 then (1 : Int32) else 0) = zis v 2 := by
  have := zis_pred (f := v) (n := 2) (by decide)
  rw [show nI 2 - 1 = 1 by decide] at this
  exact this
def zPl : List Nat := [24, 84, 131]
def zPf (b : Bool) (a : Nat) : Bool := zok 197 a 5 && (zRF b a 0 == some (a + 1)) && ((zK (a + 1)).2 == 10) && zok 197 (a + 1) 103
theorem zPf_all : ∀ b : Bool, ∀ a, a ∈ zPl → zPf b a = true := by decide +kernel
theorem zPt_all : ∀ b : Bool, ∀ a, a ∈ zPl → ∀ t, t < 10 → zRF b (a + 1) t = some (a + 2 + 4 * t) ∧ zok 197 (a + 2 + 4 * t) 7 = true ∧ (a + 2 + 4 * t) ∈ zSl := by decide +kernel
theorem zPl_ne : ∀ a, a ∈ zPl → ∀ c, c ∈ zPl → a ≠ c → a + 41 < c ∨ c + 41 < a := by decide +kernel
theorem zIm_all : ∀ b : Bool, ∀ p, p < 2 → zRF b 66 p = some (79 + 47 * p) ∧ zok 197 (79 + 47 * p) 3 = true ∧ zRF b (79 + 47 * p) 0 = some (80 + 47 * p) ∧ zRF b (79 + 47 * p) 1 = some (84 + 47 * p) ∧ zok 197 (80 + 47 * p) 7 = true ∧ zok 197 (84 + 47 * p) 5 = true ∧ (80 + 47 * p) ∈ zSl ∧ (84 + 47 * p) ∈ zPl := by decide +kernel
def zEq (a' a : Nat) (i' i : Nat → Nat → Int32) : Prop := (∀ t, t < 6 → i' (a' + 1) t = i (a + 1) t) ∧ (∀ t, t < 8 → i' (a' + 2) t = i (a + 2) t) ∧ (∀ t, t < 12 → i' (a' + 3) t = i (a + 3) t) ∧ i' a' 3 = i a 3 ∧ i' a' 4 = i a 4 ∧ i' a' 5 = i a 5 ∧ i' a' 6 = i a 6
theorem zEq.congr {a' a : Nat} {i' i j' j : Nat → Nat → Int32} (h : zEq a' a i' i) (h1 : ∀ c t, a' ≤ c → c ≤ a' + 3 → j' c t = i' c t) (h2 : ∀ c t, a ≤ c → c ≤ a + 3 → j c t = i c t) : zEq a' a j' j := by
  obtain ⟨e1, e2, e3, e4, e5, e6, e7⟩ := h
  refine ⟨fun t ht => ?_, fun t ht => ?_, fun t ht => ?_, ?_, ?_, ?_, ?_⟩
  · rw [h1 _ _ (by omega) (by omega), h2 _ _ (by omega) (by omega)]; exact e1 t ht
  · rw [h1 _ _ (by omega) (by omega), h2 _ _ (by omega) (by omega)]; exact e2 t ht
  · rw [h1 _ _ (by omega) (by omega), h2 _ _ (by omega) (by omega)]; exact e3 t ht
  · rw [h1 _ _ (by omega) (by omega), h2 _ _ (by omega) (by omega)]; exact e4
  · rw [h1 _ _ (by omega) (by omega), h2 _ _ (by omega) (by omega)]; exact e5
  · rw [h1 _ _ (by omega) (by omega), h2 _ _ (by omega) (by omega)]; exact e6
  · rw [h1 _ _ (by omega) (by omega), h2 _ _ (by omega) (by omega)]; exact e7
theorem c_pcLoop (sc : zScr) {a0 a1 : Nat} (h0 : a0 ∈ zPl) (h1 : a1 ∈ zPl) (hne : a0 ≠ a1) (i : Nat → Nat → Int32) (b : Bool) (l : Nat → Nat → Int64) : ∀ (n v : Nat) (i' : Nat → Nat → Int32), v + n = 10 → (∀ t, t < v → zEq (a0 + 2 + 4 * t) (a1 + 2 + 4 * t) i' i) → (∀ c j, (c < a0 + 2 ∨ a0 + 41 < c) → i' c j = i c j) → ∃ i2 w, zev sc (41, 2, [some (.ref a0), some (.ref a1), some (.int (nI v))], [], (197, i', zRF b, l)) = zev sc (41, 29, [some (.ref a0), some (.ref a1), some (.int w)], [], (197, i2, zRF b, l)) ∧ (∀ t, t < 10 → zEq (a0 + 2 + 4 * t) (a1 + 2 + 4 * t) i2 i) ∧ ∀ c j, (c < a0 + 2 ∨ a0 + 41 < c) → i2 c j = i c j
  | 0, v, i', hv, g1, g2 => by
    have e : v = 10 := by omega
    subst e
    refine ⟨i', nI 10, ?_, g1, g2⟩
    rw [b41_2, if_pos (by decide)]
  | n + 1, v, i', hv, g1, g2 => by
    have hd := zPl_ne a0 h0 a1 h1 hne
    have f0 := zPf_all b a0 h0
    have f1 := zPf_all b a1 h1
    unfold zPf at f0 f1
    simp only [Bool.and_eq_true, beq_iff_eq] at f0 f1
    obtain ⟨⟨⟨p1, p2⟩, p3⟩, p4⟩ := f0
    obtain ⟨⟨⟨s1, s2⟩, s3⟩, s4⟩ := f1
    obtain ⟨t1, t2, t3⟩ := zPt_all b a0 h0 v (by omega)
    obtain ⟨u1, u2, u3⟩ := zPt_all b a1 h1 v (by omega)
    obtain ⟨i3, c1, c2, c3⟩ := c_copy sc t3 u3 (by omega) i' b l
    have hcv : (nI v).toNatClampNeg = v := nI_clamp (by omega)
    obtain ⟨i2, w, q1, q2, q3⟩ := c_pcLoop sc h0 h1 hne i b l n (v + 1) i3 (by omega) (fun t ht => by
      by_cases e : t = v
      · subst e
        exact zEq.congr (a' := a0 + 2 + 4 * t) (a := a1 + 2 + 4 * t) (i' := i3) (i := i') (j' := i3) (j := i) c2 (fun _ _ _ _ => rfl) (fun c j k1 k2 => (g2 c j (by omega)).symm)
      · exact (g1 t (by omega)).congr (fun c j k1 k2 => c3 c j (by omega)) (fun _ _ _ _ => rfl)) (fun c j hc => by rw [c3 c j (by omega)]; exact g2 c j hc)
    refine ⟨i2, w, ?_, q2, q3⟩
    rw [← q1, b41_2, if_neg (show ¬ (10 : Int32) ≤ nI v from zq_nle (a := 10) (by omega) (by decide)), b41_8 _ _ _ _ (a0 + 1) (a0 + 2 + 4 * v) (a1 + 1) (a1 + 2 + 4 * v) _ _ _ p1 p2 p3 p4 (vp_in_nI (by omega) (by decide)) (by rw [hcv]; exact t1) s1 s2 s3 s4 (by rw [hcv]; exact u1) t2, c1, Option.bind_some]
    dsimp only
    rw [b41_23, nI_1]
theorem c_pastCopy (sc : zScr) {a0 a1 : Nat} (h0 : a0 ∈ zPl) (h1 : a1 ∈ zPl) (hne : a0 ≠ a1) (i : Nat → Nat → Int32) (b : Bool) (l : Nat → Nat → Int64) : ∃ i', zev sc (41, 0, [some (.ref a0), some (.ref a1), none], [], (197, i, zRF b, l)) = some (.null, (197, i', zRF b, l)) ∧ (∀ t, t < 10 → zEq (a0 + 2 + 4 * t) (a1 + 2 + 4 * t) i' i) ∧ (i' a0 1 = i a1 1 ∧ i' a0 2 = i a1 2) ∧ ∀ c j, (c < a0 ∨ a0 + 41 < c) → i' c j = i c j := by
  have hd := zPl_ne a0 h0 a1 h1 hne
  have f0 := zPf_all b a0 h0
  have f1 := zPf_all b a1 h1
  unfold zPf at f0 f1
  simp only [Bool.and_eq_true, beq_iff_eq] at f0 f1
  obtain ⟨i2, w, q1, q2, q3⟩ := c_pcLoop sc h0 h1 hne i b l 10 0 i (by decide) (fun t ht => absurd ht (Nat.not_lt_zero _)) (fun _ _ _ => rfl)
  have e1 : i2 a1 1 = i a1 1 := q3 _ _ (by omega)
  have e2 : zU i2 a0 1 (i a1 1) a1 2 = i a1 2 := by rw [zUn _ _ (Or.inl (by omega))]; exact q3 _ _ (by omega)
  refine ⟨zU (zU i2 a0 1 (i a1 1)) a0 2 (i a1 2), ?_, fun t ht => (q2 t ht).congr (fun c j k1 k2 => by rw [zUn _ _ (Or.inl (by omega)), zUn _ _ (Or.inl (by omega))]) (fun _ _ _ _ => rfl), ⟨by rw [zUn _ _ (Or.inr (by decide)), zUs], zUs _ _ _ _⟩, fun c j hc => by rw [zUn _ _ (Or.inl (by omega)), zUn _ _ (Or.inl (by omega)), q3 c j (by omega)]⟩
  rw [show nI 0 = 0 from rfl] at q1
  rw [b41_0, q1, b41_29 _ _ _ _ _ _ _ f1.1.1.1 f0.1.1.1, e1, e2]
theorem XPa.copy {E B a a' n : Nat} {r : Nat → Nat → Nat} {i i' : Nat → Nat → Int32} (h : XPa E B a n r i) (hE : E ≤ 8) (hB : B ≤ 6) (hn : n ≤ 10) (hr : ∀ m, m < n → r m 17 ≤ 12) (he : ∀ t, t < 10 → zEq (a' + 2 + 4 * t) (a + 2 + 4 * t) i' i) (h2 : i' a' 1 = i a 1 ∧ i' a' 2 = i a 2) : XPa E B a' n r i' := by
  obtain ⟨g1, lt, g2, g3, g4⟩ := h
  refine ⟨by rw [h2.2]; exact g1, lt, g2, by rw [h2.1]; exact g3, fun t ht => (g4 t ht).copy hE hB (hr _ (by omega)) (he _ (Nat.mod_lt _ (by decide)))⟩
theorem XPa.row {E B a n : Nat} {r r' : Nat → Nat → Nat} {i : Nat → Nat → Int32} (h : XPa E B a n r i) (hE : E ≤ 8) (hB : B ≤ 6) (hr : ∀ m, m < n → r m 17 ≤ 12) (he : ∀ m, m < n → ∀ j, j < 30 → r' m j = r m j) : XPa E B a n r' i := by
  obtain ⟨g1, lt, g2, g3, g4⟩ := h
  exact ⟨g1, lt, g2, g3, fun t ht => (g4 t ht).row hE hB (hr _ (by omega)) (he _ (by omega))⟩
/-- a block of the model's memory copied: from row c at o to row d at q, n numbers -/
theorem op_keep_bad (sc : zScr) {S : zS} {i : Nat → Nat → Int32} (b : Bool) {l : Nat → Nat → Int64} (h : Rl S i l) (w : Int32) (hw : ¬ (0 ≤ w ∧ w < nI 2)) : zOp sc 101 181 [some (.ref 0), some (.int w)] [some (.ref 173), some (.int w), none] i b l := by
  refine zOp_p (r := .int (-1)) h ?_ ?_
  · rw [b101_0, c_xImage, Option.bind_some]
    dsimp only
    rw [zis_out hw, b101_4, if_pos rfl, b101_7]
  · rw [b181_0, c_in, Option.bind_some]
    dsimp only
    rw [zin2, zis_out hw, b181_6, if_pos rfl, b181_9]
def sKp (S : zS) (p : Nat) : zS := zRw (zRw (zRw (zRw S 12 (fun j => if 30 * p ≤ j ∧ j < 30 * p + 30 then S 9 (j - 30 * p) else S 12 j)) 11 (fun j => if 300 * (1 + p) ≤ j ∧ j < 300 * (1 + p) + 300 then S 11 (j - 300 * (1 + p)) else S 11 j)) 10 (fun q => if q = 1 + p then S 10 0 else S 10 q)) 13 (fun q => if q = p then 1 else S 13 q)
theorem rI_kp (S : zS) (p : Nat) {j : Nat} (hj : j < 30) : rI (sKp S p) p j = rN S j := by
  show (if 30 * p ≤ 30 * p + j ∧ 30 * p + j < 30 * p + 30 then S 9 (30 * p + j - 30 * p) else S 12 (30 * p + j)) = S 9 j
  rw [if_pos (by omega)]
  exact congrArg (S 9) (by omega)
theorem rI_kq (S : zS) {p q : Nat} (hq : q ≠ p) {j : Nat} (hj : j < 30) : rI (sKp S p) q j = rI S q j := by
  show (if 30 * p ≤ 30 * q + j ∧ 30 * q + j < 30 * p + 30 then S 9 (30 * q + j - 30 * p) else S 12 (30 * q + j)) = S 12 (30 * q + j)
  rw [if_neg (by omega)]
theorem rB_kp (S : zS) (p : Nat) {n j : Nat} (hn : n < 10) (hj : j < 30) : rB (sKp S p) (1 + p) n j = rB S 0 n j := by
  show (if 300 * (1 + p) ≤ 300 * (1 + p) + 30 * n + j ∧ 300 * (1 + p) + 30 * n + j < 300 * (1 + p) + 300 then S 11 (300 * (1 + p) + 30 * n + j - 300 * (1 + p)) else S 11 (300 * (1 + p) + 30 * n + j)) = S 11 (300 * 0 + 30 * n + j)
  rw [if_pos (by omega)]
  exact congrArg (S 11) (by omega)
theorem rB_kq (S : zS) {p q n j : Nat} (hq : q ≠ 1 + p) (hn : n < 10) (hj : j < 30) : rB (sKp S p) q n j = rB S q n j := by
  show (if 300 * (1 + p) ≤ 300 * q + 30 * n + j ∧ 300 * q + 30 * n + j < 300 * (1 + p) + 300 then S 11 (300 * q + 30 * n + j - 300 * (1 + p)) else S 11 (300 * q + 30 * n + j)) = S 11 (300 * q + 30 * n + j)
  rw [if_neg (by omega)]
theorem Inv.kp {S : zS} (hI : Inv S) {p : Nat} (hp : p < 2) : Inv (sKp S p) := by
  obtain ⟨h1, h2, h3, h4, h5, h6, h7, h8, h9, h10, h11, h12, h13, h14, h15⟩ := id hI
  refine ⟨h1, h2, h3, h4, h5, h6, h7, h8, ?_, ?_, ?_, h12, h13, h14, h15⟩
  · intro q hq hk
    by_cases e : q = 1 + p
    · subst e
      obtain ⟨g1, g2⟩ := h9 0 (by decide) (Or.inl rfl)
      rw [show sKp S p 10 (1 + p) = S 10 0 from if_pos rfl]
      exact ⟨g1, fun n hn => (g2 n hn).row h2 h4 (fun j hj => rB_kp S p (by omega) hj)⟩
    · have hk' : q = 0 ∨ S 13 (q - 1) = 1 := by
        rcases hk with g | g
        · exact Or.inl g
        · by_cases e0 : q = 0
          · exact Or.inl e0
          · refine Or.inr ?_
            rw [show sKp S p 13 (q - 1) = S 13 (q - 1) from if_neg (by omega)] at g
            exact g
      obtain ⟨g1, g2⟩ := h9 q hq hk'
      rw [show sKp S p 10 q = S 10 q from if_neg e]
      exact ⟨g1, fun n hn => (g2 n hn).row h2 h4 (fun j hj => rB_kq S e (by omega) hj)⟩
  · intro q hq hk
    by_cases e : q = p
    · subst e
      exact h8.row h2 h4 (fun j hj => rI_kp S q hj)
    · rw [show sKp S p 13 q = S 13 q from if_neg e] at hk
      exact (h10 q hq hk).row h2 h4 (fun j hj => rI_kq S e hj)
  · intro q hq
    by_cases e : q = p
    · rw [show sKp S p 13 q = 1 from if_pos e]
      exact Nat.le_refl _
    · rw [show sKp S p 13 q = S 13 q from if_neg e]
      exact h11 q hq
theorem c_mK1 (sc : zScr) {S : zS} {p : Nat} (hp : p < 2) (b : Bool) (l : Nat → Nat → Int64) : ∀ (n v : Nat) (i : Nat → Nat → Int32), v + n = 30 → (∀ j, j < 30 → i 187 j = nI (S 9 j)) → (∀ j, j < 60 → i 190 j = nI (if 30 * p ≤ j ∧ j < 30 * p + v then S 9 (j - 30 * p) else S 12 j)) → ∃ i' w, zev sc (181, 13, [some (.ref 173), some (.int (nI p)), some (.int (nI v))], [], (197, i, zRF b, l)) = zev sc (181, 42, [some (.ref 173), some (.int (nI p)), some (.int w)], [], (197, i', zRF b, l)) ∧ (∀ j, j < 60 → i' 190 j = nI (if 30 * p ≤ j ∧ j < 30 * p + 30 then S 9 (j - 30 * p) else S 12 j)) ∧ ∀ c j, c ≠ 190 → i' c j = i c j
  | 0, v, i, hv, h1, h2 => by
    have e : v = 30 := by omega
    subst e
    refine ⟨i, nI 30, ?_, h2, fun _ _ _ => rfl⟩
    rw [b181_13, if_pos (by decide)]
  | n + 1, v, i, hv, h1, h2 => by
    have e30 : (30 : Int32) * nI p + nI v = nI (30 * p + v) := by rw [L30, zmul, nI_add]
    obtain ⟨i', w, g1, g2, g3⟩ := c_mK1 sc (S := S) hp b l n (v + 1) (zU i 190 (30 * p + v) (i 187 v)) (by omega) (fun j hj => by rw [zUn _ _ (Or.inl (by decide))]; exact h1 j hj) (fun j hj => by
      by_cases e : j = 30 * p + v
      · rw [e, zUs, if_pos (by omega), h1 v (by omega)]
        exact congrArg (fun t => nI (S 9 t)) (by omega)
      · rw [zUn _ _ (Or.inr e), h2 j hj, zifc (a := 30 * p ≤ j ∧ j < 30 * p + v) (b := 30 * p ≤ j ∧ j < 30 * p + (v + 1)) (by omega)])
    refine ⟨i', w, ?_, g2, fun c j hc => by rw [g3 c j hc, zUn _ _ (Or.inl hc)]⟩
    rw [← g1, b181_13, if_neg (show ¬ (30 : Int32) ≤ nI v from zq_nle (a := 30) (by omega) (by decide)), b181_19 _ _ _ _ _ _ (vp_in_nI (by omega) (by decide)) (by rw [e30]; exact vp_in_nI (by omega) (by decide)), e30, nI_clamp (n := v) (by omega), nI_clamp (n := 30 * p + v) (by omega), nI_1]
theorem c_mK2 (sc : zScr) {S : zS} {p : Nat} (hp : p < 2) (b : Bool) (l : Nat → Nat → Int64) : ∀ (n v : Nat) (i : Nat → Nat → Int32), v + n = 300 → (∀ j, j < 900 → i 189 j = nI (if 300 * (1 + p) ≤ j ∧ j < 300 * (1 + p) + v then S 11 (j - 300 * (1 + p)) else S 11 j)) → ∃ i' w, zev sc (181, 44, [some (.ref 173), some (.int (nI p)), some (.int (nI v))], [], (197, i, zRF b, l)) = zev sc (181, 77, [some (.ref 173), some (.int (nI p)), some (.int w)], [], (197, i', zRF b, l)) ∧ (∀ j, j < 900 → i' 189 j = nI (if 300 * (1 + p) ≤ j ∧ j < 300 * (1 + p) + 300 then S 11 (j - 300 * (1 + p)) else S 11 j)) ∧ ∀ c j, c ≠ 189 → i' c j = i c j
  | 0, v, i, hv, h2 => by
    have e : v = 300 := by omega
    subst e
    refine ⟨i, nI 300, ?_, h2, fun _ _ _ => rfl⟩
    rw [b181_44, if_pos (by decide)]
  | n + 1, v, i, hv, h2 => by
    have e30 : (300 : Int32) * ((1 : Int32) + nI p) + nI v = nI (300 * (1 + p) + v) := by rw [L1, nI_add, L300, zmul, nI_add]
    obtain ⟨i', w, g1, g2, g3⟩ := c_mK2 sc (S := S) hp b l n (v + 1) (zU i 189 (300 * (1 + p) + v) (i 189 v)) (by omega) (fun j hj => by
      by_cases e : j = 300 * (1 + p) + v
      · rw [e, zUs, if_pos (by omega), h2 v (by omega), if_neg (by omega)]
        exact congrArg (fun t => nI (S 11 t)) (by omega)
      · rw [zUn _ _ (Or.inr e), h2 j hj, zifc (a := 300 * (1 + p) ≤ j ∧ j < 300 * (1 + p) + v) (b := 300 * (1 + p) ≤ j ∧ j < 300 * (1 + p) + (v + 1)) (by omega)])
    refine ⟨i', w, ?_, g2, fun c j hc => by rw [g3 c j hc, zUn _ _ (Or.inl hc)]⟩
    rw [← g1, b181_44, if_neg (show ¬ (300 : Int32) ≤ nI v from zq_nle (a := 300) (by omega) (by decide)), b181_51 _ _ _ _ _ _ (vp_in_nI (by omega) (by decide)) (by rw [e30]; exact vp_in_nI (by omega) (by decide)), e30, nI_clamp (n := v) (by omega), nI_clamp (n := 300 * (1 + p) + v) (by omega), nI_1]
theorem op_keep (sc : zScr) {S : zS} {i : Nat → Nat → Int32} (b : Bool) {l : Nat → Nat → Int64} (h : Rl S i l) (w : Int32) : zOp sc 101 181 [some (.ref 0), some (.int w)] [some (.ref 173), some (.int w), none] i b l := by
  obtain ⟨hI, hX, hM, hL⟩ := id h
  have hE := hI.E
  have hB := hI.B
  refine (zix w 2 (by decide)).elim ?_ (fun hn => op_keep_bad sc b h w hn)
  rintro ⟨p, hp, rfl⟩
  have hz := zis_in (j := p) (n := 2) (by decide) hp
  obtain ⟨r1, r2, r3, r4, r5, r6, r7, r8⟩ := zIm_all b p hp
  have hcp : (nI p).toNatClampNeg = p := nI_clamp (by omega)
  obtain ⟨hn10, hok⟩ := hI.past 0 (by decide) (Or.inl rfl)
  obtain ⟨i1, c1, c2, c3⟩ := c_copy sc r7 (by decide : 19 ∈ zSl) (by omega) i b l
  obtain ⟨i2, d1, d2, d3, d4⟩ := c_pastCopy sc r8 (by decide : 24 ∈ zPl) (by omega) i1 b l
  -- the class's memory afterwards
  have hout : ∀ c j, (c < 79 + 47 * p ∨ 125 + 47 * p < c) → zU i2 (79 + 47 * p) 2 1 c j = i c j := fun c j hc => by rw [zUn _ _ (Or.inl (by omega)), d4 c j (by omega), c3 c j (by omega)]
  have hs17 : rN S 17 ≤ 12 := hI.sung
  have stp : XSt (S 1 0) (S 3 0) (80 + 47 * p) (rN S) (zU i2 (79 + 47 * p) 2 1) := by
    refine (hX.now.copy hE hB hs17 c2).congr (fun c j g1 g2 => ?_)
    rw [zUn _ _ (Or.inl (by omega)), d4 c j (by omega)]
  have pap : XPa (S 1 0) (S 3 0) (84 + 47 * p) (S 10 0) (rB S 0) (zU i2 (79 + 47 * p) 2 1) := by
    have p24 : XPa (S 1 0) (S 3 0) 24 (S 10 0) (rB S 0) i1 := hX.past.congr (fun c j g1 g2 => c3 c j (by omega))
    refine (p24.copy hE hB hn10 (fun m hm => (hok m hm).2.2.2.2.2.1) d2 d3).congr (fun c j g1 g2 => zUn _ _ (Or.inl (by omega)))
  have hX1 : XR (sKp S p) (zU i2 (79 + 47 * p) 2 1) := by
    refine XR.mk (S := sKp S p) (hX.xl.congr (fun c j h1 h2 => hout c j (by omega))) (hX.now.congr (fun c j h1 h2 => hout c j (by omega))) ?_ ?_ (hX.xe.congr (fun c j h1 h2 => hout c j (by omega))) (hX.xt.congr (fun c j h1 => hout c j (by omega)))
    · rw [show sKp S p 10 0 = S 10 0 from if_neg (by omega)]
      exact (hX.past.congr (fun c j g1 g2 => hout c j (by omega))).row hE hB (fun m hm => (hok m hm).2.2.2.2.2.1) (fun m hm j hj => rB_kq S (by omega) (by omega) hj)
    · intro q hq
      by_cases e : q = p
      · subst e
        refine ⟨by rw [zUs, show sKp S q 13 q = 1 from if_pos rfl]; rfl, fun _ => ⟨stp.row hE hB hs17 (fun j hj => rI_kp S q hj), ?_⟩⟩
        rw [show sKp S q 10 (1 + q) = S 10 0 from if_pos rfl]
        exact pap.row hE hB (fun m hm => (hok m hm).2.2.2.2.2.1) (fun m hm j hj => rB_kp S q (by omega) hj)
      · rw [show sKp S p 13 q = S 13 q from if_neg e]
        refine ⟨(hout _ _ (by omega)).trans (hX.xg q hq).1, fun hk => ?_⟩
        obtain ⟨q1, q2⟩ := (hX.xg q hq).2 hk
        obtain ⟨o1, o2⟩ := hI.past (1 + q) (by omega) (Or.inr (by rw [show 1 + q - 1 = q by omega]; exact hk))
        refine ⟨(q1.congr (fun c j g1 g2 => hout c j (by omega))).row hE hB (hI.img q hq hk).2.2.2.2.2.1 (fun j hj => rI_kq S e hj), ?_⟩
        rw [show sKp S p 10 (1 + q) = S 10 (1 + q) from if_neg (by omega)]
        exact (q2.congr (fun c j g1 g2 => hout c j (by omega))).row hE hB (fun m hm => (o2 m hm).2.2.2.2.2.1) (fun m hm j hj => rB_kq S (by omega) (by omega) hj)
  have hM1 : MR S (zU i2 (79 + 47 * p) 2 1) := hM.congr hI (fun c j q => by have := q.1; exact hout c j (by omega))
  obtain ⟨i3, w3, k1, k2, k3⟩ := c_mK1 sc (S := S) hp b l 30 0 _ (by decide) hM1.mn (fun j hj => by rw [if_neg (by omega)]; exact hM1.st hj)
  obtain ⟨i4, w4, m1, m2, m3⟩ := c_mK2 sc (S := S) hp b l 300 0 i3 (by decide) (fun j hj => by rw [if_neg (by omega), k3 _ _ (by decide)]; exact hM1.bf hj)
  have e1p : (1 : Int32) + nI p = nI (1 + p) := by rw [L1, nI_add]
  have hin3 : vp_in ((1 : Int32) + nI p) 3 := by rw [e1p]; exact vp_in_nI (by omega) (by decide)
  have e188 : i4 188 0 = nI (S 10 0) := by rw [m3 _ _ (by decide), k3 _ _ (by decide)]; exact hM1.kn (by decide)
  have hout2 : ∀ c j, c ≠ 190 → c ≠ 189 → (c ≠ 188 ∨ j ≠ 1 + p) → (c ≠ 191 ∨ j ≠ p) → zU (zU i4 188 (1 + p) (nI (S 10 0))) 191 p 1 c j = zU i2 (79 + 47 * p) 2 1 c j := fun c j h1 h2 h3 h4 => by rw [zUn _ _ h4, zUn _ _ h3, m3 c j h2, k3 c j h1]
  refine ⟨.int (nI (S 9 16)), zU i2 (79 + 47 * p) 2 1, b, l, zU (zU i4 188 (1 + p) (nI (S 10 0))) 191 p 1, l, sKp S p, ?_, ?_, hI.kp hp, hX1.congr (fun c j q => by have := q.1; exact hout2 c j (by omega) (by omega) (by omega) (by omega)), ?_, hL⟩
  · have e6 : zU i2 (79 + 47 * p) 2 1 19 6 = nI (S 9 16) := (hout _ _ (by omega)).trans hX.wet
    rw [b101_0, c_xImage, Option.bind_some]
    dsimp only
    rw [hz, b101_4, if_neg (by decide), b101_9 _ _ (79 + 47 * p) _ _ _ (vp_in_nI hp (by decide)) (by rw [hcp]; exact r1) r2, b30_0 _ _ _ _ (80 + 47 * p) _ _ _ r2 r3 r5, c1, Option.bind_some]
    dsimp only
    rw [b30_8 _ _ _ _ (84 + 47 * p) _ _ _ r2 r4 r6, d1, Option.bind_some]
    dsimp only
    rw [b30_16 _ _ _ _ _ _ _ r2, Option.bind_some]
    dsimp only
    rw [b101_26, e6]
  · rw [show nI 0 = 0 from rfl] at k1 m1
    have enar : vp_nar .boolean 1 = (1 : Int32) := by decide
    rw [b181_0, c_in, Option.bind_some]
    dsimp only
    rw [zin2, hz, b181_6, if_neg (by decide), b181_11, k1, b181_42, m1, b181_77 _ _ _ _ _ _ hin3 (vp_in_nI hp (by decide)), e1p, nI_clamp (n := 1 + p) (by omega), hcp, e188, enar, hout2 _ _ (by decide) (by decide) (Or.inl (by decide)) (Or.inl (by decide)), hM1.now (by decide)]
  · refine MR.mk (S := sKp S p) (hM1.ml.congr (fun c j h1 h2 => hout2 c j (by omega) (by omega) (by omega) (by omega))) (fun j hj => (hout2 _ _ (by decide) (by decide) (Or.inl (by decide)) (Or.inl (by decide))).trans (hM1.mn j hj)) ⟨fun q hq => ?_, fun j hj => ?_, fun j hj => ?_, fun q hq => ?_⟩ (hM1.me.congr (fun c j h1 => hout2 c j (by omega) (by omega) (by omega) (by omega))) (hM1.mt.congr (fun c j h1 => hout2 c j (by omega) (by omega) (by omega) (by omega)))
    · by_cases e : q = 1 + p
      · rw [e, zUn _ _ (Or.inl (by decide)), zUs, show sKp S p 10 (1 + p) = S 10 0 from if_pos rfl]
      · rw [hout2 _ _ (by decide) (by decide) (Or.inr e) (Or.inl (by decide)), show sKp S p 10 q = S 10 q from if_neg e]
        exact hM1.kn hq
    · rw [zUn _ _ (Or.inl (by decide)), zUn _ _ (Or.inl (by decide))]
      exact m2 j hj
    · rw [zUn _ _ (Or.inl (by decide)), zUn _ _ (Or.inl (by decide)), m3 _ _ (by decide)]
      exact k2 j hj
    · by_cases e : q = p
      · rw [e, zUs, show sKp S p 13 p = 1 from if_pos rfl]
        rfl
      · rw [hout2 _ _ (by decide) (by decide) (Or.inl (by decide)) (Or.inr e), show sKp S p 13 q = S 13 q from if_neg e]
        exact hM1.kp hq
