/-! back -/
def sBk (S : zS) (p : Nat) : zS := zRw (zRw (zRw S 9 (rI S p)) 11 (fun j => if j < 300 then S 11 (300 * (1 + p) + j) else S 11 j)) 10 (fun q => if q = 0 then S 10 (1 + p) else S 10 q)
theorem rB_b0 (S : zS) (p : Nat) {n j : Nat} (hn : n < 10) (hj : j < 30) : rB (sBk S p) 0 n j = rB S (1 + p) n j := by
  show (if 300 * 0 + 30 * n + j < 300 then S 11 (300 * (1 + p) + (300 * 0 + 30 * n + j)) else S 11 (300 * 0 + 30 * n + j)) = S 11 (300 * (1 + p) + 30 * n + j)
  rw [if_pos (by omega)]
  exact congrArg (S 11) (by omega)
theorem rB_bq (S : zS) {p q n j : Nat} (hq : 1 ≤ q) : rB (sBk S p) q n j = rB S q n j := by
  show (if 300 * q + 30 * n + j < 300 then S 11 (300 * (1 + p) + (300 * q + 30 * n + j)) else S 11 (300 * q + 30 * n + j)) = S 11 (300 * q + 30 * n + j)
  rw [if_neg (by omega)]
theorem Inv.bk {S : zS} (hI : Inv S) {p : Nat} (hp : p < 2) (hkp : S 13 p = 1) : Inv (sBk S p) := by
  obtain ⟨h1, h2, h3, h4, h5, h6, h7, h8, h9, h10, h11, h12, h13, h14, h15⟩ := id hI
  refine ⟨h1, h2, h3, h4, h5, h6, h7, h10 p hp hkp, ?_, h10, h11, h12, h13, h14, h15⟩
  intro q hq hk
  by_cases e : q = 0
  · subst e
    obtain ⟨g1, g2⟩ := h9 (1 + p) (by omega) (Or.inr (by rw [show 1 + p - 1 = p by omega]; exact hkp))
    rw [show sBk S p 10 0 = S 10 (1 + p) from rfl]
    exact ⟨g1, fun n hn => (g2 n hn).row h2 h4 (fun j hj => rB_b0 S p (by omega) hj)⟩
  · obtain ⟨g1, g2⟩ := h9 q hq hk
    rw [show sBk S p 10 q = S 10 q from if_neg e]
    exact ⟨g1, fun n hn => (g2 n hn).row h2 h4 (fun j hj => rB_bq S (by omega))⟩
theorem c_mB1 (sc : zScr) {S : zS} {p : Nat} (hp : p < 2) (b : Bool) (l : Nat → Nat → Int64) : ∀ (n v : Nat) (i : Nat → Nat → Int32), v + n = 30 → (∀ j, j < 60 → i 190 j = nI (S 12 j)) → (∀ j, j < v → i 187 j = nI (rI S p j)) → ∃ i' w, zev sc (182, 25, [some (.ref 173), some (.int (nI p)), some (.int (nI v))], [], (197, i, zRF b, l)) = zev sc (182, 54, [some (.ref 173), some (.int (nI p)), some (.int w)], [], (197, i', zRF b, l)) ∧ (∀ j, j < 30 → i' 187 j = nI (rI S p j)) ∧ ∀ c j, c ≠ 187 → i' c j = i c j
  | 0, v, i, hv, h1, h2 => by
    have e : v = 30 := by omega
    subst e
    refine ⟨i, nI 30, ?_, h2, fun _ _ _ => rfl⟩
    rw [b182_25, if_pos (by decide)]
  | n + 1, v, i, hv, h1, h2 => by
    have e30 : (30 : Int32) * nI p + nI v = nI (30 * p + v) := by rw [L30, zmul, nI_add]
    obtain ⟨i', w, g1, g2, g3⟩ := c_mB1 sc (S := S) hp b l n (v + 1) (zU i 187 v (i 190 (30 * p + v))) (by omega) (fun j hj => by rw [zUn _ _ (Or.inl (by decide))]; exact h1 j hj) (fun j hj => by
      by_cases e : j = v
      · rw [e, zUs, h1 _ (by omega)]
        rfl
      · rw [zUn _ _ (Or.inr e)]; exact h2 j (by omega))
    refine ⟨i', w, ?_, g2, fun c j hc => by rw [g3 c j hc, zUn _ _ (Or.inl hc)]⟩
    rw [← g1, b182_25, if_neg (show ¬ (30 : Int32) ≤ nI v from zq_nle (a := 30) (by omega) (by decide)), b182_31 _ _ _ _ _ _ (by rw [e30]; exact vp_in_nI (by omega) (by decide)) (vp_in_nI (by omega) (by decide)), e30, nI_clamp (n := v) (by omega), nI_clamp (n := 30 * p + v) (by omega), nI_1]
theorem c_mB2 (sc : zScr) {S : zS} {p : Nat} (hp : p < 2) (b : Bool) (l : Nat → Nat → Int64) : ∀ (n v : Nat) (i : Nat → Nat → Int32), v + n = 300 → (∀ j, j < 900 → i 189 j = nI (if j < v then S 11 (300 * (1 + p) + j) else S 11 j)) → ∃ i' w, zev sc (182, 56, [some (.ref 173), some (.int (nI p)), some (.int (nI v))], [], (197, i, zRF b, l)) = zev sc (182, 89, [some (.ref 173), some (.int (nI p)), some (.int w)], [], (197, i', zRF b, l)) ∧ (∀ j, j < 900 → i' 189 j = nI (if j < 300 then S 11 (300 * (1 + p) + j) else S 11 j)) ∧ ∀ c j, c ≠ 189 → i' c j = i c j
  | 0, v, i, hv, h2 => by
    have e : v = 300 := by omega
    subst e
    refine ⟨i, nI 300, ?_, h2, fun _ _ _ => rfl⟩
    rw [b182_56, if_pos (by decide)]
  | n + 1, v, i, hv, h2 => by
    have e30 : (300 : Int32) * ((1 : Int32) + nI p) + nI v = nI (300 * (1 + p) + v) := by rw [L1, nI_add, L300, zmul, nI_add]
    obtain ⟨i', w, g1, g2, g3⟩ := c_mB2 sc (S := S) hp b l n (v + 1) (zU i 189 v (i 189 (300 * (1 + p) + v))) (by omega) (fun j hj => by
      by_cases e : j = v
      · rw [e, zUs, if_pos (by omega), h2 _ (by omega), if_neg (by omega)]
      · rw [zUn _ _ (Or.inr e), h2 j hj, zifc (a := j < v) (b := j < v + 1) (by omega)])
    refine ⟨i', w, ?_, g2, fun c j hc => by rw [g3 c j hc, zUn _ _ (Or.inl hc)]⟩
    rw [← g1, b182_56, if_neg (show ¬ (300 : Int32) ≤ nI v from zq_nle (a := 300) (by omega) (by decide)), b182_63 _ _ _ _ _ _ (by rw [e30]; exact vp_in_nI (by omega) (by decide)) (vp_in_nI (by omega) (by decide)), e30, nI_clamp (n := v) (by omega), nI_clamp (n := 300 * (1 + p) + v) (by omega), nI_1]
theorem op_back (sc : zScr) {S : zS} {i : Nat → Nat → Int32} (b : Bool) {l : Nat → Nat → Int64} (h : Rl S i l) (w : Int32) : zOp sc 102 182 [some (.ref 0), some (.int w)] [some (.ref 173), some (.int w), none] i b l := by
  obtain ⟨hI, hX, hM, hL⟩ := id h
  have hE := hI.E
  have hB := hI.B
  refine (zix w 2 (by decide)).elim ?_ (fun hw => by
    refine zOp_p (r := .int (-1)) h ?_ ?_
    · rw [b102_0, c_xImage, Option.bind_some]
      dsimp only
      rw [zis_out hw, b102_4, if_pos rfl, b102_7]
    · rw [b182_0, c_in, Option.bind_some]
      dsimp only
      rw [zin2, zis_out hw, b182_6, if_pos rfl, b182_9])
  rintro ⟨p, hp, rfl⟩
  have hz := zis_in (j := p) (n := 2) (by decide) hp
  obtain ⟨r1, r2, r3, r4, r5, r6, r7, r8⟩ := zIm_all b p hp
  have hcp : (nI p).toNatClampNeg = p := nI_clamp (by omega)
  have hin2 : vp_in (nI p) 2 := vp_in_nI hp (by decide)
  have hk01 := hI.kept p hp
  have xh : zev sc (102, 0, [some (.ref 0), some (.int (nI p))], [], (197, i, zRF b, l)) = if nI (S 13 p) = 0 then zev sc (102, 21, [some (.ref 0), some (.int (nI p))], [], (197, i, zRF b, l)) else zev sc (102, 24, [some (.ref 0), some (.int (nI p))], [], (197, i, zRF b, l)) := by
    rw [b102_0, c_xImage, Option.bind_some]
    dsimp only
    rw [hz, b102_4, if_neg (by decide), b102_9 _ _ (79 + 47 * p) _ _ _ hin2 (by rw [hcp]; exact r1) r2, (hX.img hp).1]
  have mh : ∀ i', MR S i' → zev sc (182, 0, [some (.ref 173), some (.int (nI p)), none], [], (197, i', zRF b, l)) = if nI (S 13 p) = 0 then zev sc (182, 20, [some (.ref 173), some (.int (nI p)), none], [], (197, i', zRF b, l)) else zev sc (182, 23, [some (.ref 173), some (.int (nI p)), none], [], (197, i', zRF b, l)) := by
    intro i' hM'
    rw [b182_0, c_in, Option.bind_some]
    dsimp only
    rw [zin2, hz, b182_6, if_neg (by decide), b182_11 _ _ _ _ _ hin2, hcp, hM'.kp hp]
  by_cases hk0 : S 13 p = 0
  · refine zOp_p (r := .int (-2)) h ?_ ?_
    · rw [xh, if_pos (by rw [hk0]; rfl), b102_21]
    · rw [mh i hM, if_pos (by rw [hk0]; rfl), b182_20]
  have hk1 : S 13 p = 1 := by omega
  have hk0' : ¬ nI (S 13 p) = 0 := by rw [hk1]; decide
  obtain ⟨xs, xp⟩ := (hX.img hp).2 hk1
  obtain ⟨o1, o2⟩ := hI.past (1 + p) (by omega) (Or.inr (by rw [show 1 + p - 1 = p by omega]; exact hk1))
  have okp := hI.img p hp hk1
  have hs17 : rI S p 17 ≤ 12 := okp.2.2.2.2.2.1
  obtain ⟨i1, c1, c2, c3⟩ := c_copy sc (by decide : 19 ∈ zSl) r7 (by omega) i b l
  obtain ⟨i2, d1, d2, d3, d4⟩ := c_pastCopy sc (by decide : 24 ∈ zPl) r8 (by omega) i1 b l
  have hout : ∀ c j, (c < 19 ∨ 22 < c) → (c < 24 ∨ 65 < c) → i2 c j = i c j := fun c j h1 h2 => by rw [d4 c j h2, c3 c j h1]
  have st1 : XSt (S 1 0) (S 3 0) 19 (rI S p) i2 := (xs.copy hE hB hs17 c2).congr (fun c j g1 g2 => d4 c j (by omega))
  have pa1 : XPa (S 1 0) (S 3 0) 24 (S 10 (1 + p)) (rB S (1 + p)) i2 := by
    have p84 : XPa (S 1 0) (S 3 0) (84 + 47 * p) (S 10 (1 + p)) (rB S (1 + p)) i1 := xp.congr (fun c j g1 g2 => c3 c j (by omega))
    exact p84.copy hE hB o1 (fun m hm => (o2 m hm).2.2.2.2.2.1) d2 d3
  have hX1 : XR (sBk S p) i2 := by
    refine XR.mk (S := sBk S p) (hX.xl.congr (fun c j h1 h2 => hout c j (by omega) (by omega))) st1 ?_ ?_ (hX.xe.congr (fun c j h1 h2 => hout c j (by omega) (by omega))) (hX.xt.congr (fun c j h1 => hout c j (by omega) (by omega)))
    · rw [show sBk S p 10 0 = S 10 (1 + p) from rfl]
      exact pa1.row hE hB (fun m hm => (o2 m hm).2.2.2.2.2.1) (fun m hm j hj => rB_b0 S p (by omega) hj)
    · intro q hq
      refine ⟨(hout _ _ (by omega) (by omega)).trans (hX.xg q hq).1, fun hk => ?_⟩
      obtain ⟨q1, q2⟩ := (hX.xg q hq).2 hk
      obtain ⟨u1, u2⟩ := hI.past (1 + q) (by omega) (Or.inr (by rw [show 1 + q - 1 = q by omega]; exact hk))
      refine ⟨q1.congr (fun c j g1 g2 => hout c j (by omega) (by omega)), ?_⟩
      rw [show sBk S p 10 (1 + q) = S 10 (1 + q) from if_neg (by omega)]
      exact (q2.congr (fun c j g1 g2 => hout c j (by omega) (by omega))).row hE hB (fun m hm => (u2 m hm).2.2.2.2.2.1) (fun m hm j hj => rB_bq S (by omega))
  have hM1 : MR S i2 := hM.congr hI (fun c j q => by have := q.1; exact hout c j (by omega) (by omega))
  obtain ⟨i3, w3, k1, k2, k3⟩ := c_mB1 sc (S := S) hp b l 30 0 i2 (by decide) (fun j hj => hM1.st hj) (fun j hj => absurd hj (Nat.not_lt_zero _))
  obtain ⟨i4, w4, m1, m2, m3⟩ := c_mB2 sc (S := S) hp b l 300 0 i3 (by decide) (fun j hj => by rw [if_neg (by omega), k3 _ _ (by decide)]; exact hM1.bf hj)
  have e1p : (1 : Int32) + nI p = nI (1 + p) := by rw [L1, nI_add]
  have hin3 : vp_in ((1 : Int32) + nI p) 3 := by rw [e1p]; exact vp_in_nI (by omega) (by decide)
  have e188 : i4 188 (1 + p) = nI (S 10 (1 + p)) := by rw [m3 _ _ (by decide), k3 _ _ (by decide)]; exact hM1.kn (by omega)
  have e16 : zU i4 188 0 (nI (S 10 (1 + p))) 187 16 = nI (rI S p 16) := by rw [zUn _ _ (Or.inl (by decide)), m3 _ _ (by decide)]; exact k2 16 (by decide)
  have hout2 : ∀ c j, c ≠ 187 → c ≠ 189 → (c ≠ 188 ∨ j ≠ 0) → zU i4 188 0 (nI (S 10 (1 + p))) c j = i2 c j := fun c j h1 h2 h3 => by rw [zUn _ _ h3, m3 c j h2, k3 c j h1]
  refine ⟨.int (nI (rI S p 16)), i2, b, l, zU i4 188 0 (nI (S 10 (1 + p))), l, sBk S p, ?_, ?_, hI.bk hp hk1, hX1.congr (fun c j q => by have := q.1; exact hout2 c j (by omega) (by omega) (by omega)), ?_, hL⟩
  · have e6 : i2 19 6 = nI (rI S p 16) := hX1.wet
    rw [xh, if_neg hk0', b102_24 _ _ (79 + 47 * p) _ _ _ hin2 (by rw [hcp]; exact r1) r2, b31_0 _ _ _ _ (80 + 47 * p) _ _ _ r2 r3 (by cases b <;> decide +kernel), c1, Option.bind_some]
    dsimp only
    rw [b31_8 _ _ _ _ (84 + 47 * p) _ _ _ r2 r4 (by cases b <;> decide +kernel), d1, Option.bind_some]
    dsimp only
    rw [b31_16, Option.bind_some]
    dsimp only
    rw [b102_41, e6]
  · rw [show nI 0 = 0 from rfl] at k1 m1
    rw [mh _ hM1, if_neg hk0', b182_23, k1, b182_54, m1, b182_89 _ _ _ _ _ _ hin3, e1p, nI_clamp (n := 1 + p) (by omega), e188, e16]
  · refine MR.mk (S := sBk S p) (hM1.ml.congr (fun c j h1 h2 => hout2 c j (by omega) (by omega) (by omega))) (fun j hj => ?_) ⟨fun q hq => ?_, fun j hj => ?_, fun j hj => ?_, fun q hq => ?_⟩ (hM1.me.congr (fun c j h1 => hout2 c j (by omega) (by omega) (by omega))) (hM1.mt.congr (fun c j h1 => hout2 c j (by omega) (by omega) (by omega)))
    · rw [zUn _ _ (Or.inl (by decide)), m3 _ _ (by decide)]
      exact k2 j hj
    · by_cases e : q = 0
      · rw [e, zUs, show sBk S p 10 0 = S 10 (1 + p) from rfl]
      · rw [hout2 _ _ (by decide) (by decide) (Or.inr e), show sBk S p 10 q = S 10 q from if_neg e]
        exact hM1.kn hq
    · rw [zUn _ _ (Or.inl (by decide))]
      exact m2 j hj
    · rw [hout2 _ _ (by decide) (by decide) (Or.inl (by decide))]
      exact hM1.st hj
    · rw [hout2 _ _ (by decide) (by decide) (Or.inl (by decide))]
      exact hM1.kp hq
