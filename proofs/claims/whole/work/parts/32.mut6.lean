/-! undo -/
def sUn (S : zS) : zS := zRw S 10 (fun p => if p = 0 then S 10 0 - 1 else S 10 p)
theorem op_undo (sc : zScr) {S : zS} {i : Nat → Nat → Int32} (b : Bool) {l : Nat → Nat → Int64} (h : Rl S i l) : zOp sc 86 152 [some (.ref 0)] [some (.ref 173), none] i b l := by
  obtain ⟨hI, hX, hM, hL⟩ := id h
  have hE := hI.E
  have hB := hI.B
  obtain ⟨hn10, hok⟩ := hI.past 0 (by decide) (Or.inl rfl)
  obtain ⟨hn, lt, hlt, hlat, hst⟩ := hX.past
  by_cases h0 : S 10 0 = 0
  · refine zOp_p (r := .int (-2)) h ?_ ?_
    · rw [b86_0, hn, if_pos (by rw [h0]; rfl), b86_10]
    · rw [b152_0, hM.kn (by decide), if_pos (by rw [h0]; rfl), b152_9]
  have okl := hok (S 10 0 - 1) (by omega)
  have hs17 := okl.2.2.2.2.2.1
  have stl : XSt (S 1 0) (S 3 0) (26 + 4 * lt) (rB S 0 (S 10 0 - 1)) i := by
    have := hst 0 (by omega)
    rw [show (lt + 10 - 0) % 10 = lt by omega, Nat.sub_zero] at this
    exact this
  obtain ⟨i1, c1, c2, c3⟩ := c_copy sc (by decide : 19 ∈ zSl) (zring lt hlt).2.2.1 (by omega) i b l
  have st1 := stl.copy hE hB hs17 c2
  obtain ⟨lt', hl', hll, hrs⟩ : ∃ lt', lt' < 10 ∧ (lt = lt' + 1 ∨ (lt = 0 ∧ lt' = 9)) ∧ zev sc (40, 0, [some (.ref 24), some (.ref 19)], [], (197, i, zRF b, l)) = zev sc (40, 32, [some (.ref 24), some (.ref 19)], [.int (nI lt'), .ref 24], (197, i1, zRF b, l)) := by
    have e1 : i1 24 1 = nI lt := by rw [c3 _ _ (by omega), hlat]
    rw [b40_0 _ (26 + 4 * lt) _ _ _ (by rw [hlat]; exact vp_in_nI hlt (by decide)) (by rw [hlat, nI_clamp (by omega)]; exact zringb b hlt), c1, Option.bind_some]
    dsimp only
    rw [b40_13, e1]
    by_cases hz : lt = 0
    · refine ⟨9, by decide, Or.inr ⟨hz, rfl⟩, ?_⟩
      rw [if_pos (by rw [hz]; decide), b40_30]
      rfl
    · refine ⟨lt - 1, by omega, Or.inl (by omega), ?_⟩
      rw [if_neg (fun z => hz ((nI_le0 (by omega)).mp z)), b40_21, e1]
      obtain ⟨q, rfl⟩ : ∃ q, lt = q + 1 := ⟨lt - 1, by omega⟩
      rw [nI_pred]
      rfl
  have ek : (nI (S 10 0) - 1) = nI (S 10 0 - 1) := by
    obtain ⟨q, hq⟩ : ∃ q, S 10 0 = q + 1 := ⟨S 10 0 - 1, by omega⟩
    rw [hq, nI_pred]
    rfl
  have hout : ∀ c j, (c < 19 ∨ 22 < c) → (c ≠ 24 ∨ (j ≠ 1 ∧ j ≠ 2)) → zU (zU i1 24 1 (nI lt')) 24 2 (nI (S 10 0 - 1)) c j = i c j := fun c j h1 h2 => by rw [zUn _ _ (by omega), zUn _ _ (by omega), c3 c j h1]
  have hIu : Inv (sNw (sUn S) (rB S 0 (S 10 0 - 1))) := by
    obtain ⟨h1, h2, h3, h4, h5, h6, h7, h8, h9, h10, h11, h12, h13, h14, h15⟩ := id hI
    refine ⟨h1, h2, h3, h4, h5, h6, h7, okl, ?_, h10, h11, h12, h13, h14, h15⟩
    intro p hp hq
    obtain ⟨g1, g2⟩ := h9 p hp hq
    have e : sNw (sUn S) (rB S 0 (S 10 0 - 1)) 10 p ≤ S 10 p := by
      show (if p = 0 then S 10 0 - 1 else S 10 p) ≤ S 10 p
      split
      · rename_i e; subst e; omega
      · exact Nat.le_refl _
    exact ⟨by omega, fun n hn => g2 n (by omega)⟩
  have hX1 : XR (sNw (sUn S) (rB S 0 (S 10 0 - 1))) (zU (zU i1 24 1 (nI lt')) 24 2 (nI (S 10 0 - 1))) := by
    refine XR.mk (S := sNw (sUn S) (rB S 0 (S 10 0 - 1))) (hX.xl.congr (fun c j h1 h2 => hout c j (by omega) (by omega))) (st1.congr (fun c j h1 h2 => by rw [zUn _ _ (Or.inl (by omega)), zUn _ _ (Or.inl (by omega))])) ?_ ?_ (hX.xe.congr (fun c j h1 h2 => hout c j (by omega) (by omega))) (hX.xt.congr (fun c j h1 => hout c j (by omega) (by omega)))
    · refine ⟨zUs _ _ _ _, lt', hl', by rw [zUn _ _ (Or.inr (by decide)), zUs], fun t ht => ?_⟩
      have ht' : t < S 10 0 - 1 := ht
      show XSt (S 1 0) (S 3 0) (26 + 4 * ((lt' + 10 - t) % 10)) (rB S 0 (S 10 0 - 1 - 1 - t)) _
      have := hst (t + 1) (by omega)
      rw [show (lt + 10 - (t + 1)) % 10 = (lt' + 10 - t) % 10 by omega, show S 10 0 - 1 - (t + 1) = S 10 0 - 1 - 1 - t by omega] at this
      exact this.congr (fun c j g1 g2 => hout c j (by omega) (by omega))
    · intro p hp
      refine ⟨(hout _ _ (by omega) (by omega)).trans (hX.xg p hp).1, fun hk => ?_⟩
      obtain ⟨q1, q2⟩ := (hX.xg p hp).2 hk
      refine ⟨q1.congr (fun c j g1 g2 => hout c j (by omega) (by omega)), ?_⟩
      have e10 : sNw (sUn S) (rB S 0 (S 10 0 - 1)) 10 (1 + p) = S 10 (1 + p) := if_neg (by omega)
      rw [e10]
      exact q2.congr (fun c j g1 g2 => hout c j (by omega) (by omega))
  have hM1 : MR S (zU (zU i1 24 1 (nI lt')) 24 2 (nI (S 10 0 - 1))) := hM.congr hI (fun c j q => by have := q.1; exact hout c j (by omega) (by omega))
  -- the model copies its row back
  have loop : ∀ (n v : Nat) (i' : Nat → Nat → Int32), v + n = 30 → i' 188 0 = nI (S 10 0 - 1) → (∀ j, j < 900 → i' 189 j = nI (S 11 j)) → (∀ j, j < v → i' 187 j = nI (rB S 0 (S 10 0 - 1) j)) → ∃ i2, zev sc (152, 24, [some (.ref 173), some (.int (nI v))], [], (197, i', zRF b, l)) = some (.int (nI (S 10 0 - 1)), (197, i2, zRF b, l)) ∧ (∀ j, j < 30 → i2 187 j = nI (rB S 0 (S 10 0 - 1) j)) ∧ ∀ c j, c ≠ 187 → i2 c j = i' c j := by
    intro n
    induction n with
    | zero =>
      intro v i' hv g1 g2 g3
      have e : v = 30 := by omega
      subst e
      refine ⟨i', ?_, g3, fun _ _ _ => rfl⟩
      rw [b152_24, if_pos (by decide), b152_58, g1]
    | succ n ih =>
      intro v i' hv g1 g2 g3
      have e30 : (30 : Int32) * i' 188 0 + nI v = nI (30 * (S 10 0 - 1) + v) := by rw [g1, L30, zmul, nI_add]
      obtain ⟨i2, p1, p2, p3⟩ := ih (v + 1) (zU i' 187 v (i' 189 (30 * (S 10 0 - 1) + v))) (by omega) (by rw [zUn _ _ (Or.inl (by decide))]; exact g1) (fun j hj => by rw [zUn _ _ (Or.inl (by decide))]; exact g2 j hj) (fun j hj => by
        by_cases e : j = v
        · rw [e, zUs, g2 _ (by omega)]
          exact congrArg (fun t => nI (S 11 t)) (by omega)
        · rw [zUn _ _ (Or.inr e)]; exact g3 j (by omega))
      refine ⟨i2, ?_, p2, fun c j hc => by rw [p3 c j hc, zUn _ _ (Or.inl hc)]⟩
      rw [← p1, b152_24, if_neg (show ¬ (30 : Int32) ≤ nI v from zq_nle (a := 30) (by omega) (by decide)), b152_30 _ _ _ _ _ (by rw [e30]; exact vp_in_nI (by omega) (by decide)) (vp_in_nI (by omega) (by decide)), e30, nI_clamp (n := v) (by omega), nI_clamp (n := 30 * (S 10 0 - 1) + v) (by omega), nI_1]
  obtain ⟨i2, p1, p2, p3⟩ := loop 30 0 (zU (zU (zU i1 24 1 (nI lt')) 24 2 (nI (S 10 0 - 1))) 188 0 (nI (S 10 0 - 1))) (by decide) (zUs _ _ _ _) (fun j hj => by rw [zUn _ _ (Or.inl (by decide))]; exact hM1.bf hj) (fun j hj => absurd hj (Nat.not_lt_zero _))
  have hout2 : ∀ c j, c ≠ 187 → (c ≠ 188 ∨ j ≠ 0) → i2 c j = zU (zU i1 24 1 (nI lt')) 24 2 (nI (S 10 0 - 1)) c j := fun c j h1 h2 => by rw [p3 c j h1, zUn _ _ h2]
  refine ⟨.int (nI (S 10 0 - 1)), zU (zU i1 24 1 (nI lt')) 24 2 (nI (S 10 0 - 1)), b, l, i2, l, sNw (sUn S) (rB S 0 (S 10 0 - 1)), ?_, ?_, hIu, hX1.congr (fun c j q => by have := q.1; exact hout2 c j (by omega) (by omega)), ?_, hL⟩
  · have e2 : zU i1 24 1 (nI lt') 24 2 = nI (S 10 0) := by rw [zUn _ _ (Or.inr (by decide)), c3 _ _ (by omega), hn]
    have hmx : (if (0 : Int32) < nI (S 10 0 - 1) then nI (S 10 0 - 1) else 0) = nI (S 10 0 - 1) := by
      by_cases g : 0 < S 10 0 - 1
      · rw [if_pos ((nI_gt0 (by omega)).mpr g)]
      · rw [if_neg (fun z => g ((nI_gt0 (by omega)).mp z)), show S 10 0 - 1 = 0 by omega]
        rfl
    rw [b86_0, hn, if_neg (fun z => h0 ((nI_eq0 (by omega)).mp z)), b86_13, hrs, b40_32, e2, ek, hmx, Option.bind_some]
    dsimp only
    rw [b86_24, zUs]
  · have e0 := hM1.kn (j := 0) (by decide)
    rw [show nI 0 = 0 from rfl] at p1
    rw [b152_0, e0, if_neg (fun z => h0 ((nI_eq0 (by omega)).mp z)), b152_12, e0, ek]
    exact p1
  · refine MR.mk (S := sNw (sUn S) (rB S 0 (S 10 0 - 1))) (hM1.ml.congr (fun c j h1 h2 => hout2 c j (by omega) (by omega))) p2 ⟨fun p hp => ?_, fun j hj => ?_, fun j hj => ?_, fun p hp => ?_⟩ (hM1.me.congr (fun c j h1 => hout2 c j (by omega) (by omega))) (hM1.mt.congr (fun c j h1 => hout2 c j (by omega) (by omega)))
    · by_cases e : p = 0
      · subst e
        rw [p3 _ _ (by decide), zUs]
        rfl
      · rw [hout2 _ _ (by decide) (Or.inr e), hM1.kn hp, show sNw (sUn S) (rB S 0 (S 10 0 - 1)) 10 p = S 10 p from if_neg e]
    · rw [hout2 _ _ (by decide) (Or.inl (by decide))]; exact hM1.bf hj
    · rw [hout2 _ _ (by decide) (Or.inl (by decide))]; exact hM1.st hj
    · rw [hout2 _ _ (by decide) (Or.inl (by decide))]; exact hM1.kp hp
