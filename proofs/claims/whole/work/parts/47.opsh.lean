/-! now: the fewest, in the class -/
def sFt (S : zS) : Nat := sFw (fun s => sHo (fun f => sPn S f (S 1 0)) s (S 1 0)) (2 ^ S 1 0 - 1) (2 ^ S 1 0)
def sFe (S : zS) : Nat := sFw (fun s => sHo (fun x => sEr S (S 1 0) x) s (S 0 0)) (2 ^ S 0 0 - 1) (2 ^ S 0 0)
theorem c_xFt (sc : zScr) {S : zS} (hI : Inv S) (b : Bool) (l : Nat → Nat → Int64) (i : Nat → Nat → Int32) (hX : XR S i) : ∃ i', zev sc (2, 0, [some (.ref 75)], [], (197, i, zRF b, l)) = some (.int (nI (sFt S)), (197, i', zRF b, l)) ∧ ∀ c t, c ≠ 76 → i' c t = i c t := by
  have hE := hI.E
  have h2 := z2p hE
  obtain ⟨i1, a1, a2, a3⟩ := c_xPa sc hI b l (S 1 0) 0 i none (by omega) hX (fun t ht => absurd ht (Nat.not_lt_zero _))
  have hX1 : XR S i1 := hX.congr (fun c t z => a3 c t (by have := z.2.2.2; omega))
  have h := c_xFw sc (pt := fun f => sPn S f (S 1 0)) hE (fun t _ => Nat.lt_of_lt_of_le (sPn_lt S t _) h2) b l i1 a2 (2 ^ S 1 0) 0 (by omega)
  rw [show nI 0 = 0 from rfl] at a1 h
  refine ⟨i1, ?_, a3⟩
  rw [b2_0, b4_0, a1, Option.bind_some]
  dsimp only
  rw [b2_4, hX1.E, b6_0, zsh1 (by omega), zall hE]
  rw [show sFw (fun s => sHo (fun f => sPn S f (S 1 0)) s (S 1 0)) (2 ^ S 1 0 - 1) 0 = 2 ^ S 1 0 - 1 from rfl] at h
  rw [h, Option.bind_some]
  dsimp only
  rw [b2_15]
  rfl
theorem c_xFe (sc : zScr) {S : zS} (hI : Inv S) (b : Bool) (l : Nat → Nat → Int64) (i : Nat → Nat → Int32) (hX : XR S i) : ∃ i', zev sc (3, 0, [some (.ref 75), none], [], (197, i, zRF b, l)) = some (.int (nI (sFe S)), (197, i', zRF b, l)) ∧ ∀ c t, c ≠ 76 → i' c t = i c t := by
  have hF := hI.F
  have h2 := z2p hF.2
  obtain ⟨i0, d1, d2, d3⟩ := c_xE0 sc hI b l (S 0 0) 0 i (by omega) hX (fun t ht => absurd ht (Nat.not_lt_zero _))
  have hX0 : XR S i0 := hX.congr (fun c t z => d3 c t (by have := z.2.2.2; omega))
  obtain ⟨i1, a1, a2, a3⟩ := c_xE1 sc hI b l (S 1 0) 0 i0 (by omega) hX0 d2
  have hX1 : XR S i1 := hX0.congr (fun c t z => a3 c t (by have := z.2.2.2; omega))
  have h := c_xFw sc (pt := fun x => sEr S (S 1 0) x) hF.2 (fun t _ => sEr_lt hI (S 1 0) t (Nat.le_refl _)) b l i1 a2 (2 ^ S 0 0) 0 (by omega)
  rw [show nI 0 = 0 from rfl] at a1 d1 h
  refine ⟨i1, ?_, fun c t hc => by rw [a3 c t hc, d3 c t hc]⟩
  rw [show sFw (fun s => sHo (fun x => sEr S (S 1 0) x) s (S 0 0)) (2 ^ S 0 0 - 1) 0 = 2 ^ S 0 0 - 1 from rfl] at h
  rw [b3_0, d1, b3_26, a1, b3_84, hX1.F, b6_0, zsh1 (by omega), zall hF.2, h, Option.bind_some]
  dsimp only
  rw [b3_95]
  rfl
