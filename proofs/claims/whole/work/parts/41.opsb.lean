/-! now: one of each two -/
theorem zandnot (x y : Int32) : x &&& (y ^^^ -1) = x ^^^ (x &&& y) := by
  apply Int32.toBitVec_inj.mp
  rw [Int32.toBitVec_and, Int32.toBitVec_xor, Int32.toBitVec_xor, Int32.toBitVec_and, show (-1 : Int32).toBitVec = BitVec.allOnes 32 from rfl]
  ext j hj
  simp only [BitVec.getElem_and, BitVec.getElem_xor, BitVec.getElem_allOnes]
  cases x.toBitVec[j] <;> cases y.toBitVec[j] <;> rfl
theorem zsub_bits {p s : Nat} (hp : p < 256) : (p ^^^ (p &&& s)) = 0 ↔ ∀ g, g < 8 → zbt p g = 1 → zbt s g = 1 := by
  constructor
  · intro h g _ h1
    have h2 : (p ^^^ (p &&& s)).testBit g = (0 : Nat).testBit g := by rw [h]
    rw [Nat.testBit_xor, Nat.testBit_and, Nat.zero_testBit, (zbt_testBit p g).mp h1] at h2
    rw [zbt_testBit]
    cases hs : s.testBit g
    · rw [hs] at h2
      cases h2
    · rfl
  · intro h
    apply Nat.eq_of_testBit_eq
    intro g
    rw [Nat.testBit_xor, Nat.testBit_and, Nat.zero_testBit]
    cases hpg : p.testBit g
    · rfl
    · have h1 := (zbt_testBit p g).mpr hpg
      have hg : g < 8 := by
        refine Decidable.byContradiction (fun z => ?_)
        have : p < 2 ^ g := Nat.lt_of_lt_of_le hp (Nat.pow_le_pow_right (n := 2) (by decide) (show 8 ≤ g by omega))
        rw [Nat.testBit_lt_two_pow this] at hpg
        cases hpg
      rw [(zbt_testBit s g).mp (h g hg h1)]
      rfl
/-- of each two partners one at least is in the set -/
abbrev sHo (pt : Nat → Nat) (s many : Nat) : Prop := ∀ t, t < many → zbt s t = 1 ∨ ∀ g, g < 8 → zbt (pt t) g = 1 → zbt s g = 1
theorem c_xHo (sc : zScr) {pt : Nat → Nat} {s many : Nat} (hs : s < 256) (hm : many ≤ 8) (hp : ∀ t, t < many → pt t < 256) (b : Bool) (l : Nat → Nat → Int64) (i : Nat → Nat → Int32) (h76 : ∀ t, t < many → i 76 t = nI (pt t)) : ∀ (n v : Nat), v + n = many → (∀ t, t < v → zbt s t = 1 ∨ ∀ g, g < 8 → zbt (pt t) g = 1 → zbt s g = 1) → zev sc (7, 2, [some (.ref 75), some (.int (nI s)), some (.int (nI many)), some (.int (nI v))], [], (197, i, zRF b, l)) = some (.int (if sHo pt s many then 1 else 0), (197, i, zRF b, l))
  | 0, v, hv, h => by
    have e : v = many := by omega
    subst e
    rw [b7_2, if_pos (Int32.le_refl _), b7_36, if_pos (show sHo pt s v from h)]
  | n + 1, v, hv, h => by
    have hpv := hp v (by omega)
    have hx : pt v ^^^ (pt v &&& s) < 256 := Nat.xor_lt_two_pow (n := 8) hpv (Nat.lt_of_le_of_lt Nat.and_le_left hpv)
    have on : (zbt s v = 1 ∨ ∀ g, g < 8 → zbt (pt v) g = 1 → zbt s g = 1) → zev sc (7, 30, [some (.ref 75), some (.int (nI s)), some (.int (nI many)), some (.int (nI v))], [], (197, i, zRF b, l)) = some (.int (if sHo pt s many then 1 else 0), (197, i, zRF b, l)) := by
      intro q
      rw [b7_30, nI_1]
      exact c_xHo sc hs hm hp b l i h76 n (v + 1) (by omega) (fun t ht => by
        by_cases e : t = v
        · rw [e]; exact q
        · exact h t (by omega))
    rw [b7_2, if_neg (zq_nle (by omega) (by omega)), b7_7, zbit (by omega) (by omega)]
    rcases zbt_01 s v with q | q
    · rw [q, if_pos (show nI 0 = 0 from rfl), b7_15 _ _ _ _ _ _ _ (vp_in_nI (by omega) (by decide)), nI_clamp (by omega), h76 v (by omega), zandnot, fa_and, nx_xor]
      by_cases q2 : ∀ g, g < 8 → zbt (pt v) g = 1 → zbt s g = 1
      · rw [if_pos ((nI_eq0 (by omega)).mpr ((zsub_bits hpv).mpr q2)), on (Or.inr q2)]
      · rw [if_neg (fun z => q2 ((zsub_bits hpv).mp ((nI_eq0 (by omega)).mp z))), b7_28, if_neg (fun z => (z v (by omega)).elim (fun z => by omega) q2)]
    · rw [q, if_neg (show ¬ nI 1 = 0 by decide), on (Or.inl q)]
theorem c_xFw (sc : zScr) {pt : Nat → Nat} {many : Nat} (hm : many ≤ 8) (hp : ∀ t, t < many → pt t < 256) (b : Bool) (l : Nat → Nat → Int64) (i : Nat → Nat → Int32) (h76 : ∀ t, t < many → i 76 t = nI (pt t)) : ∀ (n v : Nat), v + n = 2 ^ many → zev sc (6, 8, [some (.ref 75), some (.int (nI many)), some (.int (nI (sFw (fun s => sHo pt s many) (2 ^ many - 1) v))), some (.int (nI v))], [], (197, i, zRF b, l)) = some (.int (nI (sFw (fun s => sHo pt s many) (2 ^ many - 1) (2 ^ many))), (197, i, zRF b, l))
  | 0, v, hv => by
    have e : v = 2 ^ many := by omega
    have h2 := z2p hm
    rw [b6_8, zsh1 (by omega), if_pos (by rw [e]; exact Int32.le_refl _), b6_43, e]
  | n + 1, v, hv => by
    have h2 := z2p hm
    have hb := sFw_le (P := fun s => sHo pt s many) (A := 2 ^ many - 1) v (by omega)
    have ih := c_xFw sc hm hp b l i h76 n (v + 1) (by omega)
    have z1 : zpc v ≤ 8 := zsum_le (fun j => by have := zbt_01 v j; omega) 8
    have z2 : zpc (sFw (fun s => sHo pt s many) (2 ^ many - 1) v) ≤ 8 := zsum_le (fun j => by have := zbt_01 (sFw (fun s => sHo pt s many) (2 ^ many - 1) v) j; omega) 8
    rw [← ih, b6_8, zsh1 (by omega), if_neg (zq_nle (by omega) (by omega)), b6_15, c_bitCount sc (by omega), Option.bind_some]
    dsimp only
    rw [b6_19, c_bitCount sc (by omega), Option.bind_some]
    dsimp only
    rw [b6_23]
    by_cases q1 : zpc v < zpc (sFw (fun s => sHo pt s many) (2 ^ many - 1) v)
    · have hh := c_xHo sc (s := v) (by omega) hm hp b l i h76 many 0 (by omega) (fun t ht => absurd ht (Nat.not_lt_zero _))
      rw [show nI 0 = 0 from rfl] at hh
      rw [if_neg (zq_nle q1 (by omega)), b6_26, b7_0, hh, Option.bind_some]
      dsimp only
      rw [b6_32]
      by_cases q2 : sHo pt v many
      · rw [if_pos q2, if_neg (by decide), b6_35, b6_37, nI_1, show sFw (fun s => sHo pt s many) (2 ^ many - 1) (v + 1) = v from if_pos ⟨q1, q2⟩]
      · rw [if_neg q2, if_pos rfl, b6_37, nI_1, show sFw (fun s => sHo pt s many) (2 ^ many - 1) (v + 1) = sFw (fun s => sHo pt s many) (2 ^ many - 1) v from if_neg (fun z => q2 z.2)]
    · rw [if_pos ((nI_leI (by omega) (by omega)).mpr (by omega)), b6_37, nI_1, show sFw (fun s => sHo pt s many) (2 ^ many - 1) (v + 1) = sFw (fun s => sHo pt s many) (2 ^ many - 1) v from if_neg (fun z => q1 z.1)]
