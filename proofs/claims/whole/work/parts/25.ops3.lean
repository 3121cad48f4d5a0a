/-! fifths, ask -/
def zsum (p : Nat → Nat) : Nat → Nat
  | 0 => 0
  | n + 1 => zsum p n + p n
theorem zsum_congr {p q : Nat → Nat} : ∀ {n : Nat}, (∀ j, j < n → p j = q j) → zsum p n = zsum q n
  | 0, _ => rfl
  | n + 1, h => by
    unfold zsum
    rw [zsum_congr (fun j hj => h j (by omega)), h n (by omega)]
theorem zsum_add (p q : Nat → Nat) : ∀ n, zsum (fun j => p j + q j) n = zsum p n + zsum q n
  | 0 => rfl
  | n + 1 => by
    unfold zsum
    rw [zsum_add p q n]
    omega
theorem zsum_0 : ∀ n, zsum (fun _ => 0) n = 0
  | 0 => rfl
  | n + 1 => by unfold zsum; rw [zsum_0 n]
/-- twos counted below or above -/
theorem zsum_swap (p : Nat → Nat → Nat) (hp : ∀ f g, p f g = p g f) : ∀ n, zsum (fun f => zsum (p f) f) n = zsum (fun f => zsum (fun g => if f < g then p f g else 0) n) n
  | 0 => rfl
  | n + 1 => by
    have h1 : zsum (fun f => zsum (fun g => if f < g then p f g else 0) (n + 1)) (n + 1) = zsum (fun f => zsum (fun g => if f < g then p f g else 0) n) n + zsum (p n) n := by
      show zsum (fun f => zsum (fun g => if f < g then p f g else 0) (n + 1)) n + zsum (fun g => if n < g then p n g else 0) (n + 1) = _
      rw [zsum_congr (n := n + 1) (q := fun _ => 0) (fun j hj => if_neg (by omega)), zsum_0]
      rw [show zsum (p n) n = zsum (fun f => if f < n then p f n else 0) n from zsum_congr (fun j hj => by rw [if_pos hj, hp n j])]
      rw [← zsum_add]
      rfl
    rw [h1, ← zsum_swap p hp n]
    rfl
/-- two fences at a field, strings, seven apart -/
def sFi (S : zS) (x f g : Nat) : Nat := if (sStr S f = 1 ∧ sAt S f x = 1) ∧ (sStr S g = 1 ∧ sAt S g x = 1) ∧ (S 9 (6 + f) = S 9 (6 + g) + 7 ∨ S 9 (6 + g) = S 9 (6 + f) + 7) then 1 else 0
theorem sFi_symm (S : zS) (x f g : Nat) : sFi S x f g = sFi S x g f := by
  unfold sFi
  refine zifc ⟨fun h => ⟨h.2.1, h.1, h.2.2.symm⟩, fun h => ⟨h.2.1, h.1, h.2.2.symm⟩⟩
def sFif (S : zS) (x : Nat) : Nat := zsum (fun f => zsum (sFi S x f) f) (S 1 0)
theorem c_xStrAt (sc : zScr) {S : zS} {f x : Nat} (hI : Inv S) (hf : f < S 1 0) (hx : x < 2 ^ 31) (i : Nat → Nat → Int32) (hX : XR S i) (b : Bool) (l : Nat → Nat → Int64) : zev sc (17, 0, [some (.ref 23), some (.int (nI f)), some (.int (nI x))], [], (197, i, zRF b, l)) = some (.int (if sStr S f = 1 ∧ sAt S f x = 1 then 1 else 0), (197, i, zRF b, l)) := by
  rw [b17_0, c_xStr sc hI hf i hX, Option.bind_some]
  dsimp only
  rw [b17_5]
  rcases sStr_01 S f with q | q
  · rw [q, if_pos (show nI 0 = 0 from rfl), b17_24, b17_25 _ _ _ _ _ _ _ (Or.inl rfl), if_neg (show ¬ ((0 : Nat) = 1 ∧ sAt S f x = 1) from fun z => absurd z.1 (by decide))]
  · rw [q, if_neg (show ¬ nI 1 = 0 by decide), b17_8, c_xAt sc hI hf hx i hX, Option.bind_some]
    dsimp only
    rw [b17_17]
    rcases sAt_01 S f x with q2 | q2
    · rw [q2, if_pos (show nI 0 = 0 from rfl), b17_24, b17_25 _ _ _ _ _ _ _ (Or.inl rfl), if_neg (show ¬ ((1 : Nat) = 1 ∧ (0 : Nat) = 1) from fun z => absurd z.2 (by decide))]
    · rw [q2, if_neg (show ¬ nI 1 = 0 by decide), b17_20, b17_25 _ _ _ _ _ _ _ (Or.inr rfl), if_pos (show (1 : Nat) = 1 ∧ (1 : Nat) = 1 from ⟨rfl, rfl⟩)]
theorem zdiff_toInt {p q : Nat} (hp : p ≤ 40) (hq : q ≤ 40) : (nI p - nI q).toInt = (p : Int) - q := pk_sub_toInt (by omega) (by omega)
theorem zabs7 {p q : Nat} (hp : p ≤ 40) (hq : q ≤ 40) : ((if 0 ≤ nI p - nI q then nI p - nI q else 0 - (nI p - nI q)) = 7) ↔ (p = q + 7 ∨ q = p + 7) := by
  have h1 := zdiff_toInt hp hq
  have h7 : (7 : Int32).toInt = 7 := rfl
  have h0 : (0 : Int32).toInt = 0 := rfl
  by_cases hc : (0 : Int32) ≤ nI p - nI q
  · rw [if_pos hc]
    have h2 := Int32.le_iff_toInt_le.mp hc
    rw [h1, h0] at h2
    constructor
    · intro e
      have := congrArg Int32.toInt e
      rw [h1, h7] at this
      omega
    · intro e
      apply Int32.toInt_inj.mp
      rw [h1, h7]
      omega
  · rw [if_neg hc]
    have h2 : ¬ (0 : Int) ≤ (p : Int) - q := fun z => hc (Int32.le_iff_toInt_le.mpr (by rw [h1]; exact z))
    have h3 : (0 - (nI p - nI q)).toInt = (q : Int) - p := by
      rw [Int32.toInt_sub, h1, h0, Int.bmod_eq_of_le (by omega) (by omega)]
      omega
    constructor
    · intro e
      have := congrArg Int32.toInt e
      rw [h3, h7] at this
      omega
    · intro e
      apply Int32.toInt_inj.mp
      rw [h3, h7]
      omega
theorem c_xFin (sc : zScr) {S : zS} {x f a0 : Nat} (hI : Inv S) (hx : x < 2 ^ 31) (hf : f < S 1 0) (i : Nat → Nat → Int32) (hX : XR S i) (b : Bool) (l : Nat → Nat → Int64) : ∀ (n g : Nat), g + n = f → zev sc (16, 18, [some (.ref 23), some (.int (nI x)), some (.int (nI (a0 + zsum (sFi S x f) g))), some (.int (nI f)), some (.int (nI g))], [], (197, i, zRF b, l)) = zev sc (16, 4, [some (.ref 23), some (.int (nI x)), some (.int (nI (a0 + zsum (sFi S x f) f))), some (.int (nI (f + 1))), some (.int (nI f))], [], (197, i, zRF b, l))
  | 0, g, hg => by
    have e : g = f := by omega
    subst e
    rw [b16_18, if_pos (Int32.le_refl _), b16_80, nI_1]
  | n + 1, g, hg => by
    have hE := hI.E
    have hgE : g < S 1 0 := by omega
    have hp := hI.pit hf
    have hq := hI.pit hgE
    have ih := c_xFin sc (a0 := a0) hI hx hf i hX b l n (g + 1) (by omega)
    rw [← ih, b16_18, if_neg (show ¬ nI f ≤ nI g from fun q => by have := (nI_leI (by omega) (by omega)).mp q; omega), b16_24, c_xStrAt sc hI hf hx i hX, Option.bind_some]
    dsimp only
    rw [b16_30]
    have stay : sFi S x f g = 0 → zev sc (16, 74, [some (.ref 23), some (.int (nI x)), some (.int (nI (a0 + zsum (sFi S x f) g))), some (.int (nI f)), some (.int (nI g))], [], (197, i, zRF b, l)) = zev sc (16, 18, [some (.ref 23), some (.int (nI x)), some (.int (nI (a0 + zsum (sFi S x f) (g + 1)))), some (.int (nI f)), some (.int (nI (g + 1)))], [], (197, i, zRF b, l)) := by
      intro h0
      rw [b16_74, nI_1, show zsum (sFi S x f) (g + 1) = zsum (sFi S x f) g from by show _ + _ = _; rw [h0]; rfl]
    by_cases h1 : sStr S f = 1 ∧ sAt S f x = 1
    · rw [if_pos h1, if_neg (show ¬ (1 : Int32) = 0 by decide), b16_33, c_xStrAt sc hI hgE hx i hX, Option.bind_some]
      dsimp only
      rw [b16_40]
      by_cases h2 : sStr S g = 1 ∧ sAt S g x = 1
      · rw [if_pos h2, if_neg (show ¬ (1 : Int32) = 0 by decide), b16_43 _ _ _ _ _ _ _ _ (vp_in_nI (by omega) (by decide)) (vp_in_nI (by omega) (by decide)), nI_clamp (by omega), nI_clamp (by omega), hX.pit hf, hX.pit hgE]
        by_cases h3 : S 9 (6 + f) = S 9 (6 + g) + 7 ∨ S 9 (6 + g) = S 9 (6 + f) + 7
        · rw [if_pos ((zabs7 hp hq).mpr h3), b16_71, b16_74, nI_1, nI_1, show zsum (sFi S x f) (g + 1) = zsum (sFi S x f) g + 1 from by show _ + _ = _; rw [show sFi S x f g = 1 from if_pos ⟨h1, h2, h3⟩]]
          rfl
        · rw [if_neg (fun z => h3 ((zabs7 hp hq).mp z))]
          exact stay (if_neg (fun z => h3 z.2.2))
      · rw [if_neg h2, if_pos rfl]
        exact stay (if_neg (fun z => h2 z.2.1))
    · rw [if_neg h1, if_pos rfl]
      exact stay (if_neg (fun z => h1 z.1))
theorem c_xFou (sc : zScr) {S : zS} {x : Nat} (hI : Inv S) (hx : x < 2 ^ 31) (i : Nat → Nat → Int32) (hX : XR S i) (b : Bool) (l : Nat → Nat → Int64) : ∀ (n f : Nat) (w : Option Value), f + n = S 1 0 → zev sc (16, 4, [some (.ref 23), some (.int (nI x)), some (.int (nI (zsum (fun f => zsum (sFi S x f) f) f))), some (.int (nI f)), w], [], (197, i, zRF b, l)) = some (.int (nI (sFif S x)), (197, i, zRF b, l))
  | 0, f, w, hf => by
    have e : f = S 1 0 := by omega
    subst e
    rw [b16_4, hX.E, if_pos (Int32.le_refl _), b16_86]
    rfl
  | n + 1, f, w, hf => by
    have hE := hI.E
    rw [b16_4, hX.E, if_neg (show ¬ nI (S 1 0) ≤ nI f from fun q => by have := (nI_leI (by omega) (by omega)).mp q; omega), b16_15]
    have := c_xFin sc (a0 := zsum (fun f => zsum (sFi S x f) f) f) hI hx (f := f) (by omega) i hX b l f 0 (by omega)
    rw [show nI 0 = 0 from rfl, show zsum (sFi S x f) 0 = 0 from rfl, Nat.add_zero] at this
    rw [this]
    exact c_xFou sc hI hx i hX b l n (f + 1) _ (by omega)
theorem c_xFif (sc : zScr) {S : zS} {x : Nat} (hI : Inv S) (hx : x < 2 ^ 31) (i : Nat → Nat → Int32) (hX : XR S i) (b : Bool) (l : Nat → Nat → Int64) : zev sc (16, 0, [some (.ref 23), some (.int (nI x)), none, none, none], [], (197, i, zRF b, l)) = some (.int (nI (sFif S x)), (197, i, zRF b, l)) := by
  have hE := hI.E
  rw [b16_0]
  by_cases h0 : S 1 0 = 0
  · rw [b16_4, hX.E, h0, if_pos (show nI 0 ≤ 1 by decide), b16_86, show sFif S x = 0 from by unfold sFif; rw [h0]; rfl]
    rfl
  · have := c_xFou sc hI hx i hX b l (S 1 0 - 1) 1 none (by omega)
    exact this
/-- the model counts them with g above f -/
theorem c_mFin (sc : zScr) {S : zS} {x f a0 : Nat} (hI : Inv S) (hx : x < 2 ^ 31) (hf : f < S 1 0) (i : Nat → Nat → Int32) (hM : MR S i) (b : Bool) (l : Nat → Nat → Int64) : ∀ (n g : Nat) (w w2 : Option Value), f < g → g + n = S 1 0 → ∃ w' w2', zev sc (172, 19, [some (.ref 173), some (.int (nI x)), some (.int (nI (a0 + zsum (fun g => if f < g then sFi S x f g else 0) g))), some (.int (nI f)), some (.int (nI g)), w, w2], [], (197, i, zRF b, l)) = zev sc (172, 4, [some (.ref 173), some (.int (nI x)), some (.int (nI (a0 + zsum (fun g => if f < g then sFi S x f g else 0) (S 1 0)))), some (.int (nI (f + 1))), some (.int (nI (S 1 0))), w', w2'], [], (197, i, zRF b, l))
  | 0, g, w, w2, hfg, hg => by
    have e : g = S 1 0 := by omega
    subst e
    refine ⟨w, w2, ?_⟩
    rw [b172_19, hM.E, if_pos (Int32.le_refl _), b172_128, nI_1]
  | n + 1, g, w, w2, hfg, hg => by
    have hE := hI.E
    have hgE : g < S 1 0 := by omega
    have hp := hI.pit hf
    have hq := hI.pit hgE
    have ef : (6 : Int32) + nI f = nI (6 + f) := by rw [L6, nI_add]
    have eg : (6 : Int32) + nI g = nI (6 + g) := by rw [L6, nI_add]
    have hif : vp_in ((6 : Int32) + nI f) 30 := by rw [ef]; exact vp_in_nI (by omega) (by decide)
    have hig : vp_in ((6 : Int32) + nI g) 30 := by rw [eg]; exact vp_in_nI (by omega) (by decide)
    rw [b172_19, hM.E, if_neg (show ¬ nI (S 1 0) ≤ nI g from fun q => by have := (nI_leI (by omega) (by omega)).mp q; omega), b172_30 _ _ _ _ _ _ _ _ _ _ hif hig, ef, eg, nI_clamp (n := 6 + f) (by omega), nI_clamp (n := 6 + g) (by omega), hM.now (by omega), hM.now (by omega), c_mAt sc hI hf hx i hM, Option.bind_some]
    dsimp only
    generalize hd : nI (S 9 (6 + f)) - nI (S 9 (6 + g)) = d
    have hdt : d.toInt = (S 9 (6 + f) : Int) - S 9 (6 + g) := by rw [← hd]; exact zdiff_toInt hp hq
    have d7 : d = 7 ↔ S 9 (6 + f) = S 9 (6 + g) + 7 := by
      rw [← Int32.toInt_inj, hdt, show (7 : Int32).toInt = 7 from rfl]
      omega
    have d7n : d = -7 ↔ S 9 (6 + g) = S 9 (6 + f) + 7 := by
      rw [← Int32.toInt_inj, hdt, show (-7 : Int32).toInt = -7 from rfl]
      omega
    -- behind the test
    have fin : ∀ (v : Int32) (acc : Nat), acc = a0 + zsum (fun g => if f < g then sFi S x f g else 0) g → zev sc (172, 120, [some (.ref 173), some (.int (nI x)), some (.int (nI acc)), some (.int (nI f)), some (.int (nI g)), some (.int d), some (.int v)], [.int (nI (sFi S x f g)), .int (nI acc)], (197, i, zRF b, l)) = zev sc (172, 19, [some (.ref 173), some (.int (nI x)), some (.int (nI (a0 + zsum (fun g => if f < g then sFi S x f g else 0) (g + 1)))), some (.int (nI f)), some (.int (nI (g + 1))), some (.int d), some (.int v)], [], (197, i, zRF b, l)) := by
      intro v acc ha
      rw [b172_120, nI_1, nI_add, ha, show zsum (fun g => if f < g then sFi S x f g else 0) (g + 1) = zsum (fun g => if f < g then sFi S x f g else 0) g + sFi S x f g from by show _ + (if f < g then sFi S x f g else 0) = _; rw [if_pos hfg], Nat.add_assoc]
    have no : sFi S x f g = 0 → ∃ w' w2', zev sc (172, 92, [some (.ref 173), some (.int (nI x)), some (.int (nI (a0 + zsum (fun g => if f < g then sFi S x f g else 0) g))), some (.int (nI f)), some (.int (nI g)), some (.int d), w2], [], (197, i, zRF b, l)) = zev sc (172, 4, [some (.ref 173), some (.int (nI x)), some (.int (nI (a0 + zsum (fun g => if f < g then sFi S x f g else 0) (S 1 0)))), some (.int (nI (f + 1))), some (.int (nI (S 1 0))), w', w2'], [], (197, i, zRF b, l)) := by
      intro h0
      obtain ⟨w', w2', ih⟩ := c_mFin sc (a0 := a0) hI hx hf i hM b l n (g + 1) (some (.int d)) (some (.int 0)) (by omega) (by omega)
      refine ⟨w', w2', ?_⟩
      rw [← ih, b172_92, b172_93, if_pos rfl, b172_119, ← fin 0 _ rfl, h0]
      rfl
    rw [b172_58]
    rcases sAt_01 S f x with q1 | q1
    · rw [q1, if_pos (show nI 0 = 0 from rfl)]
      exact no (if_neg (fun z => by have := z.1.2; omega))
    rw [q1, if_neg (show ¬ nI 1 = 0 by decide), b172_61, c_mAt sc hI hgE hx i hM, Option.bind_some]
    dsimp only
    rw [b172_68]
    rcases sAt_01 S g x with q2 | q2
    · rw [q2, if_pos (show nI 0 = 0 from rfl)]
      exact no (if_neg (fun z => by have := z.2.1.2; omega))
    rw [q2, if_neg (show ¬ nI 1 = 0 by decide), b172_71, c_mStr sc hI hf i hM, Option.bind_some]
    dsimp only
    rw [b172_76]
    rcases sStr_01 S f with q3 | q3
    · rw [q3, if_pos (show nI 0 = 0 from rfl)]
      exact no (if_neg (fun z => by have := z.1.1; omega))
    rw [q3, if_neg (show ¬ nI 1 = 0 by decide), b172_79, c_mStr sc hI hgE i hM, Option.bind_some]
    dsimp only
    rw [b172_85]
    rcases sStr_01 S g with q4 | q4
    · rw [q4, if_pos (show nI 0 = 0 from rfl)]
      exact no (if_neg (fun z => by have := z.2.1.1; omega))
    rw [q4, if_neg (show ¬ nI 1 = 0 by decide)]
    obtain ⟨w', w2', ih⟩ := c_mFin sc (a0 := a0) hI hx hf i hM b l n (g + 1) (some (.int d)) (some (.int 1)) (by omega) (by omega)
    refine ⟨w', w2', ?_⟩
    rw [← ih, b172_88, b172_93, if_neg (show ¬ (1 : Int32) = 0 by decide), b172_101, ← fin 1 _ rfl]
    by_cases h7 : S 9 (6 + f) = S 9 (6 + g) + 7
    · rw [if_pos (d7.mpr h7), b172_115, show sFi S x f g = 1 from if_pos ⟨⟨q3, q1⟩, ⟨q4, q2⟩, Or.inl h7⟩]
      rfl
    · rw [if_neg (fun z => h7 (d7.mp z)), b172_108]
      by_cases h8 : S 9 (6 + g) = S 9 (6 + f) + 7
      · rw [if_pos (d7n.mpr h8), b172_115, show sFi S x f g = 1 from if_pos ⟨⟨q3, q1⟩, ⟨q4, q2⟩, Or.inr h8⟩]
        rfl
      · rw [if_neg (fun z => h8 (d7n.mp z)), b172_119, show sFi S x f g = 0 from if_neg (fun z => z.2.2.elim h7 h8)]
        rfl
theorem c_mFou (sc : zScr) {S : zS} {x : Nat} (hI : Inv S) (hx : x < 2 ^ 31) (i : Nat → Nat → Int32) (hM : MR S i) (b : Bool) (l : Nat → Nat → Int64) : ∀ (n f : Nat) (w w2 w3 : Option Value), f + n = S 1 0 → zev sc (172, 4, [some (.ref 173), some (.int (nI x)), some (.int (nI (zsum (fun f => zsum (fun g => if f < g then sFi S x f g else 0) (S 1 0)) f))), some (.int (nI f)), w, w2, w3], [], (197, i, zRF b, l)) = some (.int (nI (sFif S x)), (197, i, zRF b, l))
  | 0, f, w, w2, w3, hf => by
    have e : f = S 1 0 := by omega
    subst e
    rw [b172_4, hM.E, if_pos (Int32.le_refl _), b172_134, ← zsum_swap _ (sFi_symm S x)]
    rfl
  | n + 1, f, w, w2, w3, hf => by
    have hE := hI.E
    rw [b172_4, hM.E, if_neg (show ¬ nI (S 1 0) ≤ nI f from fun q => by have := (nI_leI (by omega) (by omega)).mp q; omega), b172_14, nI_1]
    have h0 : ∀ k, k ≤ f + 1 → zsum (fun g => if f < g then sFi S x f g else 0) k = 0 := by
      intro k hk
      rw [zsum_congr (q := fun _ => 0) (fun j hj => if_neg (by omega)), zsum_0]
    obtain ⟨w', w2', ih⟩ := c_mFin sc (a0 := zsum (fun f => zsum (fun g => if f < g then sFi S x f g else 0) (S 1 0)) f) hI hx (f := f) (by omega) i hM b l n (f + 1) w2 w3 (by omega) (by omega)
    rw [h0 (f + 1) (by omega), Nat.add_zero] at ih
    rw [ih]
    exact c_mFou sc hI hx i hM b l n (f + 1) _ _ _ (by omega)
theorem c_mFif (sc : zScr) {S : zS} {x : Nat} (hI : Inv S) (hx : x < 2 ^ 31) (i : Nat → Nat → Int32) (hM : MR S i) (b : Bool) (l : Nat → Nat → Int64) : zev sc (172, 0, [some (.ref 173), some (.int (nI x)), none, none, none, none, none], [], (197, i, zRF b, l)) = some (.int (nI (sFif S x)), (197, i, zRF b, l)) := by
  rw [b172_0, L0]
  exact c_mFou sc hI hx i hM b l (S 1 0) 0 none none none (by omega)
theorem op_fifths (sc : zScr) {S : zS} {i : Nat → Nat → Int32} (b : Bool) {l : Nat → Nat → Int64} (h : Rl S i l) (w : Int32) : zOp sc 97 173 [some (.ref 0), some (.int w)] [some (.ref 173), some (.int w)] i b l := by
  obtain ⟨hI, hX, hM, hL⟩ := id h
  have hF := hI.F
  rcases zix w (S 0 0) (by omega) with ⟨k, hk, rfl⟩ | hn
  · have hz := zis_in (j := k) (n := S 0 0) (by omega) hk
    refine zOp_p (r := .int (nI (sFif S k))) h ?_ ?_
    · rw [b97_0, c_xField sc _ _ _ _ _ hX.F, Option.bind_some]
      dsimp only
      rw [hz, b97_5, if_neg (by decide), b97_8, c_xFif sc hI (by omega) i hX, Option.bind_some]
      dsimp only
      rw [b97_16, b97_20]
    · rw [b173_0, c_mField sc _ _ (by omega) _ _ _ hM.F, Option.bind_some]
      dsimp only
      rw [hz, b173_5, if_neg (by decide), b173_8, c_mFif sc hI (by omega) i hM, Option.bind_some]
      dsimp only
      rw [b173_13, b173_17]
  · refine zOp_p (r := .int (-1)) h ?_ ?_
    · rw [b97_0, c_xField sc _ _ _ _ _ hX.F, Option.bind_some]
      dsimp only
      rw [zis_out hn, b97_5, if_pos rfl, b97_19, b97_20]
    · rw [b173_0, c_mField sc _ _ (by omega) _ _ _ hM.F, Option.bind_some]
      dsimp only
      rw [zis_out hn, b173_5, if_pos rfl, b173_16, b173_17]
