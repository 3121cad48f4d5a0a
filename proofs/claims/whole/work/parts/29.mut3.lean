/-! what changes the stand: cuts, tunes, lays, rains -/
def zbc (v0 : Int32) : Int32 := ((((((((v0 - ((v0.toUInt32 >>> ((1 : Int32).toUInt32 &&& Int32.toUInt32 31)).toInt32 &&& (1431655765 : Int32))) &&& (858993459 : Int32)) + (((v0 - ((v0.toUInt32 >>> ((1 : Int32).toUInt32 &&& Int32.toUInt32 31)).toInt32 &&& (1431655765 : Int32))).toUInt32 >>> ((2 : Int32).toUInt32 &&& Int32.toUInt32 31)).toInt32 &&& (858993459 : Int32))) + ((((v0 - ((v0.toUInt32 >>> ((1 : Int32).toUInt32 &&& Int32.toUInt32 31)).toInt32 &&& (1431655765 : Int32))) &&& (858993459 : Int32)) + (((v0 - ((v0.toUInt32 >>> ((1 : Int32).toUInt32 &&& Int32.toUInt32 31)).toInt32 &&& (1431655765 : Int32))).toUInt32 >>> ((2 : Int32).toUInt32 &&& Int32.toUInt32 31)).toInt32 &&& (858993459 : Int32))).toUInt32 >>> ((4 : Int32).toUInt32 &&& Int32.toUInt32 31)).toInt32) &&& (252645135 : Int32)) + ((((((v0 - ((v0.toUInt32 >>> ((1 : Int32).toUInt32 &&& Int32.toUInt32 31)).toInt32 &&& (1431655765 : Int32))) &&& (858993459 : Int32)) + (((v0 - ((v0.toUInt32 >>> ((1 : Int32).toUInt32 &&& Int32.toUInt32 31)).toInt32 &&& (1431655765 : Int32))).toUInt32 >>> ((2 : Int32).toUInt32 &&& Int32.toUInt32 31)).toInt32 &&& (858993459 : Int32))) + ((((v0 - ((v0.toUInt32 >>> ((1 : Int32).toUInt32 &&& Int32.toUInt32 31)).toInt32 &&& (1431655765 : Int32))) &&& (858993459 : Int32)) + (((v0 - ((v0.toUInt32 >>> ((1 : Int32).toUInt32 &&& Int32.toUInt32 31)).toInt32 &&& (1431655765 : Int32))).toUInt32 >>> ((2 : Int32).toUInt32 &&& Int32.toUInt32 31)).toInt32 &&& (858993459 : Int32))).toUInt32 >>> ((4 : Int32).toUInt32 &&& Int32.toUInt32 31)).toInt32) &&& (252645135 : Int32)).toUInt32 >>> ((8 : Int32).toUInt32 &&& Int32.toUInt32 31)).toInt32) + (((((((v0 - ((v0.toUInt32 >>> ((1 : Int32).toUInt32 &&& Int32.toUInt32 31)).toInt32 &&& (1431655765 : Int32))) &&& (858993459 : Int32)) + (((v0 - ((v0.toUInt32 >>> ((1 : Int32).toUInt32 &&& Int32.toUInt32 31)).toInt32 &&& (1431655765 : Int32))).toUInt32 >>> ((2 : Int32).toUInt32 &&& Int32.toUInt32 31)).toInt32 &&& (858993459 : Int32))) + ((((v0 - ((v0.toUInt32 >>> ((1 : Int32).toUInt32 &&& Int32.toUInt32 31)).toInt32 &&& (1431655765 : Int32))) &&& (858993459 : Int32)) + (((v0 - ((v0.toUInt32 >>> ((1 : Int32).toUInt32 &&& Int32.toUInt32 31)).toInt32 &&& (1431655765 : Int32))).toUInt32 >>> ((2 : Int32).toUInt32 &&& Int32.toUInt32 31)).toInt32 &&& (858993459 : Int32))).toUInt32 >>> ((4 : Int32).toUInt32 &&& Int32.toUInt32 31)).toInt32) &&& (252645135 : Int32)) + ((((((v0 - ((v0.toUInt32 >>> ((1 : Int32).toUInt32 &&& Int32.toUInt32 31)).toInt32 &&& (1431655765 : Int32))) &&& (858993459 : Int32)) + (((v0 - ((v0.toUInt32 >>> ((1 : Int32).toUInt32 &&& Int32.toUInt32 31)).toInt32 &&& (1431655765 : Int32))).toUInt32 >>> ((2 : Int32).toUInt32 &&& Int32.toUInt32 31)).toInt32 &&& (858993459 : Int32))) + ((((v0 - ((v0.toUInt32 >>> ((1 : Int32).toUInt32 &&& Int32.toUInt32 31)).toInt32 &&& (1431655765 : Int32))) &&& (858993459 : Int32)) + (((v0 - ((v0.toUInt32 >>> ((1 : Int32).toUInt32 &&& Int32.toUInt32 31)).toInt32 &&& (1431655765 : Int32))).toUInt32 >>> ((2 : Int32).toUInt32 &&& Int32.toUInt32 31)).toInt32 &&& (858993459 : Int32))).toUInt32 >>> ((4 : Int32).toUInt32 &&& Int32.toUInt32 31)).toInt32) &&& (252645135 : Int32)).toUInt32 >>> ((8 : Int32).toUInt32 &&& Int32.toUInt32 31)).toInt32).toUInt32 >>> ((16 : Int32).toUInt32 &&& Int32.toUInt32 31)).toInt32) &&& (63 : Int32))
def zpc (n : Nat) : Nat := zsum (zbt n) 8
theorem zbc_eq : ∀ n, n < 256 → zbc (nI n) = nI (zpc n) := by decide +kernel
theorem c_bitCount (sc : zScr) {n : Nat} (hn : n < 256) (i : Nat → Nat → Int32) (b : Bool) (l : Nat → Nat → Int64) : zev sc (184, 0, [some (.int (nI n))], [], (197, i, zRF b, l)) = some (.int (nI (zpc n)), (197, i, zRF b, l)) := by
  rw [b184_0]
  show some (Value.int (zbc (nI n)), _) = _
  rw [zbc_eq n hn]
theorem c_mBi (sc : zScr) {n : Nat} (hn : n < 256) (i : Nat → Nat → Int32) (b : Bool) (l : Nat → Nat → Int64) : ∀ (k v : Nat), v + k = 8 → zev sc (139, 4, [some (.int (nI n)), some (.int (nI (zsum (zbt n) v))), some (.int (nI v))], [], (197, i, zRF b, l)) = some (.int (nI (zpc n)), (197, i, zRF b, l))
  | 0, v, hv => by
    have e : v = 8 := by omega
    subst e
    rw [b139_4, if_pos (by decide), b139_24]
    rfl
  | k + 1, v, hv => by
    have ih := c_mBi sc hn i b l k (v + 1) (by omega)
    rw [← ih, b139_4, if_neg (show ¬ (8 : Int32) ≤ nI v from zq_nle (a := 8) (by omega) (by decide)), b139_10, zbit (by omega) (by omega), nI_1, nI_add]
    rfl
theorem c_bitsOf (sc : zScr) {n : Nat} (hn : n < 256) (i : Nat → Nat → Int32) (b : Bool) (l : Nat → Nat → Int64) : zev sc (139, 0, [some (.int (nI n)), none, none], [], (197, i, zRF b, l)) = some (.int (nI (zpc n)), (197, i, zRF b, l)) := by
  rw [b139_0]
  exact c_mBi sc hn i b l 8 0 (by decide)
/-- an operation that notes the stand and changes it -/
theorem zOp_n {sc : zScr} {kx km : Nat} {ax am : List (Option Value)} {i i1 i1' : Nat → Nat → Int32} {b : Bool} {l : Nat → Nat → Int64} {S : zS} {r : Value} {row : Nat → Nat} (h : Rl S i l) (hok : okR (S 0 0) (S 1 0) (S 3 0) row)
    (x1 : XR (sKn S) i1) (e1 : ∀ c j, (c < 24 ∨ 65 < c) → i1 c j = i c j) (x2 : XSt (S 1 0) (S 3 0) 19 row i1') (e2 : ∀ c j, (c < 19 ∨ 22 < c) → i1' c j = i1 c j)
    (hx : zev sc (kx, 0, ax, [], (197, i, zRF b, l)) = some (r, (197, i1', zRF b, l)))
    (hm : MR S i1' → ∀ i2, MR (sKn S) i2 → zev sc (145, 0, [some (.ref 173), none], [], (197, i1', zRF b, l)) = some (.null, (197, i2, zRF b, l)) → ∃ i2', zev sc (km, 0, am, [], (197, i1', zRF b, l)) = some (r, (197, i2', zRF b, l)) ∧ (∀ j, j < 30 → i2' 187 j = nI (row j)) ∧ ∀ c j, c ≠ 187 → i2' c j = i2 c j) : zOp sc kx km ax am i b l := by
  obtain ⟨hI, hX, hM, hL⟩ := h
  have hM1 : MR S i1' := hM.congr hI (fun c j q => by have := q.1; rw [e2 c j (by omega), e1 c j (by omega)])
  obtain ⟨i2, k1, k2, k3⟩ := c_mKnow sc hI i1' hM1 b l
  obtain ⟨i2', g1, g2, g3⟩ := hm hM1 i2 k2 k1
  have hX1 : XR (sNw (sKn S) row) i1' := x1.nw x2 e2
  exact ⟨r, i1', b, l, i2', l, sNw (sKn S) row, hx, g1, hI.kn.nw hok, hX1.congr (fun c j q => by have := q.1; rw [g3 c j (by omega), k3 c j (by omega)]), k2.nw g2 (fun c j _ hc => g3 c j hc), hL⟩
def sSt (r : Nat → Nat) (k v : Nat) : Nat → Nat := fun t => if t = k then v else r t
theorem sSt_s (r : Nat → Nat) (k v : Nat) : sSt r k v k = v := if_pos rfl
theorem sSt_n {r : Nat → Nat} {k v t : Nat} (h : t ≠ k) : sSt r k v t = r t := if_neg h
theorem XSt.scal {E B a : Nat} {r : Nat → Nat} {i : Nat → Nat → Int32} (h : XSt E B a r i) (hE : E ≤ 8) (hB : B ≤ 6) (k v : Nat) (hk : 14 ≤ k ∧ k ≤ 16) : XSt E B a (sSt r k v) (zU i a (k - 10) (nI v)) := by
  obtain ⟨h1, h2, h3, h4, h5, h6, h7⟩ := h
  have e17 : sSt r k v 17 = r 17 := sSt_n (by omega)
  refine ⟨fun b hb => ?_, fun f hf => ?_, fun j hj => ?_, ?_, ?_, ?_, ?_⟩
  · rw [zUn _ _ (Or.inl (by omega)), sSt_n (by omega)]; exact h1 b hb
  · rw [zUn _ _ (Or.inl (by omega)), sSt_n (by omega)]; exact h2 f hf
  · rw [e17] at hj ⊢
    rw [zUn _ _ (Or.inl (by omega)), sSt_n (by omega)]
    exact h3 j hj
  · rw [zUn _ _ (Or.inr (by omega)), e17]; exact h4
  · by_cases e : k = 14
    · subst e
      rw [sSt_s]
      exact zUs _ _ _ _
    · rw [zUn _ _ (Or.inr (by omega)), sSt_n (by omega)]; exact h5
  · by_cases e : k = 15
    · subst e
      rw [sSt_s]
      exact zUs _ _ _ _
    · rw [zUn _ _ (Or.inr (by omega)), sSt_n (by omega)]; exact h6
  · by_cases e : k = 16
    · subst e
      rw [sSt_s]
      exact zUs _ _ _ _
    · rw [zUn _ _ (Or.inr (by omega)), sSt_n (by omega)]; exact h7
theorem okR.scal {F E B : Nat} {r : Nat → Nat} (h : okR F E B r) (hE : E ≤ 8) (hB : B ≤ 6) (k v : Nat) (hk : 14 ≤ k ∧ k ≤ 16) (hv : if k = 16 then v ≤ 9 else v < 2 ^ E) : okR F E B (sSt r k v) := by
  obtain ⟨h1, h2, h3, h4, h5, h6, h7⟩ := h
  have e17 : sSt r k v 17 = r 17 := sSt_n (by omega)
  refine ⟨fun b hb => ?_, fun f hf => ?_, ?_, ?_, ?_, ?_, fun j hj => ?_⟩
  · rw [sSt_n (by omega)]; exact h1 b hb
  · rw [sSt_n (by omega)]; exact h2 f hf
  · by_cases e : k = 14
    · subst e
      rw [sSt_s]
      exact hv
    · rw [sSt_n (by omega)]; exact h3
  · by_cases e : k = 15
    · subst e
      rw [sSt_s]
      exact hv
    · rw [sSt_n (by omega)]; exact h4
  · by_cases e : k = 16
    · subst e
      rw [sSt_s]
      exact hv
    · rw [sSt_n (by omega)]; exact h5
  · rw [e17]; exact h6
  · rw [e17] at hj
    rw [sSt_n (by omega)]
    exact h7 j hj
theorem XSt.spit {E B a : Nat} {r : Nat → Nat} {i : Nat → Nat → Int32} (h : XSt E B a r i) (hE : E ≤ 8) (hB : B ≤ 6) (f v : Nat) (hf : f < 8) : XSt E B a (sSt r (6 + f) v) (zU i (a + 2) f (nI v)) := by
  obtain ⟨h1, h2, h3, h4, h5, h6, h7⟩ := h
  have e17 : sSt r (6 + f) v 17 = r 17 := sSt_n (by omega)
  refine ⟨fun b hb => ?_, fun g hg => ?_, fun j hj => ?_, ?_, ?_, ?_, ?_⟩
  · rw [zUn _ _ (Or.inl (by omega)), sSt_n (by omega)]; exact h1 b hb
  · by_cases e : g = f
    · subst e
      rw [zUs, sSt_s]
    · rw [zUn _ _ (Or.inr e), sSt_n (by omega)]; exact h2 g hg
  · rw [e17] at hj ⊢
    rw [zUn _ _ (Or.inl (by omega)), sSt_n (by omega)]
    exact h3 j hj
  · rw [zUn _ _ (Or.inl (by omega)), e17]; exact h4
  · rw [zUn _ _ (Or.inl (by omega)), sSt_n (by omega)]; exact h5
  · rw [zUn _ _ (Or.inl (by omega)), sSt_n (by omega)]; exact h6
  · rw [zUn _ _ (Or.inl (by omega)), sSt_n (by omega)]; exact h7
theorem okR.spit {F E B : Nat} {r : Nat → Nat} (h : okR F E B r) (hE : E ≤ 8) (hB : B ≤ 6) (f v : Nat) (hf : f < 8) (hv : v ≤ 40) : okR F E B (sSt r (6 + f) v) := by
  obtain ⟨h1, h2, h3, h4, h5, h6, h7⟩ := h
  have e17 : sSt r (6 + f) v 17 = r 17 := sSt_n (by omega)
  refine ⟨fun b hb => ?_, fun g hg => ?_, ?_, ?_, ?_, ?_, fun j hj => ?_⟩
  · rw [sSt_n (by omega)]; exact h1 b hb
  · by_cases e : g = f
    · subst e
      rw [sSt_s]
      exact hv
    · rw [sSt_n (by omega)]; exact h2 g hg
  · rw [sSt_n (by omega)]; exact h3
  · rw [sSt_n (by omega)]; exact h4
  · rw [sSt_n (by omega)]; exact h5
  · rw [e17]; exact h6
  · rw [e17] at hj
    rw [sSt_n (by omega)]
    exact h7 j hj
theorem zMn {S : zS} {i : Nat → Nat → Int32} (hM : MR (sKn S) i) (k v : Nat) : ∀ j, j < 30 → zU i 187 k (nI v) 187 j = nI (sSt (rN S) k v j) := by
  intro j hj
  by_cases e : j = k
  · subst e
    rw [zUs, sSt_s]
  · rw [zUn _ _ (Or.inr e), sSt_n e]
    exact hM.mn j hj
theorem zflag (w : Int32) : (w = 0 ∨ w = 1) ∨ ¬ (0 ≤ w ∧ w ≤ 1) := by
  rcases zix w 2 (by decide) with ⟨s, hs, rfl⟩ | h
  · have h2 : s = 0 ∨ s = 1 := by omega
    rcases h2 with rfl | rfl
    · exact Or.inl (Or.inl rfl)
    · exact Or.inl (Or.inr rfl)
  · refine Or.inr (fun z => h ⟨z.1, ?_⟩)
    have h1 := Int32.le_iff_toInt_le.mp z.2
    rw [show (1 : Int32).toInt = 1 from rfl] at h1
    rw [Int32.lt_iff_toInt_lt, nI_toInt (by decide)]
    omega
theorem op_tunes (sc : zScr) {S : zS} {i : Nat → Nat → Int32} (b : Bool) {l : Nat → Nat → Int64} (h : Rl S i l) (f w : Int32) : zOp sc 83 149 [some (.ref 0), some (.int f), some (.int w), none] [some (.ref 173), some (.int f), some (.int w), none] i b l := by
  obtain ⟨hI, hX, hM, hL⟩ := id h
  have hE := hI.E
  have hB := hI.B
  have bad : (¬ (0 ≤ f ∧ f < nI (S 1 0)) ∨ ¬ ((1 : Int32) ≤ w ∧ w ≤ 40)) → zOp sc 83 149 [some (.ref 0), some (.int f), some (.int w), none] [some (.ref 173), some (.int f), some (.int w), none] i b l := by
    intro hb
    refine zOp_p (r := .int (-1)) h ?_ ?_
    · rw [b83_0, c_xFence sc _ _ _ _ _ hX.E, Option.bind_some]
      dsimp only
      rw [b83_5]
      by_cases h1 : 0 ≤ f ∧ f < nI (S 1 0)
      · rw [show zis f (S 1 0) = 1 from if_pos h1, if_neg (by decide), b83_8]
        have h2 := hb.resolve_left (fun z => z h1)
        by_cases h3 : w < 1
        · rw [if_pos h3, b83_19]
        · rw [if_neg h3, b83_13, if_neg (fun z => h2 ⟨Int32.not_lt.mp h3, z⟩), b83_19]
      · rw [zis_out h1, if_pos rfl, b83_19]
    · rw [b149_0, c_mFence sc _ _ (by omega) _ _ _ hM.E, Option.bind_some]
      dsimp only
      rw [b149_5]
      by_cases h1 : 0 ≤ f ∧ f < nI (S 1 0)
      · rw [show zis f (S 1 0) = 1 from if_pos h1, if_neg (by decide), b149_8, c_in, Option.bind_some]
        dsimp only
        rw [b149_15, if_pos ((zin_m _ _ _).mpr (hb.resolve_left (fun z => z h1))), b149_18]
      · rw [zis_out h1, if_pos rfl, b149_18]
  refine (zix f (S 1 0) (by omega)).elim ?_ (fun hn => bad (Or.inl hn))
  rintro ⟨k, hk, rfl⟩
  refine (Decidable.em ((1 : Int32) ≤ w ∧ w ≤ 40)).elim (fun hw => ?_) (fun hw => bad (Or.inr hw))
  obtain ⟨v, hv, rfl⟩ : ∃ v, v ≤ 40 ∧ w = nI v := by
    obtain ⟨v, h1, h2⟩ := nI_of2 (x := w) (M := 40) (n := 40) rfl (fun z => absurd (Int32.le_trans hw.1 (Int32.le_of_lt z)) (by decide)) hw.2
    exact ⟨v, h1, h2⟩
  have hz := zis_in (j := k) (n := S 1 0) (by omega) hk
  have hp := hI.pit hk
  have e6 : (6 : Int32) + nI k = nI (6 + k) := by rw [L6, nI_add]
  have hin : vp_in (nI k) 8 := vp_in_nI (by omega) (by decide)
  have hin2 : vp_in ((6 : Int32) + nI k) 30 := by rw [e6]; exact vp_in_nI (by omega) (by decide)
  have xh : zev sc (83, 0, [some (.ref 0), some (.int (nI k)), some (.int (nI v)), none], [], (197, i, zRF b, l)) = if nI (S 9 (6 + k)) = 0 then zev sc (83, 40, [some (.ref 0), some (.int (nI k)), some (.int (nI v)), some (.int (nI (S 9 (6 + k))))], [], (197, i, zRF b, l)) else zev sc (83, 35, [some (.ref 0), some (.int (nI k)), some (.int (nI v)), some (.int (nI (S 9 (6 + k))))], [], (197, i, zRF b, l)) := by
    rw [b83_0, c_xFence sc _ _ _ _ _ hX.E, Option.bind_some]
    dsimp only
    rw [hz, b83_5, if_neg (by decide), b83_8, if_neg (Int32.not_lt.mpr hw.1), b83_13, if_pos hw.2, b83_21 _ _ _ _ _ _ hin, nI_clamp (by omega), hX.pit hk]
  have mh : ∀ i', MR S i' → zev sc (149, 0, [some (.ref 173), some (.int (nI k)), some (.int (nI v)), none], [], (197, i', zRF b, l)) = if nI (S 9 (6 + k)) = 0 then zev sc (149, 39, [some (.ref 173), some (.int (nI k)), some (.int (nI v)), some (.int (nI (S 9 (6 + k))))], [], (197, i', zRF b, l)) else zev sc (149, 34, [some (.ref 173), some (.int (nI k)), some (.int (nI v)), some (.int (nI (S 9 (6 + k))))], [], (197, i', zRF b, l)) := by
    intro i' hM'
    rw [b149_0, c_mFence sc _ _ (by omega) _ _ _ hM'.E, Option.bind_some]
    dsimp only
    rw [hz, b149_5, if_neg (by decide), b149_8, c_in, Option.bind_some]
    dsimp only
    rw [b149_15, if_neg (fun z => (zin_m _ _ _).mp z hw), b149_20 _ _ _ _ _ _ hin2, e6, nI_clamp (n := 6 + k) (by omega), hM'.now (by omega)]
  by_cases h0 : S 9 (6 + k) = 0
  · refine zOp_p (r := .int (-2)) h ?_ ?_
    · rw [xh, if_pos (by rw [h0]; rfl), b83_40]
    · rw [mh i hM, if_pos (by rw [h0]; rfl), b149_39]
  have h0' : ¬ nI (S 9 (6 + k)) = 0 := fun z => h0 ((nI_eq0 (by omega)).mp z)
  by_cases h1 : S 9 (6 + k) = v
  · refine zOp_p (r := .int (-2)) h ?_ ?_
    · rw [xh, if_neg h0', b83_35, if_pos (by rw [h1]), b83_40]
    · rw [mh i hM, if_neg h0', b149_34, if_pos (by rw [h1]), b149_39]
  have h1' : ¬ nI (S 9 (6 + k)) = nI v := fun z => h1 ((nI_eq (by omega) (by omega)).mp z)
  obtain ⟨i1, n1, n2, n3⟩ := c_xNote sc hI i hX b l
  refine zOp_n (r := .int (nI (S 9 (6 + k)))) (row := sSt (rN S) (6 + k) v) (i1' := zU i1 21 k (nI v)) h (hI.now.spit hE hB k v (by omega) hv) n2 n3 (n2.now.spit hE hB k v (by omega)) (fun c j hc => zUn _ _ (Or.inl (by omega))) ?_ ?_
  · rw [xh, if_neg h0', b83_35, if_neg h1', b83_43, n1, Option.bind_some]
    dsimp only
    rw [b83_54 _ _ _ _ _ _ _ hin, nI_clamp (by omega)]
  · intro hM1 i2 m1 m2
    refine ⟨zU i2 187 (6 + k) (nI v), ?_, zMn m1 _ _, fun c j hc => zUn _ _ (Or.inl hc)⟩
    rw [mh _ hM1, if_neg h0', b149_34, if_neg h1', b149_42, m2, Option.bind_some]
    dsimp only
    rw [b149_46 _ _ _ _ _ _ _ hin2, e6, nI_clamp (by omega)]
