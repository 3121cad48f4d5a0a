/-! sounds, ends, strings: both sides' small readers -/
theorem s_l : ∀ n, n < 32 → ((nI n &&& 31).toBitVec.smod 32).toNat = n := by decide
def zbt (c f : Nat) : Nat := c / 2 ^ f % 2
theorem zbt_01 (c f : Nat) : zbt c f = 0 ∨ zbt c f = 1 := by unfold zbt; omega
theorem zbit {c f : Nat} (hc : c < 2 ^ 31) (hf : f < 32) : (nI c >>> (nI f &&& 31)) &&& 1 = nI (zbt c f) := by
  rw [pk_shrN hc _ f (s_l f hf), pk_andN (by have := Nat.div_le_self c (2 ^ f); omega) 1 rfl]
  rfl
theorem zshl {a f : Nat} (hf : f < 32) (h : a * 2 ^ f < 2 ^ 32) : nI a <<< (nI f &&& 31) = nI (a * 2 ^ f) := pk_shlN _ f (s_l f hf) h
theorem nI_eq0 {a : Nat} (h : a < 2 ^ 31) : nI a = 0 ↔ a = 0 := nI_eq h (by decide)
theorem nI_eq1 {a : Nat} (h : a < 2 ^ 31) : nI a = 1 ↔ a = 1 := nI_eq h (by decide)
theorem c_has (sc : zScr) {c f : Nat} (hc : c < 2 ^ 31) (hf : f < 32) (i : Nat → Nat → Int32) (b : Bool) (l : Nat → Nat → Int64) : zev sc (120, 0, [some (.int (nI c)), some (.int (nI f))], [], (197, i, zRF b, l)) = some (.int (nI (zbt c f)), (197, i, zRF b, l)) := by
  rw [b120_0, zbit hc hf]
  rcases zbt_01 c f with h | h
  · rw [h, if_neg (by decide), b120_13, b120_14 _ _ _ _ _ _ _ (Or.inl rfl)]
    rfl
  · rw [h, if_pos (by decide), b120_9, b120_14 _ _ _ _ _ _ _ (Or.inr rfl)]
    rfl
/-- the sound of a fence to a kind -/
def sSnd (S : zS) (k f : Nat) : Nat := if S 9 (6 + f) = 0 ∨ zbt (S 9 14) f = 1 ∨ zbt (S 9 15) f = 1 then 0 else S 9 (6 + f) + S 6 k - (S 9 16 + 3)
def sStr (S : zS) (f : Nat) : Nat := if S 9 (6 + f) ≠ 0 ∧ zbt (S 9 14) f = 0 then 1 else 0
def sAt (S : zS) (f x : Nat) : Nat := if S 4 f = x ∨ S 5 f = x then 1 else 0
def sAc (S : zS) (f x : Nat) : Nat := if S 4 f = x then S 5 f else S 4 f
theorem sStr_01 (S : zS) (f : Nat) : sStr S f = 0 ∨ sStr S f = 1 := by unfold sStr; split <;> simp
theorem sAt_01 (S : zS) (f x : Nat) : sAt S f x = 0 ∨ sAt S f x = 1 := by unfold sAt; split <;> simp
theorem Inv.pit {S : zS} (h : Inv S) {f : Nat} (hf : f < S 1 0) : S 9 (6 + f) ≤ 40 := h.now.2.1 f hf
theorem Inv.fld {S : zS} (h : Inv S) {b : Nat} (hb : b < S 3 0) : S 9 b < S 0 0 := h.now.1 b hb
theorem Inv.cut {S : zS} (h : Inv S) : S 9 14 < 2 ^ S 1 0 := h.now.2.2.1
theorem Inv.down {S : zS} (h : Inv S) : S 9 15 < 2 ^ S 1 0 := h.now.2.2.2.1
theorem Inv.wet {S : zS} (h : Inv S) : S 9 16 ≤ 9 := h.now.2.2.2.2.1
theorem Inv.sung {S : zS} (h : Inv S) : S 9 17 ≤ 12 := h.now.2.2.2.2.2.1
theorem z2p {n : Nat} (h : n ≤ 8) : 2 ^ n ≤ 256 := Nat.pow_le_pow_right (by decide) h
theorem Inv.cut' {S : zS} (h : Inv S) : S 9 14 < 256 := Nat.lt_of_lt_of_le h.cut (z2p h.E)
theorem Inv.down' {S : zS} (h : Inv S) : S 9 15 < 256 := Nat.lt_of_lt_of_le h.down (z2p h.E)
theorem sSnd_le {S : zS} (h : Inv S) {k f : Nat} (hk : k < S 2 0) (hf : f < S 1 0) : sSnd S k f ≤ 43 := by
  have h1 := h.pit hf
  have h2 := (h.vm k hk).1
  unfold sSnd
  split <;> omega
/-- PITCH and VOICE less WET, on the machine -/
theorem zsum_toInt {p v w : Nat} (hp : p ≤ 40) (hv : v ≤ 6) (hw : w ≤ 9) : (nI p + (nI v - 3) - nI w).toInt = (p : Int) + v - 3 - w := by
  have e1 : (nI v - 3).toInt = (v : Int) - 3 := by
    rw [Int32.toInt_sub, nI_toInt (by omega), show (3 : Int32).toInt = 3 from rfl]
    exact Int.bmod_eq_of_le (by omega) (by omega)
  have e2 : (nI p + (nI v - 3)).toInt = (p : Int) + v - 3 := by
    rw [Int32.toInt_add, e1, nI_toInt (by omega)]
    rw [Int.bmod_eq_of_le (by omega) (by omega)]
    omega
  rw [Int32.toInt_sub, e2, nI_toInt (by omega)]
  exact Int.bmod_eq_of_le (by omega) (by omega)
theorem zsum_nI {p v w : Nat} (hp : p ≤ 40) (hv : v ≤ 6) (hw : w ≤ 9) (h : w + 3 ≤ p + v) : nI p + (nI v - 3) - nI w = nI (p + v - (w + 3)) := by
  apply Int32.toInt_inj.mp
  rw [zsum_toInt hp hv hw, nI_toInt (by omega)]
  omega
theorem c_mSound (sc : zScr) {S : zS} {k f : Nat} (hI : Inv S) (hk : k < S 2 0) (hf : f < S 1 0) (i : Nat → Nat → Int32) (hM : MR S i) (b : Bool) (l : Nat → Nat → Int64) : zev sc (135, 0, [some (.ref 173), some (.int (nI k)), some (.int (nI f)), none], [], (197, i, zRF b, l)) = some (.int (nI (sSnd S k f)), (197, i, zRF b, l)) := by
  have hE := hI.E
  have hK := hI.K
  have e6 : (6 : Int32) + nI f = nI (6 + f) := by rw [L6, nI_add]
  have hin : vp_in ((6 : Int32) + nI f) 30 := by rw [e6]; exact vp_in_nI (by omega) (by decide)
  have hp := hI.pit hf
  have hv := (hI.vm k hk).1
  have hw := hI.wet
  have hc := hI.cut'
  have hd := hI.down'
  rw [b135_0 _ _ _ _ _ _ hin, e6, nI_clamp (by omega), hM.now (by omega)]
  by_cases h0 : S 9 (6 + f) = 0
  · rw [if_pos ((nI_eq0 (by omega)).mpr h0), b135_40, show sSnd S k f = 0 from if_pos (Or.inl h0)]
    rfl
  rw [if_neg (fun q => h0 ((nI_eq0 (by omega)).mp q)), b135_12, hM.now (by decide), c_has sc (by omega) (by omega), Option.bind_some]
  dsimp only
  rw [b135_23]
  by_cases h1 : zbt (S 9 14) f = 1
  · rw [h1, if_neg (by decide), b135_40, show sSnd S k f = 0 from if_pos (Or.inr (Or.inl h1))]
    rfl
  have h1' : zbt (S 9 14) f = 0 := (zbt_01 _ _).resolve_right h1
  rw [h1', if_pos (by decide), b135_26, hM.now (by decide), c_has sc (by omega) (by omega), Option.bind_some]
  dsimp only
  rw [b135_37]
  by_cases h2 : zbt (S 9 15) f = 1
  · rw [h2, if_neg (by decide), b135_40, show sSnd S k f = 0 from if_pos (Or.inr (Or.inr h2))]
    rfl
  have h2' : zbt (S 9 15) f = 0 := (zbt_01 _ _).resolve_right h2
  rw [h2', if_pos (by decide), b135_42 _ _ _ _ _ _ hin (vp_in_nI (by omega) (by decide)), e6, nI_clamp (by omega), nI_clamp (by omega), hM.now (by omega), hM.now (by decide), hM.v hk]
  have es : sSnd S k f = S 9 (6 + f) + S 6 k - (S 9 16 + 3) := if_neg (by rintro (q | q | q) <;> omega)
  rw [es]
  have hs := zsum_toInt hp hv hw
  by_cases h3 : (0 : Int32) ≤ nI (S 9 (6 + f)) + (nI (S 6 k) - 3) - nI (S 9 16)
  · rw [if_pos h3, b135_75, b135_76]
    have h4 := Int32.le_iff_toInt_le.mp h3
    rw [hs, show (0 : Int32).toInt = 0 from rfl] at h4
    rw [zsum_nI hp hv hw (by omega)]
  · rw [if_neg h3, b135_71, b135_76]
    have h4 : ¬ (0 : Int) ≤ (S 9 (6 + f) : Int) + S 6 k - 3 - S 9 16 := fun q => h3 (Int32.le_iff_toInt_le.mpr (by rw [hs]; exact q))
    rw [show S 9 (6 + f) + S 6 k - (S 9 16 + 3) = 0 by omega]
    rfl
theorem c_mAt (sc : zScr) {S : zS} {f x : Nat} (hI : Inv S) (hf : f < S 1 0) (hx : x < 2 ^ 31) (i : Nat → Nat → Int32) (hM : MR S i) (b : Bool) (l : Nat → Nat → Int64) : zev sc (136, 0, [some (.ref 173), some (.int (nI f)), some (.int (nI x))], [], (197, i, zRF b, l)) = some (.int (nI (sAt S f x)), (197, i, zRF b, l)) := by
  have hE := hI.E
  have hF := hI.F
  have hin : vp_in (nI f) 16 := vp_in_nI (by omega) (by decide)
  obtain ⟨hl, hr, -⟩ := hI.lr f hf
  unfold sAt
  rw [b136_0 _ _ _ _ _ _ hin, nI_clamp (by omega), hM.l hf]
  by_cases h1 : S 4 f = x
  · rw [if_pos ((nI_eq (by omega) hx).mpr h1), b136_20, b136_25 _ _ _ _ _ _ _ (Or.inr rfl), if_pos (Or.inl h1)]
    rfl
  rw [if_neg (fun q => h1 ((nI_eq (by omega) hx).mp q)), b136_10 _ _ _ _ _ _ hin, nI_clamp (by omega), hM.r hf]
  by_cases h2 : S 5 f = x
  · rw [if_pos ((nI_eq (by omega) hx).mpr h2), b136_20, b136_25 _ _ _ _ _ _ _ (Or.inr rfl), if_pos (Or.inr h2)]
    rfl
  rw [if_neg (fun q => h2 ((nI_eq (by omega) hx).mp q)), b136_24, b136_25 _ _ _ _ _ _ _ (Or.inl rfl), if_neg (fun q => q.elim h1 h2)]
  rfl
theorem c_mAc (sc : zScr) {S : zS} {f x : Nat} (hI : Inv S) (hf : f < S 1 0) (hx : x < 2 ^ 31) (i : Nat → Nat → Int32) (hM : MR S i) (b : Bool) (l : Nat → Nat → Int64) : zev sc (137, 0, [some (.ref 173), some (.int (nI f)), some (.int (nI x))], [], (197, i, zRF b, l)) = some (.int (nI (sAc S f x)), (197, i, zRF b, l)) := by
  have hE := hI.E
  have hF := hI.F
  have hin : vp_in (nI f) 16 := vp_in_nI (by omega) (by decide)
  have hc : (nI f).toNatClampNeg = f := nI_clamp (by omega)
  obtain ⟨hl, hr, -⟩ := hI.lr f hf
  rw [b137_0 _ _ _ _ _ _ hin, hc, hM.l hf]
  by_cases h1 : S 4 f = x
  · rw [if_pos ((nI_eq (by omega) hx).mpr h1), b137_10 _ _ _ _ _ _ hin, hc, hM.r hf, b137_25, show sAc S f x = S 5 f from if_pos h1]
  · rw [if_neg (fun q => h1 ((nI_eq (by omega) hx).mp q)), b137_19 _ _ _ _ _ _ hin, hc, hM.l hf, b137_25, show sAc S f x = S 4 f from if_neg h1]
theorem c_mStr (sc : zScr) {S : zS} {f : Nat} (hI : Inv S) (hf : f < S 1 0) (i : Nat → Nat → Int32) (hM : MR S i) (b : Bool) (l : Nat → Nat → Int64) : zev sc (138, 0, [some (.ref 173), some (.int (nI f))], [], (197, i, zRF b, l)) = some (.int (nI (sStr S f)), (197, i, zRF b, l)) := by
  have hE := hI.E
  have e6 : (6 : Int32) + nI f = nI (6 + f) := by rw [L6, nI_add]
  have hin : vp_in ((6 : Int32) + nI f) 30 := by rw [e6]; exact vp_in_nI (by omega) (by decide)
  have hp := hI.pit hf
  have hc := hI.cut'
  rw [b138_0 _ _ _ _ _ hin, e6, nI_clamp (by omega), hM.now (by omega)]
  by_cases h0 : S 9 (6 + f) = 0
  · rw [if_pos ((nI_eq0 (by omega)).mpr h0), b138_30, b138_31 _ _ _ _ _ _ (Or.inl rfl), show sStr S f = 0 from if_neg (fun q => q.1 h0)]
    rfl
  rw [if_neg (fun q => h0 ((nI_eq0 (by omega)).mp q)), b138_12, hM.now (by decide), c_has sc (by omega) (by omega), Option.bind_some]
  dsimp only
  rw [b138_23]
  by_cases h1 : zbt (S 9 14) f = 1
  · rw [h1, if_neg (by decide), b138_30, b138_31 _ _ _ _ _ _ (Or.inl rfl), show sStr S f = 0 from if_neg (fun q => by have := q.2; omega)]
    rfl
  have h1' : zbt (S 9 14) f = 0 := (zbt_01 _ _).resolve_right h1
  rw [h1', if_pos (by decide), b138_26, b138_31 _ _ _ _ _ _ (Or.inr rfl), show sStr S f = 1 from if_pos ⟨h0, h1'⟩]
  rfl
theorem c_xAt (sc : zScr) {S : zS} {f x : Nat} (hI : Inv S) (hf : f < S 1 0) (hx : x < 2 ^ 31) (i : Nat → Nat → Int32) (hX : XR S i) (b : Bool) (l : Nat → Nat → Int64) : zev sc (35, 0, [some (.ref 3), some (.int (nI f)), some (.int (nI x))], [], (197, i, zRF b, l)) = some (.int (nI (sAt S f x)), (197, i, zRF b, l)) := by
  have hE := hI.E
  have hF := hI.F
  have hin : vp_in (nI f) 8 := vp_in_nI (by omega) (by decide)
  obtain ⟨hl, hr, -⟩ := hI.lr f hf
  unfold sAt
  rw [b35_0 _ _ _ _ _ _ hin, nI_clamp (by omega), hX.l hf]
  by_cases h1 : S 4 f = x
  · rw [if_pos ((nI_eq (by omega) hx).mpr h1), b35_20, b35_25 _ _ _ _ _ _ _ (Or.inr rfl), if_pos (Or.inl h1)]
    rfl
  rw [if_neg (fun q => h1 ((nI_eq (by omega) hx).mp q)), b35_10 _ _ _ _ _ _ hin, nI_clamp (by omega), hX.r hf]
  by_cases h2 : S 5 f = x
  · rw [if_pos ((nI_eq (by omega) hx).mpr h2), b35_20, b35_25 _ _ _ _ _ _ _ (Or.inr rfl), if_pos (Or.inr h2)]
    rfl
  rw [if_neg (fun q => h2 ((nI_eq (by omega) hx).mp q)), b35_24, b35_25 _ _ _ _ _ _ _ (Or.inl rfl), if_neg (fun q => q.elim h1 h2)]
  rfl
theorem c_xAc (sc : zScr) {S : zS} {f x : Nat} (hI : Inv S) (hf : f < S 1 0) (hx : x < 2 ^ 31) (i : Nat → Nat → Int32) (hX : XR S i) (b : Bool) (l : Nat → Nat → Int64) : zev sc (36, 0, [some (.ref 3), some (.int (nI f)), some (.int (nI x))], [], (197, i, zRF b, l)) = some (.int (nI (sAc S f x)), (197, i, zRF b, l)) := by
  have hE := hI.E
  have hF := hI.F
  have hin : vp_in (nI f) 8 := vp_in_nI (by omega) (by decide)
  have hc : (nI f).toNatClampNeg = f := nI_clamp (by omega)
  obtain ⟨hl, hr, -⟩ := hI.lr f hf
  rw [b36_0 _ _ _ _ _ _ hin, hc, hX.l hf]
  by_cases h1 : S 4 f = x
  · rw [if_pos ((nI_eq (by omega) hx).mpr h1), b36_10 _ _ _ _ _ _ hin, hc, hX.r hf, b36_25, show sAc S f x = S 5 f from if_pos h1]
  · rw [if_neg (fun q => h1 ((nI_eq (by omega) hx).mp q)), b36_19 _ _ _ _ _ _ hin, hc, hX.l hf, b36_25, show sAc S f x = S 4 f from if_neg h1]
/-- the ends of a fence, as bits -/
def sEb (S : zS) (f : Nat) : Nat := 2 ^ S 4 f ||| 2 ^ S 5 f
theorem c_xEb (sc : zScr) {S : zS} {f : Nat} (hI : Inv S) (hf : f < S 1 0) (i : Nat → Nat → Int32) (hX : XR S i) (b : Bool) (l : Nat → Nat → Int64) : zev sc (37, 0, [some (.ref 3), some (.int (nI f))], [], (197, i, zRF b, l)) = some (.int (nI (sEb S f)), (197, i, zRF b, l)) := by
  have hE := hI.E
  have hF := hI.F
  obtain ⟨hl, hr, -⟩ := hI.lr f hf
  have g1 := z2p (n := S 4 f) (by omega)
  have g2 := z2p (n := S 5 f) (by omega)
  rw [b37_0 _ _ _ _ _ (vp_in_nI (by omega) (by decide)), nI_clamp (by omega), hX.l hf, hX.r hf, L1, zshl (by omega) (by omega), zshl (by omega) (by omega), Nat.one_mul, Nat.one_mul]
  have : nI (2 ^ S 4 f) ||| nI (2 ^ S 5 f) = nI (sEb S f) := by
    exact fa_or _ _
  rw [this]
theorem c_xStr (sc : zScr) {S : zS} {f : Nat} (hI : Inv S) (hf : f < S 1 0) (i : Nat → Nat → Int32) (hX : XR S i) (b : Bool) (l : Nat → Nat → Int64) : zev sc (14, 0, [some (.ref 23), some (.int (nI f))], [], (197, i, zRF b, l)) = some (.int (nI (sStr S f)), (197, i, zRF b, l)) := by
  have hE := hI.E
  have hp := hI.pit hf
  have hc := hI.cut'
  rw [b14_0 _ _ _ _ _ (vp_in_nI (by omega) (by decide)), nI_clamp (by omega), hX.pit hf]
  by_cases h0 : S 9 (6 + f) = 0
  · rw [if_pos ((nI_le0 (by omega)).mpr h0), b14_30, b14_31 _ _ _ _ _ _ (Or.inl rfl), show sStr S f = 0 from if_neg (fun q => q.1 h0)]
    rfl
  rw [if_neg (fun q => h0 ((nI_le0 (by omega)).mp q)), b14_12, hX.cut, zbit (by omega) (by omega)]
  by_cases h1 : zbt (S 9 14) f = 1
  · rw [h1, if_neg (by decide), b14_30, b14_31 _ _ _ _ _ _ (Or.inl rfl), show sStr S f = 0 from if_neg (fun q => by have := q.2; omega)]
    rfl
  have h1' : zbt (S 9 14) f = 0 := (zbt_01 _ _).resolve_right h1
  rw [h1', if_pos (by decide), b14_26, b14_31 _ _ _ _ _ _ (Or.inr rfl), show sStr S f = 1 from if_pos ⟨h0, h1'⟩]
  rfl
theorem c_xSound (sc : zScr) {S : zS} {k f : Nat} (hI : Inv S) (hk : k < S 2 0) (hf : f < S 1 0) (i : Nat → Nat → Int32) (hX : XR S i) (b : Bool) (l : Nat → Nat → Int64) : zev sc (15, 0, [some (.ref 23), some (.int (nI k)), some (.int (nI f))], [], (197, i, zRF b, l)) = some (.int (nI (sSnd S k f)), (197, i, zRF b, l)) := by
  have hE := hI.E
  have hK := hI.K
  have hp := hI.pit hf
  have hv := (hI.vm k hk).1
  have hw := hI.wet
  have hd := hI.down'
  rw [b15_0, c_xStr sc hI hf i hX, Option.bind_some]
  dsimp only
  rw [b15_5]
  by_cases h0 : S 9 (6 + f) = 0
  · rw [show sStr S f = 0 from if_neg (fun q => q.1 h0), if_pos (by decide), b15_23, show sSnd S k f = 0 from if_pos (Or.inl h0)]
    rfl
  by_cases h1 : zbt (S 9 14) f = 1
  · rw [show sStr S f = 0 from if_neg (fun q => by have := q.2; omega), if_pos (by decide), b15_23, show sSnd S k f = 0 from if_pos (Or.inr (Or.inl h1))]
    rfl
  have h1' : zbt (S 9 14) f = 0 := (zbt_01 _ _).resolve_right h1
  rw [show sStr S f = 1 from if_pos ⟨h0, h1'⟩, if_neg (by decide), b15_8, hX.down, zbit (by omega) (by omega)]
  by_cases h2 : zbt (S 9 15) f = 1
  · rw [h2, if_pos (by decide), b15_23, show sSnd S k f = 0 from if_pos (Or.inr (Or.inr h2))]
    rfl
  have h2' : zbt (S 9 15) f = 0 := (zbt_01 _ _).resolve_right h2
  have es : sSnd S k f = S 9 (6 + f) + S 6 k - (S 9 16 + 3) := if_neg (by rintro (q | q | q) <;> omega)
  have hs := zsum_toInt hp hv hw
  rw [h2', if_neg (by decide), b15_25 _ _ _ _ _ _ (vp_in_nI (by omega) (by decide)) (vp_in_nI (by omega) (by decide)), nI_clamp (by omega), nI_clamp (by omega), hX.pit hf, hX.v hk, hX.wet, es]
  by_cases h3 : (0 : Int32) < nI (S 9 (6 + f)) + (nI (S 6 k) - 3) - nI (S 9 16)
  · rw [if_pos h3]
    have h4 := Int32.lt_iff_toInt_lt.mp h3
    rw [hs, show (0 : Int32).toInt = 0 from rfl] at h4
    rw [zsum_nI hp hv hw (by omega)]
  · rw [if_neg h3]
    have h4 : ¬ (0 : Int) < (S 9 (6 + f) : Int) + S 6 k - 3 - S 9 16 := fun q => h3 (Int32.lt_iff_toInt_lt.mpr (by rw [hs]; exact q))
    rw [show S 9 (6 + f) + S 6 k - (S 9 16 + 3) = 0 by omega]
    rfl
