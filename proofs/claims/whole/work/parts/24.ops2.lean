/-! who, ends, can -/
theorem zor_lt {a b n : Nat} (ha : a < 2 ^ n) (hb : b < 2 ^ n) : a ||| b < 2 ^ n := Nat.or_lt_two_pow ha hb
theorem zsh1 {f : Nat} (hf : f < 31) : (1 : Int32) <<< (nI f &&& 31) = nI (2 ^ f) := by
  have h : (2 : Nat) ^ f < 2 ^ 31 := Nat.pow_lt_pow_right (by decide) hf
  rw [L1, zshl (by omega) (by omega), Nat.one_mul]
theorem zall {n : Nat} (hn : n ≤ 8) : nI (2 ^ n) - 1 = nI (2 ^ n - 1) := by
  have := Nat.one_le_two_pow (n := n)
  rw [L1, pk_sub this]
theorem c_allOf (sc : zScr) {n : Nat} (hn : n ≤ 8) (i : Nat → Nat → Int32) (b : Bool) (l : Nat → Nat → Int64) : zev sc (140, 0, [some (.int (nI n))], [], (197, i, zRF b, l)) = some (.int (nI (2 ^ n - 1)), (197, i, zRF b, l)) := by
  rw [b140_0, zsh1 (by omega), zall hn]
/-- WHO: the beasts that can sound so -/
def sWin (S : zS) (s b : Nat) : Nat → Nat → Nat → Nat
  | 0, _, acc => acc
  | n + 1, f, acc => sWin S s b n (f + 1) (if sAt S f (S 9 b) = 1 ∧ sSnd S (S 8 b) f = s then acc ||| 2 ^ b else acc)
def sWho (S : zS) (s : Nat) : Nat → Nat → Nat → Nat
  | 0, _, acc => acc
  | n + 1, b, acc => sWho S s n (b + 1) (sWin S s b (S 1 0) 0 acc)
theorem c_xWin (sc : zScr) {S : zS} {s be : Nat} (hI : Inv S) (hs : s ≤ 43) (hb : be < S 3 0) (i : Nat → Nat → Int32) (hX : XR S i) (b : Bool) (l : Nat → Nat → Int64) : ∀ (n f acc : Nat), f + n = S 1 0 → zev sc (18, 18, [some (.ref 23), some (.int (nI s)), some (.int (nI acc)), some (.int (nI be)), some (.int (nI f))], [], (197, i, zRF b, l)) = zev sc (18, 4, [some (.ref 23), some (.int (nI s)), some (.int (nI (sWin S s be n f acc))), some (.int (nI (be + 1))), some (.int (nI (S 1 0)))], [], (197, i, zRF b, l))
  | 0, f, acc, hf => by
    have hE := hI.E
    have e : f = S 1 0 := by omega
    subst e
    rw [b18_18, hX.E, if_pos (Int32.le_refl _), b18_82, nI_1]
    rfl
  | n + 1, f, acc, hf => by
    have hE := hI.E
    have hB := hI.B
    have hF := hI.F
    have hfld := hI.fld hb
    have hko := hI.ko be hb
    have hin : vp_in (nI be) 6 := vp_in_nI (by omega) (by decide)
    have hsn := sSnd_le hI hko (f := f) (by omega)
    have hcl : (nI be).toNatClampNeg = be := nI_clamp (by omega)
    rw [b18_18, hX.E, if_neg (show ¬ nI (S 1 0) ≤ nI f from fun q => by have := (nI_leI (by omega) (by omega)).mp q; omega), b18_30 _ _ _ _ _ _ _ _ hin, hcl, hX.fld hb, c_xAt sc hI (by omega) (by omega) i hX, Option.bind_some]
    dsimp only
    rw [b18_48]
    have tail : ∀ acc', zev sc (18, 76, [some (.ref 23), some (.int (nI s)), some (.int (nI acc')), some (.int (nI be)), some (.int (nI f))], [], (197, i, zRF b, l)) = zev sc (18, 4, [some (.ref 23), some (.int (nI s)), some (.int (nI (sWin S s be n (f + 1) acc'))), some (.int (nI (be + 1))), some (.int (nI (S 1 0)))], [], (197, i, zRF b, l)) := by
      intro acc'
      rw [b18_76, nI_1]
      exact c_xWin sc hI hs hb i hX b l n (f + 1) acc' (by omega)
    unfold sWin
    rcases sAt_01 S f (S 9 be) with q | q
    · rw [q, if_pos (show nI 0 = 0 from rfl), if_neg (show ¬ ((0 : Nat) = 1 ∧ sSnd S (S 8 be) f = s) from fun z => absurd z.1 (by decide))]
      exact tail acc
    · rw [q, if_neg (show ¬ nI 1 = 0 by decide), b18_51 _ _ _ _ _ _ _ _ hin, hcl, hX.ko hb, c_xSound sc hI hko (by omega) i hX, Option.bind_some]
      dsimp only
      rw [b18_66]
      by_cases hq : sSnd S (S 8 be) f = s
      · rw [if_pos (show nI (sSnd S (S 8 be) f) = nI s by rw [hq]), b18_70, zsh1 (by omega), fa_or, if_pos (show (1 : Nat) = 1 ∧ sSnd S (S 8 be) f = s from ⟨rfl, hq⟩)]
        exact tail _
      · rw [if_neg (show ¬ nI (sSnd S (S 8 be) f) = nI s from fun z => hq ((nI_eq (by omega) (by omega)).mp z)), if_neg (show ¬ ((1 : Nat) = 1 ∧ sSnd S (S 8 be) f = s) from fun z => hq z.2)]
        exact tail acc
theorem c_xWho (sc : zScr) {S : zS} {s : Nat} (hI : Inv S) (hs : s ≤ 43) (i : Nat → Nat → Int32) (hX : XR S i) (b : Bool) (l : Nat → Nat → Int64) : ∀ (n be acc : Nat) (w : Option Value), be + n = S 3 0 → zev sc (18, 4, [some (.ref 23), some (.int (nI s)), some (.int (nI acc)), some (.int (nI be)), w], [], (197, i, zRF b, l)) = some (.int (nI (sWho S s n be acc)), (197, i, zRF b, l))
  | 0, be, acc, w, hb => by
    have e : be = S 3 0 := by omega
    subst e
    rw [b18_4, hX.B, if_pos (Int32.le_refl _), b18_88]
    rfl
  | n + 1, be, acc, w, hb => by
    have hB := hI.B
    rw [b18_4, hX.B, if_neg (show ¬ nI (S 3 0) ≤ nI be from fun q => by have := (nI_leI (by omega) (by omega)).mp q; omega), b18_15]
    have := c_xWin sc hI hs (be := be) (by omega) i hX b l (S 1 0) 0 acc (by omega)
    rw [show nI 0 = 0 from rfl] at this
    rw [this]
    exact c_xWho sc hI hs i hX b l n (be + 1) _ _ (by omega)
theorem c_mWin (sc : zScr) {S : zS} {s be : Nat} (hI : Inv S) (hs : s ≤ 43) (hb : be < S 3 0) (i : Nat → Nat → Int32) (hM : MR S i) (b : Bool) (l : Nat → Nat → Int64) : ∀ (n f acc : Nat) (w : Option Value), f + n = S 1 0 → ∃ w', zev sc (160, 29, [some (.ref 173), some (.int (nI s)), some (.int (nI acc)), some (.int (nI be)), some (.int (nI f)), w], [], (197, i, zRF b, l)) = zev sc (160, 16, [some (.ref 173), some (.int (nI s)), some (.int (nI (sWin S s be n f acc))), some (.int (nI (be + 1))), some (.int (nI (S 1 0))), w'], [], (197, i, zRF b, l))
  | 0, f, acc, w, hf => by
    have hE := hI.E
    have e : f = S 1 0 := by omega
    subst e
    refine ⟨w, ?_⟩
    rw [b160_29, hM.E, if_pos (Int32.le_refl _), b160_101, nI_1]
    rfl
  | n + 1, f, acc, w, hf => by
    have hE := hI.E
    have hB := hI.B
    have hF := hI.F
    have hfld := hI.fld hb
    have hko := hI.ko be hb
    have hin : vp_in (nI be) 12 := vp_in_nI (by omega) (by decide)
    have hsn := sSnd_le hI hko (f := f) (by omega)
    have hcl : (nI be).toNatClampNeg = be := nI_clamp (by omega)
    have e0 : (0 : Int32) + nI be = nI be := by rw [L0, nI_add, Nat.zero_add]
    have h30 : vp_in ((0 : Int32) + nI be) 30 := by rw [e0]; exact vp_in_nI (by omega) (by decide)
    rw [b160_29, hM.E, if_neg (show ¬ nI (S 1 0) ≤ nI f from fun q => by have := (nI_leI (by omega) (by omega)).mp q; omega), b160_40 _ _ _ _ _ _ _ _ _ h30, e0, hcl, hM.now (by omega), c_mAt sc hI (by omega) (by omega) i hM, Option.bind_some]
    dsimp only
    rw [b160_54]
    have tail : ∀ (v : Int32) (acc' : Nat), v = 0 ∨ v = 1 → acc' = (if v = 1 then acc ||| 2 ^ be else acc) → ∃ w', zev sc (160, 78, [some (.ref 173), some (.int (nI s)), some (.int (nI acc)), some (.int (nI be)), some (.int (nI f)), w], [.int v], (197, i, zRF b, l)) = zev sc (160, 16, [some (.ref 173), some (.int (nI s)), some (.int (nI (sWin S s be n (f + 1) acc'))), some (.int (nI (be + 1))), some (.int (nI (S 1 0))), w'], [], (197, i, zRF b, l)) := by
      intro v acc' hv ha
      obtain ⟨w', hw⟩ := c_mWin sc hI hs hb i hM b l n (f + 1) acc' (some (.int v)) (by omega)
      refine ⟨w', ?_⟩
      rw [← hw, b160_78]
      rcases hv with rfl | rfl
      · rw [if_pos rfl, b160_92, b160_93, nI_1, ha, if_neg (by decide), L0, fa_or, Nat.or_zero]
      · rw [if_neg (by decide), b160_86, b160_93, nI_1, zsh1 (by omega), fa_or, ha, if_pos rfl]
    unfold sWin
    rcases sAt_01 S f (S 9 be) with q | q
    · rw [q, if_pos (show nI 0 = 0 from rfl), if_neg (show ¬ ((0 : Nat) = 1 ∧ sSnd S (S 8 be) f = s) from fun z => absurd z.1 (by decide)), b160_77]
      exact tail 0 acc (Or.inl rfl) rfl
    · rw [q, if_neg (show ¬ nI 1 = 0 by decide), b160_57 _ _ _ _ _ _ _ _ _ hin, hcl, hM.ko hb, c_mSound sc hI hko (by omega) i hM, Option.bind_some]
      dsimp only
      rw [b160_69]
      by_cases hq : sSnd S (S 8 be) f = s
      · rw [if_pos (show nI (sSnd S (S 8 be) f) = nI s by rw [hq]), b160_73, if_pos (show (1 : Nat) = 1 ∧ sSnd S (S 8 be) f = s from ⟨rfl, hq⟩)]
        exact tail 1 _ (Or.inr rfl) rfl
      · rw [if_neg (show ¬ nI (sSnd S (S 8 be) f) = nI s from fun z => hq ((nI_eq (by omega) (by omega)).mp z)), b160_77, if_neg (show ¬ ((1 : Nat) = 1 ∧ sSnd S (S 8 be) f = s) from fun z => hq z.2)]
        exact tail 0 acc (Or.inl rfl) rfl
theorem c_mWho (sc : zScr) {S : zS} {s : Nat} (hI : Inv S) (hs : s ≤ 43) (i : Nat → Nat → Int32) (hM : MR S i) (b : Bool) (l : Nat → Nat → Int64) : ∀ (n be acc : Nat) (w w2 : Option Value), be + n = S 3 0 → zev sc (160, 16, [some (.ref 173), some (.int (nI s)), some (.int (nI acc)), some (.int (nI be)), w, w2], [], (197, i, zRF b, l)) = some (.int (nI (sWho S s n be acc)), (197, i, zRF b, l))
  | 0, be, acc, w, w2, hb => by
    have e : be = S 3 0 := by omega
    subst e
    rw [b160_16, hM.B, if_pos (Int32.le_refl _), b160_107]
    rfl
  | n + 1, be, acc, w, w2, hb => by
    have hB := hI.B
    rw [b160_16, hM.B, if_neg (show ¬ nI (S 3 0) ≤ nI be from fun q => by have := (nI_leI (by omega) (by omega)).mp q; omega), b160_26]
    obtain ⟨w', hw⟩ := c_mWin sc hI hs (be := be) (by omega) i hM b l (S 1 0) 0 acc w2 (by omega)
    rw [show nI 0 = 0 from rfl] at hw
    rw [hw]
    exact c_mWho sc hI hs i hM b l n (be + 1) _ _ _ (by omega)
theorem zin43 (w : Int32) : (∃ s, s ≤ 43 ∧ w = nI s) ∨ ¬ (0 ≤ w ∧ w ≤ 43) := by
  by_cases h : 0 ≤ w ∧ w ≤ 43
  · obtain ⟨j, hj, rfl⟩ := nI_of2 (x := w) (M := 43) (n := 43) rfl (Int32.not_lt.mpr h.1) h.2
    exact Or.inl ⟨j, hj, rfl⟩
  · exact Or.inr h
theorem op_who (sc : zScr) {S : zS} {i : Nat → Nat → Int32} (b : Bool) {l : Nat → Nat → Int64} (h : Rl S i l) (w : Int32) : zOp sc 89 160 [some (.ref 0), some (.int w)] [some (.ref 173), some (.int w), none, none, none, none] i b l := by
  obtain ⟨hI, hX, hM, hL⟩ := id h
  have hB := hI.B
  rcases zin43 w with ⟨s, hs, rfl⟩ | hn
  · have h0 : 0 ≤ nI s := nI_pos' (by omega)
    have h43 : nI s ≤ 43 := (nI_leI (b := 43) (by omega) (by decide)).mpr hs
    refine zOp_p (r := .int (nI (sWho S s (S 3 0) 0 0))) h ?_ ?_
    · rw [b89_0, if_neg (Int32.not_lt.mpr h0), b89_4, if_pos h43, b89_14, b18_0, L0, c_xWho sc hI hs i hX b l (S 3 0) 0 0 none (by omega), Option.bind_some]
      dsimp only
      rw [b89_22]
    · rw [b160_0, c_in, Option.bind_some]
      dsimp only
      rw [if_pos (show 0 ≤ nI s ∧ nI s ≤ 43 from ⟨h0, h43⟩), b160_7, if_neg (by decide), b160_12, L0, c_mWho sc hI hs i hM b l (S 3 0) 0 0 none none (by omega)]
  · refine zOp_p (r := .int (-1)) h ?_ ?_
    · rw [b89_0]
      by_cases h0 : w < 0
      · rw [if_pos h0, b89_10, b89_22]
      · rw [if_neg h0, b89_4, if_neg (show ¬ w ≤ 43 from fun q => hn ⟨Int32.not_lt.mp h0, q⟩), b89_10, b89_22]
    · rw [b160_0, c_in, Option.bind_some]
      dsimp only
      rw [if_neg hn, b160_7, if_pos rfl, b160_10]
/-- ENDS: on which fields one can be behind what was heard -/
def sEin (S : zS) (k on s : Nat) : Nat → Nat → Nat → Nat
  | 0, _, acc => acc
  | n + 1, f, acc => sEin S k on s n (f + 1) (if sSnd S k f = s then (acc ||| zbt on (S 4 f) * 2 ^ S 5 f) ||| zbt on (S 5 f) * 2 ^ S 4 f else acc)
def sEnd (S : zS) (k : Nat) : Nat → Nat → Nat → Nat
  | 0, _, on => on
  | n + 1, j, on => sEnd S k n (j + 1) (sEin S k on (S 14 j) (S 1 0) 0 0)
def sEnds (S : zS) (k : Nat) : Nat := sEnd S k (S 15 0) 0 (2 ^ S 0 0 - 1)
theorem zbp_lt {S : zS} (hI : Inv S) {on f g : Nat} (hf : g < S 0 0) : zbt on f * 2 ^ g < 2 ^ 8 := by
  have hF := hI.F
  have h1 : 2 ^ g ≤ 2 ^ 7 := Nat.pow_le_pow_right (by decide) (by omega)
  rcases zbt_01 on f with q | q <;> rw [q] <;> omega
theorem sEin_lt {S : zS} (hI : Inv S) (k on s : Nat) : ∀ n f acc, f + n = S 1 0 → acc < 2 ^ 8 → sEin S k on s n f acc < 2 ^ 8
  | 0, _, _, _, h => h
  | n + 1, f, acc, hf, h => by
    obtain ⟨hl, hr, -⟩ := hI.lr f (by omega)
    unfold sEin
    refine sEin_lt hI k on s n (f + 1) _ (by omega) ?_
    split
    · exact zor_lt (zor_lt h (zbp_lt hI hr)) (zbp_lt hI hl)
    · exact h
theorem sEnd_lt {S : zS} (hI : Inv S) (k : Nat) : ∀ n j on, on < 2 ^ 8 → sEnd S k n j on < 2 ^ 8
  | 0, _, _, h => h
  | n + 1, j, on, h => sEnd_lt hI k n (j + 1) _ (sEin_lt hI k on _ _ 0 0 (by omega) (by decide))
theorem sEnds_lt {S : zS} (hI : Inv S) (k : Nat) : sEnds S k < 2 ^ 8 := by
  have hF := hI.F
  have h1 : 2 ^ S 0 0 ≤ 2 ^ 8 := Nat.pow_le_pow_right (by decide) (by omega)
  have h2 := Nat.one_le_two_pow (n := S 0 0)
  exact sEnd_lt hI k _ _ _ (by omega)
theorem c_xEin (sc : zScr) {S : zS} {k on s : Nat} (hI : Inv S) (hk : k < S 2 0) (hon : on < 2 ^ 8) (hs : s ≤ 43) (i : Nat → Nat → Int32) (hX : XR S i) (b : Bool) (l : Nat → Nat → Int64) : ∀ (n f acc : Nat), f + n = S 1 0 → zev sc (24, 6, [some (.ref 67), some (.int (nI k)), some (.int (nI on)), some (.int (nI s)), some (.int (nI acc)), some (.int (nI f))], [], (197, i, zRF b, l)) = some (.int (nI (sEin S k on s n f acc)), (197, i, zRF b, l))
  | 0, f, acc, hf => by
    have e : f = S 1 0 := by omega
    subst e
    rw [b24_6, hX.E, if_pos (Int32.le_refl _), b24_98]
    rfl
  | n + 1, f, acc, hf => by
    have hE := hI.E
    have hF := hI.F
    have hff : f < S 1 0 := by omega
    obtain ⟨hl, hr, -⟩ := hI.lr f hff
    have hsn := sSnd_le hI hk hff
    rw [b24_6, hX.E, if_neg (show ¬ nI (S 1 0) ≤ nI f from fun q => by have := (nI_leI (by omega) (by omega)).mp q; omega), b24_18, c_xSound sc hI hk hff i hX, Option.bind_some]
    dsimp only
    rw [b24_28]
    unfold sEin
    by_cases hq : sSnd S k f = s
    · have e1 : (nI on >>> (nI (S 4 f) &&& 31)) &&& 1 = nI (zbt on (S 4 f)) := zbit (by omega) (by omega)
      have e2 : (nI on >>> (nI (S 5 f) &&& 31)) &&& 1 = nI (zbt on (S 5 f)) := zbit (by omega) (by omega)
      have g1 := zbp_lt hI (on := on) (f := S 4 f) hr
      have g2 := zbp_lt hI (on := on) (f := S 5 f) hl
      rw [if_pos (show nI (sSnd S k f) = nI s by rw [hq]), if_pos hq, b24_32 _ _ _ _ _ _ _ _ _ (vp_in_nI (by omega) (by decide)), nI_clamp (by omega), hX.l hff, hX.r hff, e1, e2, zshl (by omega) (by omega), zshl (by omega) (by omega), fa_or, fa_or, b24_92, nI_1]
      exact c_xEin sc hI hk hon hs i hX b l n (f + 1) _ (by omega)
    · rw [if_neg (show ¬ nI (sSnd S k f) = nI s from fun z => hq ((nI_eq (by omega) (by omega)).mp z)), if_neg hq, b24_92, nI_1]
      exact c_xEin sc hI hk hon hs i hX b l n (f + 1) _ (by omega)
theorem c_xEnd (sc : zScr) {S : zS} {k : Nat} (hI : Inv S) (hk : k < S 2 0) (i : Nat → Nat → Int32) (hX : XR S i) (b : Bool) (l : Nat → Nat → Int64) : ∀ (n j on : Nat), on < 2 ^ 8 → j + n = S 15 0 → zev sc (23, 14, [some (.ref 67), some (.int (nI k)), some (.int (nI on)), some (.int (nI j))], [], (197, i, zRF b, l)) = some (.int (nI (sEnd S k n j on)), (197, i, zRF b, l))
  | 0, j, on, hon, hj => by
    have e : j = S 15 0 := by omega
    subst e
    rw [b23_14, hX.hd, if_pos (Int32.le_refl _), b23_41]
    rfl
  | n + 1, j, on, hon, hj => by
    have hH := hI.heard
    have he := hI.ear j (by omega)
    rw [b23_14, hX.hd, if_neg (show ¬ nI (S 15 0) ≤ nI j from fun q => by have := (nI_leI (by omega) (by omega)).mp q; omega), b23_22 _ _ _ _ _ _ _ (vp_in_nI (by omega) (by decide)), nI_clamp (by omega), hX.ear (by omega), b24_0, L0, c_xEin sc hI hk hon he i hX b l (S 1 0) 0 0 (by omega), Option.bind_some]
    dsimp only
    rw [b23_34, nI_1]
    exact c_xEnd sc hI hk i hX b l n (j + 1) _ (sEin_lt hI k on _ _ 0 0 (by omega) (by decide)) (by omega)
theorem c_xEnds (sc : zScr) {S : zS} {k : Nat} (hI : Inv S) (hk : k < S 2 0) (i : Nat → Nat → Int32) (hX : XR S i) (b : Bool) (l : Nat → Nat → Int64) : zev sc (23, 0, [some (.ref 67), some (.int (nI k)), none, none], [], (197, i, zRF b, l)) = some (.int (nI (sEnds S k)), (197, i, zRF b, l)) := by
  have hF := hI.F
  have h1 : 2 ^ S 0 0 ≤ 2 ^ 8 := Nat.pow_le_pow_right (by decide) (by omega)
  have h2 := Nat.one_le_two_pow (n := S 0 0)
  rw [b23_0, hX.F, zsh1 (by omega), zall hF.2, L0, c_xEnd sc hI hk i hX b l (S 15 0) 0 _ (by omega) (by omega)]
  rfl
theorem c_mEin (sc : zScr) {S : zS} {k on j : Nat} (hI : Inv S) (hk : k < S 2 0) (hon : on < 2 ^ 8) (hj : j < S 15 0) (i : Nat → Nat → Int32) (hM : MR S i) (b : Bool) (l : Nat → Nat → Int64) : ∀ (n f acc : Nat), f + n = S 1 0 → zev sc (164, 26, [some (.ref 173), some (.int (nI k)), some (.int (nI on)), some (.int (nI j)), some (.int (nI acc)), some (.int (nI f))], [], (197, i, zRF b, l)) = zev sc (164, 12, [some (.ref 173), some (.int (nI k)), some (.int (nI (sEin S k on (S 14 j) n f acc))), some (.int (nI (j + 1))), some (.int (nI (sEin S k on (S 14 j) n f acc))), some (.int (nI (S 1 0)))], [], (197, i, zRF b, l))
  | 0, f, acc, hf => by
    have e : f = S 1 0 := by omega
    subst e
    rw [b164_26, hM.E, if_pos (Int32.le_refl _), b164_123, nI_1]
    rfl
  | n + 1, f, acc, hf => by
    have hE := hI.E
    have hF := hI.F
    have hff : f < S 1 0 := by omega
    have hH := hI.heard
    have he := hI.ear j hj
    obtain ⟨hl, hr, -⟩ := hI.lr f hff
    have hsn := sSnd_le hI hk hff
    have hin : vp_in (nI f) 16 := vp_in_nI (by omega) (by decide)
    have hcf : (nI f).toNatClampNeg = f := nI_clamp (by omega)
    rw [b164_26, hM.E, if_neg (show ¬ nI (S 1 0) ≤ nI f from fun q => by have := (nI_leI (by omega) (by omega)).mp q; omega), b164_37, c_mSound sc hI hk hff i hM, Option.bind_some]
    dsimp only
    rw [b164_44 _ _ _ _ _ _ _ _ _ _ (vp_in_nI (by omega) (by decide)), nI_clamp (n := j) (by omega), hM.ear (by omega)]
    unfold sEin
    by_cases hq : sSnd S k f = S 14 j
    · have g1 := zbp_lt hI (on := on) (f := S 4 f) hr
      have g2 := zbp_lt hI (on := on) (f := S 5 f) hl
      rw [if_pos (show nI (sSnd S k f) = nI (S 14 j) by rw [hq]), if_pos hq, b164_53 _ _ _ _ _ _ _ _ _ hin, hcf, hM.l hff, c_has sc (by omega) (by omega), Option.bind_some]
      dsimp only
      have first : ∀ v, zev sc (164, 66, [some (.ref 173), some (.int (nI k)), some (.int (nI on)), some (.int (nI j)), some (.int (nI acc)), some (.int (nI f))], [.int (nI (zbt on (S 4 f))), .int v], (197, i, zRF b, l)) = zev sc (164, 82, [some (.ref 173), some (.int (nI k)), some (.int (nI on)), some (.int (nI j)), some (.int (nI acc)), some (.int (nI f))], [.int (nI (zbt on (S 4 f) * 2 ^ S 5 f)), .int v], (197, i, zRF b, l)) := by
        intro v
        rw [b164_66]
        rcases zbt_01 on (S 4 f) with q | q
        · rw [q, if_pos (show nI 0 = 0 from rfl), b164_81, Nat.zero_mul]
          rfl
        · rw [q, if_neg (show ¬ nI 1 = 0 by decide), b164_69 _ _ _ _ _ _ _ _ _ _ hin, hcf, hM.r hff, zsh1 (by omega), Nat.one_mul]
      have second : ∀ v acc', zev sc (164, 98, [some (.ref 173), some (.int (nI k)), some (.int (nI on)), some (.int (nI j)), some (.int (nI acc')), some (.int (nI f))], [.int (nI (zbt on (S 5 f))), .int v], (197, i, zRF b, l)) = zev sc (164, 114, [some (.ref 173), some (.int (nI k)), some (.int (nI on)), some (.int (nI j)), some (.int (nI acc')), some (.int (nI f))], [.int (nI (zbt on (S 5 f) * 2 ^ S 4 f)), .int v], (197, i, zRF b, l)) := by
        intro v acc'
        rw [b164_98]
        rcases zbt_01 on (S 5 f) with q | q
        · rw [q, if_pos (show nI 0 = 0 from rfl), b164_113, Nat.zero_mul]
          rfl
        · rw [q, if_neg (show ¬ nI 1 = 0 by decide), b164_101 _ _ _ _ _ _ _ _ _ _ hin, hcf, hM.l hff, zsh1 (by omega), Nat.one_mul]
      rw [first, b164_82 _ _ _ _ _ _ _ _ _ _ _ hin, hcf, hM.r hff, c_has sc (by omega) (by omega), Option.bind_some]
      dsimp only
      rw [fa_or, second, b164_114, fa_or, b164_117, nI_1]
      exact c_mEin sc hI hk hon hj i hM b l n (f + 1) _ (by omega)
    · rw [if_neg (show ¬ nI (sSnd S k f) = nI (S 14 j) from fun z => hq ((nI_eq (by omega) (by omega)).mp z)), if_neg hq, b164_117, nI_1]
      exact c_mEin sc hI hk hon hj i hM b l n (f + 1) _ (by omega)
theorem c_mEnd (sc : zScr) {S : zS} {k : Nat} (hI : Inv S) (hk : k < S 2 0) (i : Nat → Nat → Int32) (hM : MR S i) (b : Bool) (l : Nat → Nat → Int64) : ∀ (n j on : Nat) (w w2 : Option Value), on < 2 ^ 8 → j + n = S 15 0 → zev sc (164, 12, [some (.ref 173), some (.int (nI k)), some (.int (nI on)), some (.int (nI j)), w, w2], [], (197, i, zRF b, l)) = some (.int (nI (sEnd S k n j on)), (197, i, zRF b, l))
  | 0, j, on, w, w2, hon, hj => by
    have e : j = S 15 0 := by omega
    subst e
    rw [b164_12, hM.hd, if_pos (Int32.le_refl _), b164_132]
    rfl
  | n + 1, j, on, w, w2, hon, hj => by
    have hH := hI.heard
    rw [b164_12, hM.hd, if_neg (show ¬ nI (S 15 0) ≤ nI j from fun q => by have := (nI_leI (by omega) (by omega)).mp q; omega), b164_20, L0, c_mEin sc hI hk hon (j := j) (by omega) i hM b l (S 1 0) 0 0 (by omega)]
    exact c_mEnd sc hI hk i hM b l n (j + 1) _ _ _ (sEin_lt hI k on _ _ 0 0 (by omega) (by decide)) (by omega)
theorem c_mEnds (sc : zScr) {S : zS} {k : Nat} (hI : Inv S) (hk : k < S 2 0) (i : Nat → Nat → Int32) (hM : MR S i) (b : Bool) (l : Nat → Nat → Int64) : zev sc (164, 0, [some (.ref 173), some (.int (nI k)), none, none, none, none], [], (197, i, zRF b, l)) = some (.int (nI (sEnds S k)), (197, i, zRF b, l)) := by
  have hF := hI.F
  have h1 : 2 ^ S 0 0 ≤ 2 ^ 8 := Nat.pow_le_pow_right (by decide) (by omega)
  have h2 := Nat.one_le_two_pow (n := S 0 0)
  rw [b164_0, hM.F, c_allOf sc hF.2, Option.bind_some]
  dsimp only
  rw [b164_9, L0, c_mEnd sc hI hk i hM b l (S 15 0) 0 _ none none (by omega) (by omega)]
  rfl
theorem op_ends (sc : zScr) {S : zS} {i : Nat → Nat → Int32} (b : Bool) {l : Nat → Nat → Int64} (h : Rl S i l) (w : Int32) : zOp sc 93 165 [some (.ref 0), some (.int w)] [some (.ref 173), some (.int w)] i b l := by
  obtain ⟨hI, hX, hM, hL⟩ := id h
  have hK := hI.K
  rcases zix w (S 2 0) (by omega) with ⟨k, hk, rfl⟩ | hn
  · have hz := zis_in (j := k) (n := S 2 0) (by omega) hk
    refine zOp_p (r := .int (nI (sEnds S k))) h ?_ ?_
    · rw [b93_0, c_xKind sc _ _ _ _ _ hX.K, Option.bind_some]
      dsimp only
      rw [hz, b93_5, if_neg (by decide), b93_8, c_xEnds sc hI hk i hX, Option.bind_some]
      dsimp only
      rw [b93_16, b93_20]
    · rw [b165_0, c_mKind sc _ _ (by omega) _ _ _ hM.K, Option.bind_some]
      dsimp only
      rw [hz, b165_5, if_neg (by decide), b165_8, c_mEnds sc hI hk i hM, Option.bind_some]
      dsimp only
      rw [b165_13, b165_17]
  · refine zOp_p (r := .int (-1)) h ?_ ?_
    · rw [b93_0, c_xKind sc _ _ _ _ _ hX.K, Option.bind_some]
      dsimp only
      rw [zis_out hn, b93_5, if_pos rfl, b93_19, b93_20]
    · rw [b165_0, c_mKind sc _ _ (by omega) _ _ _ hM.K, Option.bind_some]
      dsimp only
      rw [zis_out hn, b165_5, if_pos rfl, b165_16, b165_17]
/-- CAN -/
def sCan (S : zS) : Nat → Nat → Nat → Nat
  | 0, _, acc => acc
  | n + 1, k, acc => sCan S n (k + 1) (if sEnds S k = 0 then acc else acc ||| 2 ^ k)
theorem c_xCan (sc : zScr) {S : zS} (hI : Inv S) (i : Nat → Nat → Int32) (hX : XR S i) (b : Bool) (l : Nat → Nat → Int64) : ∀ (n k acc : Nat), k + n = S 2 0 → zev sc (25, 4, [some (.ref 67), some (.int (nI acc)), some (.int (nI k))], [], (197, i, zRF b, l)) = some (.int (nI (sCan S n k acc)), (197, i, zRF b, l))
  | 0, k, acc, hk => by
    have e : k = S 2 0 := by omega
    subst e
    rw [b25_4, hX.K, if_pos (Int32.le_refl _), b25_35]
    rfl
  | n + 1, k, acc, hk => by
    have hK := hI.K
    have hlt := sEnds_lt hI k
    rw [b25_4, hX.K, if_neg (show ¬ nI (S 2 0) ≤ nI k from fun q => by have := (nI_leI (by omega) (by omega)).mp q; omega), b25_15, c_xEnds sc hI (by omega) i hX, Option.bind_some]
    dsimp only
    rw [b25_20]
    unfold sCan
    by_cases hq : sEnds S k = 0
    · rw [if_pos (show nI (sEnds S k) = 0 from (nI_eq0 (by omega)).mpr hq), if_pos hq, b25_29, nI_1]
      exact c_xCan sc hI i hX b l n (k + 1) _ (by omega)
    · rw [if_neg (show ¬ nI (sEnds S k) = 0 from fun z => hq ((nI_eq0 (by omega)).mp z)), if_neg hq, b25_23, zsh1 (by omega), fa_or, b25_29, nI_1]
      exact c_xCan sc hI i hX b l n (k + 1) _ (by omega)
theorem c_mCan (sc : zScr) {S : zS} (hI : Inv S) (i : Nat → Nat → Int32) (hM : MR S i) (b : Bool) (l : Nat → Nat → Int64) : ∀ (n k acc : Nat), k + n = S 2 0 → zev sc (166, 4, [some (.ref 173), some (.int (nI acc)), some (.int (nI k))], [], (197, i, zRF b, l)) = some (.int (nI (sCan S n k acc)), (197, i, zRF b, l))
  | 0, k, acc, hk => by
    have e : k = S 2 0 := by omega
    subst e
    rw [b166_4, hM.K, if_pos (Int32.le_refl _), b166_38]
    rfl
  | n + 1, k, acc, hk => by
    have hK := hI.K
    have hlt := sEnds_lt hI k
    rw [b166_4, hM.K, if_neg (show ¬ nI (S 2 0) ≤ nI k from fun q => by have := (nI_leI (by omega) (by omega)).mp q; omega), b166_14, c_mEnds sc hI (by omega) i hM, Option.bind_some]
    dsimp only
    rw [b166_20]
    unfold sCan
    by_cases hq : sEnds S k = 0
    · rw [if_pos (show nI (sEnds S k) = 0 from (nI_eq0 (by omega)).mpr hq), if_pos hq, b166_29, b166_30, L0, fa_or, Nat.or_zero, nI_1]
      exact c_mCan sc hI i hM b l n (k + 1) _ (by omega)
    · rw [if_neg (show ¬ nI (sEnds S k) = 0 from fun z => hq ((nI_eq0 (by omega)).mp z)), if_neg hq, b166_23, b166_30, zsh1 (by omega), fa_or, nI_1]
      exact c_mCan sc hI i hM b l n (k + 1) _ (by omega)
theorem op_can (sc : zScr) {S : zS} {i : Nat → Nat → Int32} (b : Bool) {l : Nat → Nat → Int64} (h : Rl S i l) : zOp sc 94 166 [some (.ref 0)] [some (.ref 173), none, none] i b l := by
  obtain ⟨hI, hX, hM, hL⟩ := id h
  refine zOp_p (r := .int (nI (sCan S (S 2 0) 0 0))) h ?_ ?_
  · rw [b94_0, b25_0, L0, c_xCan sc hI i hX b l (S 2 0) 0 0 (by omega), Option.bind_some]
    dsimp only
    rw [b94_7]
  · rw [b166_0, L0, c_mCan sc hI i hM b l (S 2 0) 0 0 (by omega)]
