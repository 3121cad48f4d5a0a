/-! ask -/
theorem zq_nle {a b : Nat} (h : b < a) (ha : a < 2 ^ 31) : ¬ nI a ≤ nI b := fun q => by have := (nI_leI ha (by omega)).mp q; omega
theorem zbt_testBit (c f : Nat) : zbt c f = 1 ↔ c.testBit f = true := by
  rw [Nat.testBit_eq_decide_div_mod_eq, decide_eq_true_iff]
  rfl
theorem zand_or {e p q : Nat} : e &&& (2 ^ p ||| 2 ^ q) = 0 ↔ zbt e p = 0 ∧ zbt e q = 0 := by
  constructor
  · intro h
    have h1 : (e &&& (2 ^ p ||| 2 ^ q)).testBit p = (0 : Nat).testBit p := by rw [h]
    have h2 : (e &&& (2 ^ p ||| 2 ^ q)).testBit q = (0 : Nat).testBit q := by rw [h]
    rw [Nat.testBit_and, Nat.testBit_or, Nat.testBit_two_pow_self, Nat.zero_testBit, Bool.true_or, Bool.and_true] at h1
    rw [Nat.testBit_and, Nat.testBit_or, Nat.testBit_two_pow_self, Nat.zero_testBit, Bool.or_true, Bool.and_true] at h2
    constructor
    · rcases zbt_01 e p with z | z
      · exact z
      · rw [(zbt_testBit e p).mp z] at h1
        cases h1
    · rcases zbt_01 e q with z | z
      · exact z
      · rw [(zbt_testBit e q).mp z] at h2
        cases h2
  · rintro ⟨h1, h2⟩
    apply Nat.eq_of_testBit_eq
    intro t
    rw [Nat.testBit_and, Nat.testBit_or, Nat.testBit_two_pow, Nat.testBit_two_pow, Nat.zero_testBit]
    by_cases e1 : p = t
    · subst e1
      cases hb : e.testBit p
      · rfl
      · have := (zbt_testBit e p).mpr hb
        omega
    · by_cases e2 : q = t
      · subst e2
        cases hb : e.testBit q
        · rfl
        · have := (zbt_testBit e q).mpr hb
          omega
      · rw [decide_eq_false e1, decide_eq_false e2, Bool.or_false, Bool.and_false]
def sCo (S : zS) (k f : Nat) : Nat := if zbt (sEnds S k) (S 4 f) = 1 ∨ zbt (sEnds S k) (S 5 f) = 1 then 1 else 0
theorem sCo_01 (S : zS) (k f : Nat) : sCo S k f = 0 ∨ sCo S k f = 1 := by unfold sCo; split <;> simp
theorem sCo_0 {S : zS} {k f : Nat} : sEnds S k &&& sEb S f = 0 ↔ sCo S k f = 0 := by
  unfold sEb sCo
  rw [zand_or]
  have h1 := zbt_01 (sEnds S k) (S 4 f)
  have h2 := zbt_01 (sEnds S k) (S 5 f)
  constructor
  · rintro ⟨q1, q2⟩
    rw [if_neg (by omega)]
  · intro q
    by_cases h : zbt (sEnds S k) (S 4 f) = 1 ∨ zbt (sEnds S k) (S 5 f) = 1
    · rw [if_pos h] at q; cases q
    · omega
theorem c_xCo (sc : zScr) {S : zS} {k f : Nat} (hI : Inv S) (hk : k < S 2 0) (hf : f < S 1 0) (i : Nat → Nat → Int32) (hX : XR S i) (hW : i 69 k = nI (sEnds S k)) (b : Bool) (l : Nat → Nat → Int64) : zev sc (28, 0, [some (.ref 67), some (.int (nI k)), some (.int (nI f))], [], (197, i, zRF b, l)) = some (.int (nI (sCo S k f)), (197, i, zRF b, l)) := by
  have hK := hI.K
  have hlt := sEnds_lt hI k
  have hle : sEnds S k &&& sEb S f ≤ sEnds S k := Nat.and_le_left
  rw [b28_0 _ _ _ _ _ _ (vp_in_nI (by omega) (by decide)), c_xEb sc hI hf i hX, Option.bind_some, nI_clamp (by omega), hW]
  dsimp only
  rw [b28_14, fa_and]
  rcases sCo_01 S k f with q | q
  · rw [if_pos ((nI_eq0 (by omega)).mpr (sCo_0.mpr q)), b28_22, b28_23 _ _ _ _ _ _ _ (Or.inl rfl), q]
    rfl
  · rw [if_neg (fun z => by have := sCo_0.mp ((nI_eq0 (by omega)).mp z); omega), b28_18, b28_23 _ _ _ _ _ _ _ (Or.inr rfl), q]
    rfl
theorem c_mCo (sc : zScr) {S : zS} {k f : Nat} (hI : Inv S) (hk : k < S 2 0) (hf : f < S 1 0) (i : Nat → Nat → Int32) (hM : MR S i) (b : Bool) (l : Nat → Nat → Int64) : zev sc (167, 0, [some (.ref 173), some (.int (nI k)), some (.int (nI f)), none], [], (197, i, zRF b, l)) = some (.int (nI (sCo S k f)), (197, i, zRF b, l)) := by
  have hE := hI.E
  have hF := hI.F
  obtain ⟨hl, hr, -⟩ := hI.lr f hf
  have hlt := sEnds_lt hI k
  have hin : vp_in (nI f) 16 := vp_in_nI (by omega) (by decide)
  have hcf : (nI f).toNatClampNeg = f := nI_clamp (by omega)
  rw [b167_0, c_mEnds sc hI hk i hM, Option.bind_some]
  dsimp only
  rw [b167_5 _ _ _ _ _ _ _ hin, hcf, hM.l hf, c_has sc (by omega) (by omega), Option.bind_some]
  dsimp only
  rw [b167_16]
  rcases zbt_01 (sEnds S k) (S 4 f) with q1 | q1
  · rw [q1, if_pos (show nI 0 = 0 from rfl), b167_19 _ _ _ _ _ _ _ hin, hcf, hM.r hf, c_has sc (by omega) (by omega), Option.bind_some]
    dsimp only
    rw [b167_29]
    rcases zbt_01 (sEnds S k) (S 5 f) with q2 | q2
    · rw [q2, if_pos (show nI 0 = 0 from rfl), b167_36, b167_37 _ _ _ _ _ _ _ _ (Or.inl rfl), show sCo S k f = 0 from if_neg (by omega)]
      rfl
    · rw [q2, if_neg (show ¬ nI 1 = 0 by decide), b167_32, b167_37 _ _ _ _ _ _ _ _ (Or.inr rfl), show sCo S k f = 1 from if_pos (Or.inr q2)]
      rfl
  · rw [q1, if_neg (show ¬ nI 1 = 0 by decide), b167_32, b167_37 _ _ _ _ _ _ _ _ (Or.inr rfl), show sCo S k f = 1 from if_pos (Or.inl q1)]
    rfl
def sCr1 (S : zS) (f k o : Nat) : Nat := if sCo S k f = 1 ∧ sCo S o f = 1 ∧ sSnd S k f = sSnd S o f then 1 else 0
def sCr (S : zS) (f k : Nat) : Nat := zsum (sCr1 S f k) (S 2 0)
def zmx (p : Nat → Nat) : Nat → Nat
  | 0 => 0
  | n + 1 => if zmx p n < p n then p n else zmx p n
def sGr (S : zS) (f : Nat) : Nat := zmx (sCr S f) (S 2 0)
theorem zsum_le {p : Nat → Nat} (hp : ∀ j, p j ≤ 1) : ∀ n, zsum p n ≤ n
  | 0 => Nat.le_refl _
  | n + 1 => by
    have := zsum_le hp n
    have := hp n
    unfold zsum
    omega
theorem sCr1_le (S : zS) (f k o : Nat) : sCr1 S f k o ≤ 1 := by unfold sCr1; split <;> omega
theorem zmx_le {p : Nat → Nat} {c : Nat} (hp : ∀ j, p j ≤ c) : ∀ n, zmx p n ≤ c
  | 0 => Nat.zero_le _
  | n + 1 => by
    unfold zmx
    split
    · exact hp n
    · exact zmx_le hp n
theorem sGr_le {S : zS} (hI : Inv S) (f : Nat) : sGr S f ≤ 4 := zmx_le (fun k => Nat.le_trans (zsum_le (sCr1_le S f k) _) hI.K) _
theorem c_xCr (sc : zScr) {S : zS} {k f : Nat} (hI : Inv S) (hk : k < S 2 0) (hf : f < S 1 0) (i : Nat → Nat → Int32) (hX : XR S i) (hW : ∀ k, k < S 2 0 → i 69 k = nI (sEnds S k)) (v : Int32) (b : Bool) (l : Nat → Nat → Int64) : ∀ (n o : Nat), o + n = S 2 0 → zev sc (27, 21, [some (.ref 67), some (.int (nI f)), some (.int v), some (.int (nI k)), some (.int (nI (zsum (sCr1 S f k) o))), some (.int (nI o))], [], (197, i, zRF b, l)) = zev sc (27, 83, [some (.ref 67), some (.int (nI f)), some (.int v), some (.int (nI k)), some (.int (nI (sCr S f k))), some (.int (nI (S 2 0)))], [], (197, i, zRF b, l))
  | 0, o, ho => by
    have e : o = S 2 0 := by omega
    subst e
    rw [b27_21, hX.K, if_pos (Int32.le_refl _)]
    rfl
  | n + 1, o, ho => by
    have hK := hI.K
    have ho' : o < S 2 0 := by omega
    have s1 := sSnd_le hI hk hf
    have s2 := sSnd_le hI ho' hf
    have ih := c_xCr sc hI hk hf i hX hW v b l n (o + 1) (by omega)
    have stay : sCr1 S f k o = 0 → zev sc (27, 77, [some (.ref 67), some (.int (nI f)), some (.int v), some (.int (nI k)), some (.int (nI (zsum (sCr1 S f k) o))), some (.int (nI o))], [], (197, i, zRF b, l)) = zev sc (27, 21, [some (.ref 67), some (.int (nI f)), some (.int v), some (.int (nI k)), some (.int (nI (zsum (sCr1 S f k) (o + 1)))), some (.int (nI (o + 1)))], [], (197, i, zRF b, l)) := by
      intro h0
      rw [b27_77, nI_1, show zsum (sCr1 S f k) (o + 1) = zsum (sCr1 S f k) o from by show _ + _ = _; rw [h0]; rfl]
    rw [← ih, b27_21, hX.K, if_neg (zq_nle ho' (by omega)), b27_33, c_xCo sc hI hk hf i hX (hW k hk), Option.bind_some]
    dsimp only
    rw [b27_39]
    rcases sCo_01 S k f with q1 | q1
    · rw [q1, if_pos (show nI 0 = 0 from rfl)]
      exact stay (if_neg (fun z => by have := z.1; omega))
    rw [q1, if_neg (show ¬ nI 1 = 0 by decide), b27_42, c_xCo sc hI ho' hf i hX (hW o ho'), Option.bind_some]
    dsimp only
    rw [b27_49]
    rcases sCo_01 S o f with q2 | q2
    · rw [q2, if_pos (show nI 0 = 0 from rfl)]
      exact stay (if_neg (fun z => by have := z.2.1; omega))
    rw [q2, if_neg (show ¬ nI 1 = 0 by decide), b27_52, c_xSound sc hI hk hf i hX, Option.bind_some]
    dsimp only
    rw [b27_61, c_xSound sc hI ho' hf i hX, Option.bind_some]
    dsimp only
    rw [b27_71]
    by_cases q3 : sSnd S k f = sSnd S o f
    · rw [if_pos (show nI (sSnd S k f) = nI (sSnd S o f) by rw [q3]), b27_74, b27_77, nI_1, nI_1, show zsum (sCr1 S f k) (o + 1) = zsum (sCr1 S f k) o + 1 from by show _ + _ = _; rw [show sCr1 S f k o = 1 from if_pos ⟨q1, q2, q3⟩]]
    · rw [if_neg (fun z => q3 ((nI_eq (by omega) (by omega)).mp z))]
      exact stay (if_neg (fun z => q3 z.2.2))
theorem zmx_nI {p : Nat → Nat} {n c : Nat} (hp : ∀ j, p j ≤ c) (hc : c < 2 ^ 31) : (if nI (zmx p n) < nI (p n) then nI (p n) else nI (zmx p n)) = nI (zmx p (n + 1)) := by
  have h1 := hp n
  have h2 := zmx_le hp n
  show _ = nI (if zmx p n < p n then p n else zmx p n)
  by_cases h : zmx p n < p n
  · rw [if_pos h, if_pos ((nI_ltI (by omega) (by omega)).mpr h)]
  · rw [if_neg h, if_neg (fun z => h ((nI_ltI (by omega) (by omega)).mp z))]
theorem c_xGr (sc : zScr) {S : zS} {f : Nat} (hI : Inv S) (hf : f < S 1 0) (i : Nat → Nat → Int32) (hX : XR S i) (hW : ∀ k, k < S 2 0 → i 69 k = nI (sEnds S k)) (b : Bool) (l : Nat → Nat → Int64) : ∀ (n k : Nat) (w w2 : Option Value), k + n = S 2 0 → zev sc (27, 4, [some (.ref 67), some (.int (nI f)), some (.int (nI (zmx (sCr S f) k))), some (.int (nI k)), w, w2], [], (197, i, zRF b, l)) = some (.int (nI (sGr S f)), (197, i, zRF b, l))
  | 0, k, w, w2, hk => by
    have e : k = S 2 0 := by omega
    subst e
    rw [b27_4, hX.K, if_pos (Int32.le_refl _), b27_96]
    rfl
  | n + 1, k, w, w2, hk => by
    have hK := hI.K
    have h0 := c_xCr sc hI (k := k) (by omega) hf i hX hW (nI (zmx (sCr S f) k)) b l (S 2 0) 0 (by omega)
    have hle : ∀ j, sCr S f j ≤ 4 := fun j => Nat.le_trans (zsum_le (sCr1_le S f j) _) hI.K
    rw [b27_4, hX.K, if_neg (zq_nle (by omega) (by omega)), b27_15]
    refine Eq.trans h0 ?_
    rw [b27_83, zmx_nI hle (by decide), nI_1]
    exact c_xGr sc hI hf i hX hW b l n (k + 1) _ _ (by omega)
/-- the model's crowd of a kind that came -/
theorem c_mCr (sc : zScr) {S : zS} {k f : Nat} (hI : Inv S) (hk : k < S 2 0) (hf : f < S 1 0) (i : Nat → Nat → Int32) (hM : MR S i) (v1 v2 v4 : Int32) (b : Bool) (l : Nat → Nat → Int64) : ∀ (n o : Nat), o + n = S 2 0 → ∃ w : Int32, zev sc (168, 40, [some (.ref 173), some (.int v1), some (.int v2), some (.int (nI f)), some (.int v4), some (.int (nI k)), some (.int (nI (zsum (sCr1 S f k) o))), some (.int (nI o))], [], (197, i, zRF b, l)) = zev sc (168, 104, [some (.ref 173), some (.int v1), some (.int v2), some (.int (nI f)), some (.int v4), some (.int (nI k)), some (.int (nI (sCr S f k))), some (.int w)], [], (197, i, zRF b, l))
  | 0, o, ho => by
    have e : o = S 2 0 := by omega
    subst e
    refine ⟨nI (S 2 0), ?_⟩
    rw [b168_40, hM.K, if_pos (Int32.le_refl _)]
    rfl
  | n + 1, o, ho => by
    have hK := hI.K
    have ho' : o < S 2 0 := by omega
    have s1 := sSnd_le hI hk hf
    have s2 := sSnd_le hI ho' hf
    rw [b168_40, hM.K, if_neg (zq_nle ho' (by omega)), b168_51, c_mCo sc hI hk hf i hM, Option.bind_some]
    dsimp only
    rw [b168_58]
    rcases sCo_01 S k f with q1 | q1
    · refine ⟨nI o, ?_⟩
      have h0 : ∀ m, zsum (sCr1 S f k) m = 0 := by
        intro m
        rw [zsum_congr (p := sCr1 S f k) (q := fun _ => 0) (fun j hj => if_neg (fun z => by have := z.1; omega)), zsum_0]
      rw [q1, if_pos (show nI 0 = 0 from rfl), h0, show sCr S f k = 0 from h0 _]
    obtain ⟨w, ih⟩ := c_mCr sc hI hk hf i hM v1 v2 v4 b l n (o + 1) (by omega)
    refine ⟨w, ?_⟩
    rw [q1, if_neg (show ¬ nI 1 = 0 by decide), b168_61, c_mCo sc hI ho' hf i hM, Option.bind_some]
    dsimp only
    rw [b168_70, ← ih]
    have fin : zsum (sCr1 S f k) (o + 1) = zsum (sCr1 S f k) o + sCr1 S f k o := rfl
    rcases sCo_01 S o f with q2 | q2
    · rw [q2, if_pos (show nI 0 = 0 from rfl), b168_94, b168_95, Int32.add_zero, nI_1, fin, show sCr1 S f k o = 0 from if_neg (fun z => by have := z.2.1; omega)]
      rfl
    rw [q2, if_neg (show ¬ nI 1 = 0 by decide), b168_73, c_mSound sc hI ho' hf i hM, Option.bind_some]
    dsimp only
    rw [b168_80, c_mSound sc hI hk hf i hM, Option.bind_some]
    dsimp only
    rw [b168_87]
    by_cases q3 : sSnd S k f = sSnd S o f
    · rw [if_pos (show nI (sSnd S o f) = nI (sSnd S k f) by rw [q3]), b168_90, b168_95, nI_1, nI_1, fin, show sCr1 S f k o = 1 from if_pos ⟨q1, q2, q3⟩]
    · rw [if_neg (fun z => q3 ((nI_eq (by omega) (by omega)).mp z).symm), b168_94, b168_95, Int32.add_zero, nI_1, fin, show sCr1 S f k o = 0 from if_neg (fun z => q3 z.2.2)]
      rfl
theorem c_mGr (sc : zScr) {S : zS} {f : Nat} (hI : Inv S) (hf : f < S 1 0) (i : Nat → Nat → Int32) (hM : MR S i) (v1 v2 : Int32) (b : Bool) (l : Nat → Nat → Int64) : ∀ (n k : Nat) (w w2 : Option Value), k + n = S 2 0 → ∃ w' w2', zev sc (168, 23, [some (.ref 173), some (.int v1), some (.int v2), some (.int (nI f)), some (.int (nI (zmx (sCr S f) k))), some (.int (nI k)), w, w2], [], (197, i, zRF b, l)) = zev sc (168, 126, [some (.ref 173), some (.int v1), some (.int v2), some (.int (nI f)), some (.int (nI (sGr S f))), some (.int (nI (S 2 0))), w', w2'], [], (197, i, zRF b, l))
  | 0, k, w, w2, hk => by
    have e : k = S 2 0 := by omega
    subst e
    refine ⟨w, w2, ?_⟩
    rw [b168_23, hM.K, if_pos (Int32.le_refl _)]
    rfl
  | n + 1, k, w, w2, hk => by
    have hK := hI.K
    have hle : ∀ j, sCr S f j ≤ 4 := fun j => Nat.le_trans (zsum_le (sCr1_le S f j) _) hI.K
    have g1 := hle k
    have g2 := zmx_le hle k
    obtain ⟨w1, h0⟩ := c_mCr sc hI (k := k) (by omega) hf i hM v1 v2 (nI (zmx (sCr S f) k)) b l (S 2 0) 0 (by omega)
    obtain ⟨w', w2', ih⟩ := c_mGr sc hI hf i hM v1 v2 b l n (k + 1) (some (.int (nI (sCr S f k)))) (some (.int w1)) (by omega)
    refine ⟨w', w2', ?_⟩
    rw [b168_23, hM.K, if_neg (zq_nle (by omega) (by omega)), b168_34, ← ih]
    refine Eq.trans h0 ?_
    rw [b168_104]
    by_cases h : zmx (sCr S f) k < sCr S f k
    · rw [if_neg (zq_nle h (by omega)), b168_111, b168_118, nI_1, show zmx (sCr S f) (k + 1) = sCr S f k from if_pos h]
    · rw [if_pos ((nI_leI (by omega) (by omega)).mpr (by omega)), b168_116, b168_118, nI_1, show zmx (sCr S f) (k + 1) = zmx (sCr S f) k from if_neg h]
/-- the fence to watch: the best so far, and its crowd (5: none) -/
def sAsk (S : zS) : Nat → Nat × Nat
  | 0 => (0, 5)
  | n + 1 => if sGr S n = 0 ∨ (sAsk S n).2 ≤ sGr S n then sAsk S n else (n, sGr S n)
theorem sAsk_b {S : zS} (hI : Inv S) : ∀ n, (sAsk S n).1 ≤ n ∧ 1 ≤ (sAsk S n).2 ∧ (sAsk S n).2 ≤ 5
  | 0 => ⟨Nat.le_refl _, (by decide : 1 ≤ 5), Nat.le_refl _⟩
  | n + 1 => by
    obtain ⟨h1, h2, h3⟩ := sAsk_b hI n
    have h4 := sGr_le hI n
    unfold sAsk
    split
    · exact ⟨by omega, h2, h3⟩
    · exact ⟨by show n ≤ _; omega, by show 1 ≤ sGr S n; omega, by show sGr S n ≤ 5; omega⟩
def sAv (q : Nat × Nat) : Int32 := if q.2 = 5 then -9 else nI q.1
theorem c_xAsk (sc : zScr) {S : zS} (hI : Inv S) (i : Nat → Nat → Int32) (hX : XR S i) (hW : ∀ k, k < S 2 0 → i 69 k = nI (sEnds S k)) (b : Bool) (l : Nat → Nat → Int64) : ∀ (n f : Nat) (w : Option Value), f + n = S 1 0 → zev sc (26, 37, [some (.ref 67), some (.int (sAv (sAsk S f))), some (.int (nI (sAsk S f).2)), some (.int (nI f)), w], [], (197, i, zRF b, l)) = some (.int (sAv (sAsk S (S 1 0))), (197, i, zRF b, l))
  | 0, f, w, hf => by
    have e : f = S 1 0 := by omega
    subst e
    rw [b26_37, hX.E, if_pos (Int32.le_refl _), b26_77]
  | n + 1, f, w, hf => by
    have hE := hI.E
    obtain ⟨h1, h2, h3⟩ := sAsk_b hI f
    have h4 := sGr_le hI f
    have ih := c_xAsk sc hI i hX hW b l n (f + 1) (some (.int (nI (sGr S f)))) (by omega)
    have hg := c_xGr sc hI (f := f) (by omega) i hX hW b l (S 2 0) 0 none none (by omega)
    rw [show zmx (sCr S f) 0 = 0 from rfl, show nI 0 = 0 from rfl] at hg
    rw [← ih, b26_37, hX.E, if_neg (zq_nle (by omega) (by omega)), b26_48, b27_0, hg, Option.bind_some]
    dsimp only
    rw [b26_53]
    by_cases q1 : sGr S f = 0
    · rw [if_pos ((nI_le0 (by omega)).mpr q1), b26_71, nI_1, show sAsk S (f + 1) = sAsk S f from if_pos (Or.inl q1)]
    · rw [if_neg (fun z => q1 ((nI_le0 (by omega)).mp z)), b26_60]
      by_cases q2 : (sAsk S f).2 ≤ sGr S f
      · rw [if_pos ((nI_leI (by omega) (by omega)).mpr q2), b26_71, nI_1, show sAsk S (f + 1) = sAsk S f from if_pos (Or.inr q2)]
      · rw [if_neg (zq_nle (by omega) (by omega)), b26_66, b26_71, nI_1, show sAsk S (f + 1) = (f, sGr S f) from if_neg (by omega), show sAv (f, sGr S f) = nI f from if_neg (by show ¬ sGr S f = 5; omega)]
theorem nI_ne9 {n : Nat} (h : n < 2 ^ 31) : ¬ nI n = -9 := by
  intro e
  have := congrArg Int32.toInt e
  rw [nI_toInt h, show (-9 : Int32).toInt = -9 from rfl] at this
  omega
def sAf (q : Nat × Nat) : Int32 := if q.2 = 5 then 0 else nI q.2
theorem c_mAsk (sc : zScr) {S : zS} (hI : Inv S) (i : Nat → Nat → Int32) (hM : MR S i) (b : Bool) (l : Nat → Nat → Int64) : ∀ (n f : Nat) (w w2 w3 w4 : Option Value), f + n = S 1 0 → zev sc (168, 7, [some (.ref 173), some (.int (sAv (sAsk S f))), some (.int (sAf (sAsk S f))), some (.int (nI f)), w, w2, w3, w4], [], (197, i, zRF b, l)) = some (.int (sAv (sAsk S (S 1 0))), (197, i, zRF b, l))
  | 0, f, w, w2, w3, w4, hf => by
    have e : f = S 1 0 := by omega
    subst e
    rw [b168_7, hM.E, if_pos (Int32.le_refl _), b168_154]
  | n + 1, f, w, w2, w3, w4, hf => by
    have hE := hI.E
    obtain ⟨h1, h2, h3⟩ := sAsk_b hI f
    have h4 := sGr_le hI f
    obtain ⟨w', w2', hg⟩ := c_mGr sc hI (f := f) (by omega) i hM (sAv (sAsk S f)) (sAf (sAsk S f)) b l (S 2 0) 0 w3 w4 (by omega)
    have ih := c_mAsk sc hI i hM b l n (f + 1) (some (.int (nI (sGr S f)))) (some (.int (nI (S 2 0)))) w' w2' (by omega)
    rw [← ih, b168_7, hM.E, if_neg (zq_nle (by omega) (by omega)), b168_17]
    refine Eq.trans hg ?_
    rw [b168_126]
    by_cases q1 : sGr S f = 0
    · rw [if_pos ((nI_le0 (by omega)).mpr q1), b168_148, nI_1, show sAsk S (f + 1) = sAsk S f from if_pos (Or.inl q1)]
    · rw [if_neg (fun z => q1 ((nI_le0 (by omega)).mp z)), b168_131]
      have tk : (sAsk S f).2 = 5 ∨ ¬ (sAsk S f).2 ≤ sGr S f → zev sc (168, 143, [some (.ref 173), some (.int (sAv (sAsk S f))), some (.int (sAf (sAsk S f))), some (.int (nI f)), some (.int (nI (sGr S f))), some (.int (nI (S 2 0))), w', w2'], [], (197, i, zRF b, l)) = zev sc (168, 7, [some (.ref 173), some (.int (sAv (sAsk S (f + 1)))), some (.int (sAf (sAsk S (f + 1)))), some (.int (nI (f + 1))), some (.int (nI (sGr S f))), some (.int (nI (S 2 0))), w', w2'], [], (197, i, zRF b, l)) := by
        intro q
        rw [b168_143, b168_148, nI_1, show sAsk S (f + 1) = (f, sGr S f) from if_neg (by omega), show sAv (f, sGr S f) = nI f from if_neg (by show ¬ sGr S f = 5; omega), show sAf (f, sGr S f) = nI (sGr S f) from if_neg (by show ¬ sGr S f = 5; omega)]
      by_cases q5 : (sAsk S f).2 = 5
      · rw [show sAv (sAsk S f) = -9 from if_pos q5, if_pos rfl]
        have := tk (Or.inl q5)
        rw [show sAv (sAsk S f) = -9 from if_pos q5] at this
        exact this
      · have ev : sAv (sAsk S f) = nI (sAsk S f).1 := if_neg q5
        have ef : sAf (sAsk S f) = nI (sAsk S f).2 := if_neg q5
        rw [ev, if_neg (nI_ne9 (by omega)), b168_137, ef]
        by_cases q2 : (sAsk S f).2 ≤ sGr S f
        · rw [if_pos ((nI_leI (by omega) (by omega)).mpr q2), b168_148, nI_1, show sAsk S (f + 1) = sAsk S f from if_pos (Or.inr q2), ev, ef]
        · rw [if_neg (zq_nle (by omega) (by omega))]
          have := tk (Or.inr q2)
          rw [ev, ef] at this
          exact this
theorem c_xFil (sc : zScr) {S : zS} (hI : Inv S) (b : Bool) (l : Nat → Nat → Int64) : ∀ (n k : Nat) (i : Nat → Nat → Int32), XR S i → (∀ j, j < k → i 69 j = nI (sEnds S j)) → k + n = S 2 0 → ∃ i1, zev sc (26, 2, [some (.ref 67), some (.int (nI k)), none, none, none], [], (197, i, zRF b, l)) = zev sc (26, 30, [some (.ref 67), some (.int (nI (S 2 0))), none, none, none], [], (197, i1, zRF b, l)) ∧ (∀ k, k < S 2 0 → i1 69 k = nI (sEnds S k)) ∧ ∀ c j, c ≠ 69 → i1 c j = i c j
  | 0, k, i, hX, hW, hk => by
    have e : k = S 2 0 := by omega
    subst e
    refine ⟨i, ?_, hW, fun _ _ _ => rfl⟩
    rw [b26_2, hX.K, if_pos (Int32.le_refl _)]
  | n + 1, k, i, hX, hW, hk => by
    have hK := hI.K
    have hne : ∀ c j, c ≠ 69 → zU i 69 k (nI (sEnds S k)) c j = i c j := fun c j hc => if_neg (fun z => hc z.1)
    obtain ⟨i1, h1, h2, h3⟩ := c_xFil sc hI b l n (k + 1) (zU i 69 k (nI (sEnds S k))) (hX.congr (fun c j q => hne c j (fun z => by have := q.2.2.2; omega))) (by
      intro j hj
      by_cases e : j = k
      · subst e
        exact if_pos ⟨rfl, rfl⟩
      · rw [show zU i 69 k (nI (sEnds S k)) 69 j = i 69 j from if_neg (fun z => e z.2)]
        exact hW j (by omega)) (by omega)
    refine ⟨i1, ?_, h2, fun c j hc => by rw [h3 c j hc, hne c j hc]⟩
    rw [← h1, b26_2, hX.K, if_neg (zq_nle (by omega) (by omega)), b26_13, c_xEnds sc hI (by omega) i hX, Option.bind_some]
    dsimp only
    rw [b26_23 _ _ _ _ _ _ _ (vp_in_nI (by omega) (by decide)), nI_clamp (by omega), nI_1]
theorem op_ask (sc : zScr) {S : zS} {i : Nat → Nat → Int32} (b : Bool) {l : Nat → Nat → Int64} (h : Rl S i l) : zOp sc 95 168 [some (.ref 0)] [some (.ref 173), none, none, none, none, none, none, none] i b l := by
  obtain ⟨hI, hX, hM, hL⟩ := id h
  refine zOp_q (r := .int (sAv (sAsk S (S 1 0)))) h ?_ ?_
  · obtain ⟨i1, h1, h2, h3⟩ := c_xFil sc hI b l (S 2 0) 0 i hX (fun j hj => absurd hj (Nat.not_lt_zero _)) (by omega)
    have hX1 : XR S i1 := hX.congr (fun c j q => h3 c j (fun z => by have := q.2.2.2; omega))
    refine ⟨i1, b, ?_, fun c j q => h3 c j (fun z => q.elim (fun q => by have := q.2.2.2; omega) (fun q => by omega))⟩
    have ha := c_xAsk sc hI i1 hX1 h2 b l (S 1 0) 0 none (by omega)
    rw [b95_0, b26_0]
    rw [show nI 0 = 0 from rfl] at h1 ha
    rw [h1, b26_30]
    rw [show zev sc (26, 37, [some (.ref 67), some (.int (-9)), some (.int 5), some (.int 0), none], [], (197, i1, zRF b, l)) = some (.int (sAv (sAsk S (S 1 0))), (197, i1, zRF b, l)) from ha, Option.bind_some]
    dsimp only
    rw [b95_7]
  · intro i1 b1 hM1
    refine ⟨i1, ?_, fun _ _ _ => rfl⟩
    rw [b168_0]
    exact c_mAsk sc hI i1 hM1 b1 l (S 1 0) 0 none none none none (by omega)
