/-! numbers; the state that both sides stand for -/
theorem L0 : (0 : Int32) = nI 0 := rfl
theorem L1 : (1 : Int32) = nI 1 := rfl
theorem L2 : (2 : Int32) = nI 2 := rfl
theorem L3 : (3 : Int32) = nI 3 := rfl
theorem L4 : (4 : Int32) = nI 4 := rfl
theorem L5 : (5 : Int32) = nI 5 := rfl
theorem L6 : (6 : Int32) = nI 6 := rfl
theorem L7 : (7 : Int32) = nI 7 := rfl
theorem L8 : (8 : Int32) = nI 8 := rfl
theorem L9 : (9 : Int32) = nI 9 := rfl
theorem L10 : (10 : Int32) = nI 10 := rfl
theorem L11 : (11 : Int32) = nI 11 := rfl
theorem L12 : (12 : Int32) = nI 12 := rfl
theorem L13 : (13 : Int32) = nI 13 := rfl
theorem L14 : (14 : Int32) = nI 14 := rfl
theorem L15 : (15 : Int32) = nI 15 := rfl
theorem L16 : (16 : Int32) = nI 16 := rfl
theorem L17 : (17 : Int32) = nI 17 := rfl
theorem L18 : (18 : Int32) = nI 18 := rfl
theorem L19 : (19 : Int32) = nI 19 := rfl
theorem L25 : (25 : Int32) = nI 25 := rfl
theorem L26 : (26 : Int32) = nI 26 := rfl
theorem L28 : (28 : Int32) = nI 28 := rfl
theorem L29 : (29 : Int32) = nI 29 := rfl
theorem L30 : (30 : Int32) = nI 30 := rfl
theorem L31 : (31 : Int32) = nI 31 := rfl
theorem L40 : (40 : Int32) = nI 40 := rfl
theorem L43 : (43 : Int32) = nI 43 := rfl
theorem L97 : (97 : Int32) = nI 97 := rfl
theorem L98 : (98 : Int32) = nI 98 := rfl
theorem L100 : (100 : Int32) = nI 100 := rfl
theorem L101 : (101 : Int32) = nI 101 := rfl
theorem L102 : (102 : Int32) = nI 102 := rfl
theorem L107 : (107 : Int32) = nI 107 := rfl
theorem L110 : (110 : Int32) = nI 110 := rfl
theorem L119 : (119 : Int32) = nI 119 := rfl
theorem L122 : (122 : Int32) = nI 122 := rfl
theorem L99 : (99 : Int32) = nI 99 := rfl
theorem L150 : (150 : Int32) = nI 150 := rfl
theorem L255 : (255 : Int32) = nI 255 := rfl
theorem L256 : (256 : Int32) = nI 256 := rfl
theorem L300 : (300 : Int32) = nI 300 := rfl
theorem L1000000 : (1000000 : Int32) = nI 1000000 := rfl
theorem L1000003 : (1000003 : Int32) = nI 1000003 := rfl
theorem L32 : (32 : Int32) = nI 32 := rfl
theorem L48 : (48 : Int32) = nI 48 := rfl
theorem L57 : (57 : Int32) = nI 57 := rfl
theorem L59 : (59 : Int32) = nI 59 := rfl
theorem L60 : (60 : Int32) = nI 60 := rfl
theorem L900 : (900 : Int32) = nI 900 := rfl
theorem Lm1 : ∀ n, nI n + (-1 : Int32) = nI n - nI 1 := fun n => by rw [Int32.sub_eq_add_neg]; rfl
theorem zin_iff {f : Int32} {n : Nat} (hn : n < 2 ^ 31) : (0 ≤ f ∧ f < nI n) ↔ ∃ j, j < n ∧ f = nI j := by
  constructor
  · intro ⟨h1, h2⟩
    obtain ⟨j, hj, rfl⟩ := nI_of (x := f) (fun h => absurd h (Int32.not_lt.mpr h1))
    exact ⟨j, (nI_ltI hj hn).mp h2, rfl⟩
  · rintro ⟨j, hj, rfl⟩
    exact ⟨nI_pos' (by omega), (nI_ltI (by omega) hn).mpr hj⟩
/-- a valid index, or none -/
theorem zix (f : Int32) (n : Nat) (hn : n < 2 ^ 31) : (∃ j, j < n ∧ f = nI j) ∨ ¬ (0 ≤ f ∧ f < nI n) := by
  by_cases h : 0 ≤ f ∧ f < nI n
  · exact Or.inl ((zin_iff hn).mp h)
  · exact Or.inr h
theorem zpred_toInt {n : Nat} (hn : n < 2 ^ 31) : (nI n - 1).toInt = (n : Int) - 1 := by
  rw [Int32.toInt_sub, nI_toInt hn, show (1 : Int32).toInt = 1 from rfl]
  rw [Int.bmod_eq_of_le (by omega) (by omega)]
/-- what the model's 'in' answers -/
theorem c_in (sc : zScr) (v lo hi : Int32) (i : Nat → Nat → Int32) (b : Bool) (l : Nat → Nat → Int64) : zev sc (119, 0, [some (.int v), some (.int lo), some (.int hi)], [], (197, i, zRF b, l)) = some (.int (if lo ≤ v ∧ v ≤ hi then 1 else 0), (197, i, zRF b, l)) := by
  rw [b119_0]
  by_cases h1 : v < lo
  · rw [if_pos h1, b119_14, b119_15 _ _ _ _ _ _ _ _ (Or.inl rfl), if_neg (fun q => absurd h1 (Int32.not_lt.mpr q.1))]
  · rw [if_neg h1, b119_5]
    by_cases h2 : hi < v
    · rw [if_pos h2, b119_14, b119_15 _ _ _ _ _ _ _ _ (Or.inl rfl), if_neg (fun q => absurd h2 (Int32.not_lt.mpr q.2))]
    · rw [if_neg h2, b119_10, b119_15 _ _ _ _ _ _ _ _ (Or.inr rfl), if_pos ⟨Int32.not_lt.mp h1, Int32.not_lt.mp h2⟩]
/-- is a number one of so many: as both sides ask it -/
def zis (f : Int32) (n : Nat) : Int32 := if 0 ≤ f ∧ f < nI n then 1 else 0
theorem zis_in {j n : Nat} (hn : n < 2 ^ 31) (h : j < n) : zis (nI j) n = 1 := if_pos ((zin_iff hn).mpr ⟨j, h, rfl⟩)
theorem zis_out {f : Int32} {n : Nat} (h : ¬ (0 ≤ f ∧ f < nI n)) : zis f n = 0 := if_neg h
theorem zifc {a b : Prop} [Decidable a] [Decidable b] {α : Type} {x y : α} (h : a ↔ b) : (if a then x else y) = (if b then x else y) := by
  by_cases hb : b
  · rw [if_pos hb, if_pos (h.mpr hb)]
  · rw [if_neg hb, if_neg (fun q => hb (h.mp q))]
theorem zis_pred {f : Int32} {n : Nat} (hn : n < 2 ^ 31) : (if 0 ≤ f ∧ f ≤ nI n - 1 then (1 : Int32) else 0) = zis f n := by
  unfold zis
  have h1 := zpred_toInt hn
  have h2 := nI_toInt hn
  have h3 : (0 : Int32).toInt = 0 := rfl
  refine zifc ?_
  rw [Int32.le_iff_toInt_le, Int32.le_iff_toInt_le, Int32.lt_iff_toInt_lt, h1, h2, h3]
  omega
theorem zis_01 (f : Int32) (n : Nat) : zis f n = 0 ∨ zis f n = 1 := by
  unfold zis
  split
  · exact Or.inr rfl
  · exact Or.inl rfl
theorem c_mField (sc : zScr) (v : Int32) (n : Nat) (hn : n < 2 ^ 31) (i : Nat → Nat → Int32) (b : Bool) (l : Nat → Nat → Int64) (h : i 175 0 = nI n) : zev sc (131, 0, [some (.ref 173), some (.int v)], [], (197, i, zRF b, l)) = some (.int (zis v n), (197, i, zRF b, l)) := by
  rw [b131_0, c_in, Option.bind_some]
  dsimp only
  rw [h, zis_pred hn, b131_13 _ _ _ _ _ _ (zis_01 v n)]
theorem c_mFence (sc : zScr) (v : Int32) (n : Nat) (hn : n < 2 ^ 31) (i : Nat → Nat → Int32) (b : Bool) (l : Nat → Nat → Int64) (h : i 176 0 = nI n) : zev sc (132, 0, [some (.ref 173), some (.int v)], [], (197, i, zRF b, l)) = some (.int (zis v n), (197, i, zRF b, l)) := by
  rw [b132_0, c_in, Option.bind_some]
  dsimp only
  rw [h, zis_pred hn, b132_13 _ _ _ _ _ _ (zis_01 v n)]
theorem c_mKind (sc : zScr) (v : Int32) (n : Nat) (hn : n < 2 ^ 31) (i : Nat → Nat → Int32) (b : Bool) (l : Nat → Nat → Int64) (h : i 180 0 = nI n) : zev sc (133, 0, [some (.ref 173), some (.int v)], [], (197, i, zRF b, l)) = some (.int (zis v n), (197, i, zRF b, l)) := by
  rw [b133_0, c_in, Option.bind_some]
  dsimp only
  rw [h, zis_pred hn, b133_13 _ _ _ _ _ _ (zis_01 v n)]
theorem c_mBeast (sc : zScr) (v : Int32) (n : Nat) (hn : n < 2 ^ 31) (i : Nat → Nat → Int32) (b : Bool) (l : Nat → Nat → Int64) (h : i 183 0 = nI n) : zev sc (134, 0, [some (.ref 173), some (.int v)], [], (197, i, zRF b, l)) = some (.int (zis v n), (197, i, zRF b, l)) := by
  rw [b134_0, c_in, Option.bind_some]
  dsimp only
  rw [h, zis_pred hn, b134_13 _ _ _ _ _ _ (zis_01 v n)]
theorem c_xField (sc : zScr) (v : Int32) (n : Nat) (i : Nat → Nat → Int32) (b : Bool) (l : Nat → Nat → Int64) (h : i 3 0 = nI n) : zev sc (106, 0, [some (.ref 0), some (.int v)], [], (197, i, zRF b, l)) = some (.int (zis v n), (197, i, zRF b, l)) := by
  unfold zis
  rw [b106_0]
  by_cases h1 : v < 0
  · rw [if_pos h1, b106_19, b106_20 _ _ _ _ _ _ (Or.inl rfl), if_neg (fun q => absurd h1 (Int32.not_lt.mpr q.1))]
  · rw [if_neg h1, b106_4, h]
    by_cases h2 : nI n ≤ v
    · rw [if_pos h2, b106_19, b106_20 _ _ _ _ _ _ (Or.inl rfl), if_neg (fun q => absurd q.2 (Int32.not_lt.mpr h2))]
    · rw [if_neg h2, b106_15, b106_20 _ _ _ _ _ _ (Or.inr rfl), if_pos ⟨Int32.not_lt.mp h1, Int32.not_le.mp h2⟩]
theorem c_xFence (sc : zScr) (v : Int32) (n : Nat) (i : Nat → Nat → Int32) (b : Bool) (l : Nat → Nat → Int64) (h : i 3 1 = nI n) : zev sc (107, 0, [some (.ref 0), some (.int v)], [], (197, i, zRF b, l)) = some (.int (zis v n), (197, i, zRF b, l)) := by
  unfold zis
  rw [b107_0]
  by_cases h1 : v < 0
  · rw [if_pos h1, b107_19, b107_20 _ _ _ _ _ _ (Or.inl rfl), if_neg (fun q => absurd h1 (Int32.not_lt.mpr q.1))]
  · rw [if_neg h1, b107_4, h]
    by_cases h2 : nI n ≤ v
    · rw [if_pos h2, b107_19, b107_20 _ _ _ _ _ _ (Or.inl rfl), if_neg (fun q => absurd q.2 (Int32.not_lt.mpr h2))]
    · rw [if_neg h2, b107_15, b107_20 _ _ _ _ _ _ (Or.inr rfl), if_pos ⟨Int32.not_lt.mp h1, Int32.not_le.mp h2⟩]
theorem c_xKind (sc : zScr) (v : Int32) (n : Nat) (i : Nat → Nat → Int32) (b : Bool) (l : Nat → Nat → Int64) (h : i 3 5 = nI n) : zev sc (108, 0, [some (.ref 0), some (.int v)], [], (197, i, zRF b, l)) = some (.int (zis v n), (197, i, zRF b, l)) := by
  unfold zis
  rw [b108_0]
  by_cases h1 : v < 0
  · rw [if_pos h1, b108_19, b108_20 _ _ _ _ _ _ (Or.inl rfl), if_neg (fun q => absurd h1 (Int32.not_lt.mpr q.1))]
  · rw [if_neg h1, b108_4, h]
    by_cases h2 : nI n ≤ v
    · rw [if_pos h2, b108_19, b108_20 _ _ _ _ _ _ (Or.inl rfl), if_neg (fun q => absurd q.2 (Int32.not_lt.mpr h2))]
    · rw [if_neg h2, b108_15, b108_20 _ _ _ _ _ _ (Or.inr rfl), if_pos ⟨Int32.not_lt.mp h1, Int32.not_le.mp h2⟩]
theorem c_xBeast (sc : zScr) (v : Int32) (n : Nat) (i : Nat → Nat → Int32) (b : Bool) (l : Nat → Nat → Int64) (h : i 3 8 = nI n) : zev sc (109, 0, [some (.ref 0), some (.int v)], [], (197, i, zRF b, l)) = some (.int (zis v n), (197, i, zRF b, l)) := by
  unfold zis
  rw [b109_0]
  by_cases h1 : v < 0
  · rw [if_pos h1, b109_19, b109_20 _ _ _ _ _ _ (Or.inl rfl), if_neg (fun q => absurd h1 (Int32.not_lt.mpr q.1))]
  · rw [if_neg h1, b109_4, h]
    by_cases h2 : nI n ≤ v
    · rw [if_pos h2, b109_19, b109_20 _ _ _ _ _ _ (Or.inl rfl), if_neg (fun q => absurd q.2 (Int32.not_lt.mpr h2))]
    · rw [if_neg h2, b109_15, b109_20 _ _ _ _ _ _ (Or.inr rfl), if_pos ⟨Int32.not_lt.mp h1, Int32.not_le.mp h2⟩]
theorem c_xFlag (sc : zScr) (v : Int32) (i : Nat → Nat → Int32) (b : Bool) (l : Nat → Nat → Int64) : zev sc (111, 0, [some (.int v)], [], (197, i, zRF b, l)) = some (.int (if v = 0 ∨ v = 1 then 1 else 0), (197, i, zRF b, l)) := by
  rw [b111_0]
  by_cases h1 : v = 0
  · rw [if_pos h1, b111_9, b111_14 _ _ _ _ _ _ (Or.inr rfl), if_pos (Or.inl h1)]
  · rw [if_neg h1, b111_4]
    by_cases h2 : v = 1
    · rw [if_pos h2, b111_9, b111_14 _ _ _ _ _ _ (Or.inr rfl), if_pos (Or.inr h2)]
    · rw [if_neg h2, b111_13, b111_14 _ _ _ _ _ _ (Or.inl rfl), if_neg (fun q => q.elim h1 h2)]
theorem c_xImage (sc : zScr) (v : Int32) (i : Nat → Nat → Int32) (b : Bool) (l : Nat → Nat → Int64) : zev sc (110, 0, [some (.int v)], [], (197, i, zRF b, l)) = some (.int (zis v 2), (197, i, zRF b, l)) := by
  unfold zis
  rw [b110_0]
  by_cases h1 : v < 0
  · rw [if_pos h1, b110_13, b110_14 _ _ _ _ _ _ (Or.inl rfl), if_neg (fun q => absurd h1 (Int32.not_lt.mpr q.1))]
  · rw [if_neg h1, b110_4]
    by_cases h2 : (2 : Int32) ≤ v
    · rw [if_pos h2, b110_13, b110_14 _ _ _ _ _ _ (Or.inl rfl), if_neg (fun q => absurd q.2 (Int32.not_lt.mpr h2))]
    · rw [if_neg h2, b110_9, b110_14 _ _ _ _ _ _ (Or.inr rfl), if_pos ⟨Int32.not_lt.mp h1, Int32.not_le.mp h2⟩]
theorem fa_and (a b : Nat) : nI a &&& nI b = nI (a &&& b) := by
  apply Int32.toBitVec_inj.1
  show BitVec.ofNat 32 a &&& BitVec.ofNat 32 b = BitVec.ofNat 32 (a &&& b)
  apply BitVec.eq_of_getLsbD_eq
  intro i hi
  simp [hi]
theorem fa_or (a b : Nat) : nI a ||| nI b = nI (a ||| b) := by
  apply Int32.toBitVec_inj.1
  show BitVec.ofNat 32 a ||| BitVec.ofNat 32 b = BitVec.ofNat 32 (a ||| b)
  apply BitVec.eq_of_getLsbD_eq
  intro i hi
  simp [hi]
theorem nx_xor (a b : Nat) : nI a ^^^ nI b = nI (a ^^^ b) := by
  apply Int32.toBitVec_inj.1
  show BitVec.ofNat 32 a ^^^ BitVec.ofNat 32 b = BitVec.ofNat 32 (a ^^^ b)
  apply BitVec.eq_of_getLsbD_eq
  intro i hi
  simp [hi]
theorem nI_le0 {a : Nat} (h : a < 2 ^ 31) : nI a ≤ 0 ↔ a = 0 := by
  rw [L0, nI_leI h (by decide)]
  omega
theorem nI_gt0 {a : Nat} (h : a < 2 ^ 31) : 0 < nI a ↔ 0 < a := by
  rw [L0, nI_ltI (by decide) h]
