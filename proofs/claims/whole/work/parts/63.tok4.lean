/-! downs: numbers, stops; the draft -/
abbrev zOk (S : zS) (a : Nat) (v1 v2 : Int32) : Prop := zso S a = 2 ∧ v1 ≤ nI (zva S a) ∧ nI (zva S a) ≤ v2
theorem c_xNum (sc : zScr) {S : zS} (hn : S 17 0 ≤ 150) (hb : ∀ j, j < S 17 0 → S 16 j < 256) {a : Nat} (ha : a ≤ S 17 0) (v1 v2 : Int32) (b : Bool) (l : Nat → Nat → Int64) (i : Nat → Nat → Int32) (hT : XT S i) (h2 : i 1 2 = nI a) : ∃ i', zev sc (66, 0, [some (.ref 1), some (.int v1), some (.int v2)], [], (197, i, zRF b, l)) = some (.int (if zOk S a v1 v2 then 1 else 0), (197, i', zRF b, l)) ∧ i' 1 2 = nI (zen S a) ∧ i' 1 4 = nI (zst S a) ∧ (zOk S a v1 v2 → i' 1 5 = nI (zva S a)) ∧ zFx i i' := by
  obtain ⟨i', p1, p2, p3, p4, p5, p6⟩ := c_xStep sc hn hb ha b l i hT h2
  have hso : zso S a ≤ 4 := by
    unfold zso
    repeat' split
    all_goals omega
  refine ⟨i', ?_, p2, p4, fun z => p5 (Or.inr z.1), p6⟩
  rw [b66_0, p1, Option.bind_some]
  dsimp only
  rw [b66_4, p3]
  by_cases h : zso S a = 2
  · rw [if_pos (show nI (zso S a) = 2 by rw [h]; rfl), b66_12, p5 (Or.inr h)]
    by_cases g1 : nI (zva S a) < v1
    · rw [if_pos g1, b66_32, b66_33 _ _ _ _ _ _ _ (Or.inl rfl), if_neg (fun z => absurd g1 (Int32.not_lt.mpr z.2.1))]
    · rw [if_neg g1, b66_20, p5 (Or.inr h)]
      by_cases g2 : v2 < nI (zva S a)
      · rw [if_pos g2, b66_32, b66_33 _ _ _ _ _ _ _ (Or.inl rfl), if_neg (fun z => absurd g2 (Int32.not_lt.mpr z.2.2))]
      · rw [if_neg g2, b66_28, b66_33 _ _ _ _ _ _ _ (Or.inr rfl), if_pos ⟨h, Int32.not_lt.mp g1, Int32.not_lt.mp g2⟩]
  · rw [if_neg (show ¬ nI (zso S a) = 2 from fun z => h ((nI_eq (b := 2) (by omega) (by decide)).mp z)), b66_32, b66_33 _ _ _ _ _ _ _ (Or.inl rfl), if_neg (fun z => h z.1)]
theorem c_xStop (sc : zScr) {S : zS} (hn : S 17 0 ≤ 150) (hb : ∀ j, j < S 17 0 → S 16 j < 256) {a : Nat} (ha : a ≤ S 17 0) (b : Bool) (l : Nat → Nat → Int64) (i : Nat → Nat → Int32) (hT : XT S i) (h2 : i 1 2 = nI a) : ∃ i', zev sc (67, 0, [some (.ref 1)], [], (197, i, zRF b, l)) = some (.int (if zso S a = 3 then 1 else 0), (197, i', zRF b, l)) ∧ i' 1 2 = nI (zen S a) ∧ i' 1 4 = nI (zst S a) ∧ zFx i i' := by
  obtain ⟨i', p1, p2, p3, p4, p5, p6⟩ := c_xStep sc hn hb ha b l i hT h2
  have hso : zso S a ≤ 4 := by
    unfold zso
    repeat' split
    all_goals omega
  refine ⟨i', ?_, p2, p4, p6⟩
  rw [b67_0, p1, Option.bind_some]
  dsimp only
  rw [b67_4, p3]
  by_cases h : zso S a = 3
  · rw [if_pos (show nI (zso S a) = 3 by rw [h]; rfl), b67_12, b67_17 _ _ _ _ _ (Or.inr rfl), if_pos h]
  · rw [if_neg (show ¬ nI (zso S a) = 3 from fun z => h ((nI_eq (b := 3) (by omega) (by decide)).mp z)), b67_16, b67_17 _ _ _ _ _ (Or.inl rfl), if_neg h]
theorem c_mDueY (sc : zScr) {S : zS} (hn : S 17 0 ≤ 150) (hb : ∀ j, j < S 17 0 → S 16 j < 256) {a : Nat} (ha : a ≤ S 17 0) (b : Bool) (l : Nat → Nat → Int64) (i : Nat → Nat → Int32) (hT : MT S i) (hK : MK S a i) (h18 : i 173 18 = 0) : ∃ i', zev sc (125, 0, [some (.ref 173), some (.int 1)], [], (197, i, zRF b, l)) = some (.null, (197, i', zRF b, l)) ∧ MK S (zen S a) i' ∧ zFm i i' := by
  obtain ⟨i', p1, p2, p3⟩ := c_mStep sc hn hb (zen_ge ha).2.1 b l i hT hK.1
  refine ⟨i', ?_, p2, p3⟩
  rw [b125_0, if_pos h18, b125_8, if_neg (by decide), b125_12, p1, Option.bind_some]
  dsimp only
  rw [b125_16, b125_24]
theorem c_mDueN (sc : zScr) (b : Bool) (l : Nat → Nat → Int64) (i : Nat → Nat → Int32) (h18 : i 173 18 = 0) : zev sc (125, 0, [some (.ref 173), some (.int 0)], [], (197, i, zRF b, l)) = some (.null, (197, zU i 173 18 1, zRF b, l)) := by
  rw [b125_0, if_pos h18, b125_8, if_pos rfl, b125_19, b125_24]
theorem c_mDueW (sc : zScr) (v : Int32) (b : Bool) (l : Nat → Nat → Int64) (i : Nat → Nat → Int32) (h18 : i 173 18 = 1) : zev sc (125, 0, [some (.ref 173), some (.int v)], [], (197, i, zRF b, l)) = some (.null, (197, i, zRF b, l)) := by
  rw [b125_0, h18, if_neg (by decide), b125_7]
theorem zms_2 (n : Nat) : zms n = 2 ↔ n = 2 := by
  unfold zms
  repeat' split
  all_goals omega
theorem zms_le {n : Nat} (h : n ≤ 4) : zms n ≤ 5 := by
  unfold zms
  repeat' split
  all_goals omega
theorem zso_le (S : zS) (a : Nat) : zso S a ≤ 4 := by
  unfold zso
  repeat' split
  all_goals omega
theorem c_mNm (sc : zScr) {S : zS} {a : Nat} (v1 v2 : Int32) (b : Bool) (l : Nat → Nat → Int64) (i : Nat → Nat → Int32) (hK : MK S a i) : zev sc (126, 0, [some (.ref 173), some (.int v1), some (.int v2), none], [], (197, i, zRF b, l)) = zev sc (126, 28, [some (.ref 173), some (.int v1), some (.int v2), some (.int (i 173 17))], [.int (if zOk S a v1 v2 then 1 else 0), .ref 173], (197, i, zRF b, l)) := by
  have h1 := zso_le S a
  have h2 := zms_le h1
  rw [b126_0, hK.2.2.1]
  by_cases h : zso S a = 2
  · rw [if_pos (show nI (zms (zso S a)) = 2 by rw [(zms_2 _).mpr h]; rfl), b126_14, c_in, hK.2.2.2 (Or.inr h), Option.bind_some]
    dsimp only
    rw [b126_20]
    by_cases g : v1 ≤ nI (zva S a) ∧ nI (zva S a) ≤ v2
    · rw [if_pos g, if_neg (by decide), b126_23, if_pos ⟨h, g⟩]
    · rw [if_neg g, if_pos rfl, b126_27, if_neg (fun z => g z.2)]
  · rw [if_neg (show ¬ nI (zms (zso S a)) = 2 from fun z => h ((zms_2 _).mp ((nI_eq (b := 2) (by omega) (by decide)).mp z))), b126_27, if_neg (fun z => h z.1)]
theorem c_mNumY (sc : zScr) {S : zS} (hn : S 17 0 ≤ 150) (hb : ∀ j, j < S 17 0 → S 16 j < 256) {a : Nat} (ha : a ≤ S 17 0) {v1 v2 : Int32} (b : Bool) (l : Nat → Nat → Int64) (i : Nat → Nat → Int32) (hT : MT S i) (hK : MK S a i) (h18 : i 173 18 = 0) (hok : zOk S a v1 v2) : ∃ i', zev sc (126, 0, [some (.ref 173), some (.int v1), some (.int v2), none], [], (197, i, zRF b, l)) = some (.int (nI (zva S a)), (197, i', zRF b, l)) ∧ MK S (zen S a) i' ∧ zFm i i' := by
  obtain ⟨i', p1, p2, p3⟩ := c_mDueY sc hn hb ha b l i hT hK h18
  refine ⟨i', ?_, p2, p3⟩
  rw [c_mNm sc v1 v2 b l i hK, if_pos hok, b126_28, p1, Option.bind_some]
  dsimp only
  rw [b126_31, hK.2.2.2 (Or.inr hok.1)]
theorem c_mNumN (sc : zScr) {S : zS} {a : Nat} {v1 v2 : Int32} (b : Bool) (l : Nat → Nat → Int64) (i : Nat → Nat → Int32) (hK : MK S a i) (h18 : i 173 18 = 0) (hok : ¬ zOk S a v1 v2) : zev sc (126, 0, [some (.ref 173), some (.int v1), some (.int v2), none], [], (197, i, zRF b, l)) = some (.int (i 173 17), (197, zU i 173 18 1, zRF b, l)) := by
  rw [c_mNm sc v1 v2 b l i hK, if_neg hok, b126_28, c_mDueN sc b l i h18, Option.bind_some]
  dsimp only
  rw [b126_31]
theorem c_mNumW (sc : zScr) (v1 v2 : Int32) (b : Bool) (l : Nat → Nat → Int64) (i : Nat → Nat → Int32) (h18 : i 173 18 = 1) : ∃ v : Int32, zev sc (126, 0, [some (.ref 173), some (.int v1), some (.int v2), none], [], (197, i, zRF b, l)) = some (.int v, (197, i, zRF b, l)) := by
  have hh : ∃ u : Int32, zev sc (126, 0, [some (.ref 173), some (.int v1), some (.int v2), none], [], (197, i, zRF b, l)) = zev sc (126, 28, [some (.ref 173), some (.int v1), some (.int v2), some (.int (i 173 17))], [.int u, .ref 173], (197, i, zRF b, l)) := by
    rw [b126_0]
    by_cases h : i 173 16 = 2
    · rw [if_pos h, b126_14, c_in, Option.bind_some]
      dsimp only
      rw [b126_20]
      by_cases g : v1 ≤ i 173 17 ∧ i 173 17 ≤ v2
      · exact ⟨1, by rw [if_pos g, if_neg (by decide), b126_23]⟩
      · exact ⟨0, by rw [if_neg g, if_pos rfl, b126_27]⟩
    · exact ⟨0, by rw [if_neg h, b126_27]⟩
  obtain ⟨u, hh⟩ := hh
  refine ⟨i 173 17, ?_⟩
  rw [hh, b126_28, c_mDueW sc u b l i h18, Option.bind_some]
  dsimp only
  rw [b126_31]
/-- the class's draft, the model's draft are D -/
def XD (D : zS) (i : Nat → Nat → Int32) : Prop := i 11 0 = nI (D 0 0) ∧ i 11 1 = nI (D 1 0) ∧ i 11 5 = nI (D 2 0) ∧ i 11 8 = nI (D 3 0) ∧ i 11 11 = nI (D 9 16) ∧ i 1 6 = nI (D 12 0) ∧ (∀ f, f < D 1 0 → i 12 f = nI (D 4 f) ∧ i 13 f = nI (D 5 f) ∧ i 14 f = nI (D 9 (6 + f))) ∧ (∀ k, k < D 2 0 → i 15 k = nI (D 6 k) - 3 ∧ i 16 k = nI (D 7 k)) ∧ ∀ c, c < D 3 0 → i 17 c = nI (D 8 c) ∧ i 18 c = nI (D 9 c)
def MD (D : zS) (i : Nat → Nat → Int32) : Prop := i 175 1 = nI (D 0 0) ∧ i 176 1 = nI (D 1 0) ∧ i 180 1 = nI (D 2 0) ∧ i 183 1 = nI (D 3 0) ∧ i 186 1 = nI (D 9 16) ∧ i 173 19 = nI (D 13 0) ∧ (∀ f, f < D 1 0 → i 177 (8 + f) = nI (D 4 f) ∧ i 178 (8 + f) = nI (D 5 f) ∧ i 179 (8 + f) = nI (D 9 (6 + f))) ∧ (∀ k, k < D 2 0 → i 181 (4 + k) = nI (D 6 k) - 3 ∧ i 182 (4 + k) = nI (D 7 k)) ∧ ∀ c, c < D 3 0 → i 184 (6 + c) = nI (D 8 c) ∧ i 185 (6 + c) = nI (D 9 c)
def VD (D : zS) : Prop := (1 ≤ D 0 0 ∧ D 0 0 ≤ 8) ∧ D 1 0 ≤ 8 ∧ D 2 0 ≤ 4 ∧ D 3 0 ≤ 6 ∧ (∀ f, f < D 1 0 → D 4 f < D 0 0 ∧ D 5 f < D 0 0 ∧ D 4 f ≠ D 5 f ∧ D 9 (6 + f) ≤ 40) ∧ (∀ k, k < D 2 0 → D 6 k ≤ 6 ∧ D 7 k ≤ 9) ∧ (∀ c, c < D 3 0 → D 8 c < D 2 0 ∧ D 9 c < D 0 0) ∧ D 9 16 ≤ 9 ∧ D 12 0 ≤ 1
theorem XD.congr {D : zS} {i i' : Nat → Nat → Int32} (h : XD D i) (he : ∀ c t, (11 ≤ c ∧ c ≤ 18 ∨ c = 1 ∧ t = 6) → i' c t = i c t) : XD D i' := by
  obtain ⟨h1, h2, h3, h4, h5, h6, h7, h8, h9⟩ := h
  refine ⟨?_, ?_, ?_, ?_, ?_, ?_, fun f hf => ?_, fun k hk => ?_, fun c hc => ?_⟩
  · rw [he _ _ (by omega)]; exact h1
  · rw [he _ _ (by omega)]; exact h2
  · rw [he _ _ (by omega)]; exact h3
  · rw [he _ _ (by omega)]; exact h4
  · rw [he _ _ (by omega)]; exact h5
  · rw [he _ _ (by omega)]; exact h6
  · rw [he _ _ (by omega), he _ _ (by omega), he _ _ (by omega)]; exact h7 f hf
  · rw [he _ _ (by omega), he _ _ (by omega)]; exact h8 k hk
  · rw [he _ _ (by omega), he _ _ (by omega)]; exact h9 c hc
theorem MD.congr {D : zS} {i i' : Nat → Nat → Int32} (h : MD D i) (he : ∀ c t, (175 ≤ c ∧ c ≤ 186 ∨ c = 173 ∧ t = 19) → i' c t = i c t) : MD D i' := by
  obtain ⟨h1, h2, h3, h4, h5, h6, h7, h8, h9⟩ := h
  refine ⟨?_, ?_, ?_, ?_, ?_, ?_, fun f hf => ?_, fun k hk => ?_, fun c hc => ?_⟩
  · rw [he _ _ (by omega)]; exact h1
  · rw [he _ _ (by omega)]; exact h2
  · rw [he _ _ (by omega)]; exact h3
  · rw [he _ _ (by omega)]; exact h4
  · rw [he _ _ (by omega)]; exact h5
  · rw [he _ _ (by omega)]; exact h6
  · rw [he _ _ (by omega), he _ _ (by omega), he _ _ (by omega)]; exact h7 f hf
  · rw [he _ _ (by omega), he _ _ (by omega)]; exact h8 k hk
  · rw [he _ _ (by omega), he _ _ (by omega)]; exact h9 c hc
theorem XD.fx {D : zS} {i i' : Nat → Nat → Int32} (h : XD D i) (hf : zFx i i') : XD D i' := h.congr (fun c t z => hf c t (by omega))
theorem MD.fm {D : zS} {i i' : Nat → Nat → Int32} (h : MD D i) (hf : zFm i i') : MD D i' := h.congr (fun c t z => hf c t (by omega))
def zFy (i i' : Nat → Nat → Int32) : Prop := ∀ c t, (c ≠ 1 ∨ t < 2 ∨ 6 < t) → (c < 11 ∨ 18 < c) → i' c t = i c t
def zFd (i i' : Nat → Nat → Int32) : Prop := ∀ c t, (mrd c t ∨ c < 173) → i' c t = i c t
theorem zFy.trans {i j k : Nat → Nat → Int32} (h1 : zFy i j) (h2 : zFy j k) : zFy i k := fun c t h g => by rw [h2 c t h g, h1 c t h g]
theorem zFd.trans {i j k : Nat → Nat → Int32} (h1 : zFd i j) (h2 : zFd j k) : zFd i k := fun c t h => by rw [h2 c t h, h1 c t h]
theorem zFx.fy {i j : Nat → Nat → Int32} (h : zFx i j) : zFy i j := fun c t g _ => h c t (by omega)
theorem zFm.fd {i j : Nat → Nat → Int32} (h : zFm i j) : zFd i j := fun c t g => h c t (by unfold mrd at g; omega)
theorem zFd.refl (i : Nat → Nat → Int32) : zFd i i := fun _ _ _ => rfl
theorem zFd.one {i j : Nat → Nat → Int32} (h : zFd i j) {q u : Nat} (hq : ¬ (mrd q u ∨ q < 173)) (v : Int32) : zFd i (zU j q u v) := fun c t g => by
  by_cases e : c = q ∧ t = u
  · rw [e.1, e.2] at g
    exact absurd g hq
  · rw [zUn _ _ (by omega), h c t g]
theorem zFy.one {i j : Nat → Nat → Int32} (h : zFy i j) {q u : Nat} (hq : (11 ≤ q ∧ q ≤ 18) ∨ (q = 1 ∧ 2 ≤ u ∧ u ≤ 6)) (v : Int32) : zFy i (zU j q u v) := fun c t g1 g2 => by
  rw [zUn _ _ (by omega), h c t g1 g2]
theorem XT.fy {S : zS} {i i' : Nat → Nat → Int32} (h : XT S i) (hf : zFy i i') : XT S i' := h.congr (fun c t z => hf c t (by omega) (by omega))
theorem MT.fd {S : zS} {i i' : Nat → Nat → Int32} (h : MT S i) (hf : zFd i i') : MT S i' := h.congr (fun c t z => hf c t (by unfold mrd; omega))
theorem zva_le {S : zS} (hb : ∀ j, j < S 17 0 → S 16 j < 256) {a : Nat} (h : zso S a = 1 ∨ zso S a = 2) : zva S a ≤ 999 := by
  by_cases c1 : S 17 0 ≤ zst S a
  · have e1 : zso S a = 0 := if_pos c1
    omega
  · have hc := hb (zst S a) (by omega)
    unfold zva
    by_cases c2 : zLe (S 16 (zst S a))
    · rw [if_pos c2]
      split <;> omega
    · rw [if_neg c2]
      exact zdg_le S _ _ 0 (by decide)
/-- a number below so many -/
theorem zOk_lt {S : zS} (hb : ∀ j, j < S 17 0 → S 16 j < 256) {a h : Nat} (hh : h < 2 ^ 31) : zOk S a 0 (nI h - 1) ↔ zso S a = 2 ∧ zva S a < h := by
  constructor
  · rintro ⟨z1, z2, z3⟩
    have hv := zva_le hb (Or.inr z1)
    have g := Int32.le_iff_toInt_le.mp z3
    rw [zpred_toInt hh, nI_toInt (by omega)] at g
    exact ⟨z1, by omega⟩
  · rintro ⟨z1, z2⟩
    have hv := zva_le hb (Or.inr z1)
    refine ⟨z1, nI_pos' (by omega), Int32.le_iff_toInt_le.mpr ?_⟩
    rw [zpred_toInt hh, nI_toInt (by omega)]
    omega
theorem zOk_in {S : zS} (hb : ∀ j, j < S 17 0 → S 16 j < 256) {a lo hi : Nat} (hlo : lo < 2 ^ 31) (hhi : hi < 2 ^ 31) (h : zOk S a (nI lo) (nI hi)) : lo ≤ zva S a ∧ zva S a ≤ hi := by
  have hv := zva_le hb (Or.inr h.1)
  exact ⟨(nI_leI hlo (by omega)).mp h.2.1, (nI_leI (by omega) hhi).mp h.2.2⟩
