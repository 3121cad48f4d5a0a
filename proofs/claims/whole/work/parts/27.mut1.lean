/-! what changes the state: type, clear, hears, forget -/
/-- a row of the state replaced -/
def zRw (S : zS) (c : Nat) (r : Nat → Nat) : zS := fun q t => if q = c then r t else S q t
theorem zUs {α : Type} (f : Nat → Nat → α) (a j : Nat) (v : α) : zU f a j v a j = v := if_pos ⟨rfl, rfl⟩
theorem zUn {α : Type} (f : Nat → Nat → α) {a j : Nat} (v : α) {q t : Nat} (h : q ≠ a ∨ t ≠ j) : zU f a j v q t = f q t := if_neg (fun z => h.elim (fun h => h z.1) (fun h => h z.2))
/-- the groups of the class's side -/
def XL (S : zS) (i : Nat → Nat → Int32) : Prop := i 3 0 = nI (S 0 0) ∧ i 3 1 = nI (S 1 0) ∧ i 3 5 = nI (S 2 0) ∧ i 3 8 = nI (S 3 0) ∧ (∀ f, f < S 1 0 → i 4 f = nI (S 4 f) ∧ i 5 f = nI (S 5 f)) ∧ (∀ k, k < S 2 0 → i 7 k = nI (S 6 k) - 3 ∧ i 8 k = nI (S 7 k)) ∧ (∀ b, b < S 3 0 → i 9 b = nI (S 8 b))
def XG (S : zS) (i : Nat → Nat → Int32) : Prop := ∀ p, p < 2 → i (79 + 47 * p) 2 = nI (S 13 p) ∧ (S 13 p = 1 → XSt (S 1 0) (S 3 0) (80 + 47 * p) (rI S p) i ∧ XPa (S 1 0) (S 3 0) (84 + 47 * p) (S 10 (1 + p)) (rB S (1 + p)) i)
def XE (S : zS) (i : Nat → Nat → Int32) : Prop := (∀ j, j < S 15 0 → i 68 j = nI (S 14 j)) ∧ i 67 6 = nI (S 15 0)
def XT (S : zS) (i : Nat → Nat → Int32) : Prop := (∀ j, j < S 17 0 → i 2 j = nI (S 16 j)) ∧ i 1 1 = nI (S 17 0)
theorem XR.xl {S : zS} {i} (h : XR S i) : XL S i := ⟨h.1, h.2.1, h.2.2.1, h.2.2.2.1, h.2.2.2.2.1, h.2.2.2.2.2.1, h.2.2.2.2.2.2.1⟩
theorem XR.xg {S : zS} {i} (h : XR S i) : XG S i := h.2.2.2.2.2.2.2.2.2.1
theorem XR.xe {S : zS} {i} (h : XR S i) : XE S i := ⟨h.2.2.2.2.2.2.2.2.2.2.1, h.2.2.2.2.2.2.2.2.2.2.2.1⟩
theorem XR.xt {S : zS} {i} (h : XR S i) : XT S i := ⟨h.2.2.2.2.2.2.2.2.2.2.2.2.1, h.2.2.2.2.2.2.2.2.2.2.2.2.2⟩
theorem XR.mk {S : zS} {i} (h1 : XL S i) (h2 : XSt (S 1 0) (S 3 0) 19 (rN S) i) (h3 : XPa (S 1 0) (S 3 0) 24 (S 10 0) (rB S 0) i) (h4 : XG S i) (h5 : XE S i) (h6 : XT S i) : XR S i := ⟨h1.1, h1.2.1, h1.2.2.1, h1.2.2.2.1, h1.2.2.2.2.1, h1.2.2.2.2.2.1, h1.2.2.2.2.2.2, h2, h3, h4, h5.1, h5.2, h6.1, h6.2⟩
theorem XL.congr {S : zS} {i i' : Nat → Nat → Int32} (h : XL S i) (he : ∀ c j, 3 ≤ c → c ≤ 10 → i' c j = i c j) : XL S i' := by
  obtain ⟨h1, h2, h3, h4, h5, h6, h7⟩ := h
  refine ⟨?_, ?_, ?_, ?_, fun f hf => ?_, fun k hk => ?_, fun b hb => ?_⟩
  · rw [he _ _ (by decide) (by decide)]; exact h1
  · rw [he _ _ (by decide) (by decide)]; exact h2
  · rw [he _ _ (by decide) (by decide)]; exact h3
  · rw [he _ _ (by decide) (by decide)]; exact h4
  · rw [he 4 _ (by decide) (by decide), he 5 _ (by decide) (by decide)]; exact h5 f hf
  · rw [he 7 _ (by decide) (by decide), he 8 _ (by decide) (by decide)]; exact h6 k hk
  · rw [he _ _ (by decide) (by decide)]; exact h7 b hb
theorem XG.congr {S : zS} {i i' : Nat → Nat → Int32} (h : XG S i) (he : ∀ c j, 79 ≤ c → c < 173 → i' c j = i c j) : XG S i' := by
  intro p hp
  refine ⟨?_, fun hk => ⟨((h p hp).2 hk).1.congr (fun c j g1 g2 => he c j (by omega) (by omega)), ((h p hp).2 hk).2.congr (fun c j g1 g2 => he c j (by omega) (by omega))⟩⟩
  rw [he _ _ (by omega) (by omega)]
  exact (h p hp).1
theorem XE.congr {S : zS} {i i' : Nat → Nat → Int32} (h : XE S i) (he : ∀ c j, 67 ≤ c → c ≤ 68 → i' c j = i c j) : XE S i' := ⟨fun j hj => by rw [he _ _ (by decide) (by decide)]; exact h.1 j hj, by rw [he _ _ (by decide) (by decide)]; exact h.2⟩
theorem XT.congr {S : zS} {i i' : Nat → Nat → Int32} (h : XT S i) (he : ∀ c j, (c = 2 ∨ c = 1 ∧ j = 1) → i' c j = i c j) : XT S i' := ⟨fun j hj => by rw [he _ _ (Or.inl rfl)]; exact h.1 j hj, by rw [he _ _ (Or.inr ⟨rfl, rfl⟩)]; exact h.2⟩
/-- the groups of the model's side -/
def ML (S : zS) (i : Nat → Nat → Int32) : Prop := i 175 0 = nI (S 0 0) ∧ i 176 0 = nI (S 1 0) ∧ i 180 0 = nI (S 2 0) ∧ i 183 0 = nI (S 3 0) ∧ (∀ f, f < S 1 0 → i 177 f = nI (S 4 f) ∧ i 178 f = nI (S 5 f)) ∧ (∀ k, k < S 2 0 → i 181 k = nI (S 6 k) - 3 ∧ i 182 k = nI (S 7 k)) ∧ (∀ b, b < S 3 0 → i 184 b = nI (S 8 b))
def MP (S : zS) (i : Nat → Nat → Int32) : Prop := (∀ p, p < 3 → i 188 p = nI (S 10 p)) ∧ (∀ j, j < 900 → i 189 j = nI (S 11 j)) ∧ (∀ j, j < 60 → i 190 j = nI (S 12 j)) ∧ (∀ p, p < 2 → i 191 p = nI (S 13 p))
def ME (S : zS) (i : Nat → Nat → Int32) : Prop := (∀ j, j < 6 → i 192 j = nI (S 14 j)) ∧ i 173 26 = nI (S 15 0)
def MT (S : zS) (i : Nat → Nat → Int32) : Prop := (∀ j, j < S 17 0 → i 174 j = zby (S 16 j)) ∧ i 173 1 = nI (S 17 0)
theorem MR.ml {S : zS} {i} (h : MR S i) : ML S i := ⟨h.1, h.2.1, h.2.2.1, h.2.2.2.1, h.2.2.2.2.1, h.2.2.2.2.2.1, h.2.2.2.2.2.2.1⟩
theorem MR.mn {S : zS} {i} (h : MR S i) : ∀ j, j < 30 → i 187 j = nI (S 9 j) := h.2.2.2.2.2.2.2.1
theorem MR.mp {S : zS} {i} (h : MR S i) : MP S i := ⟨h.2.2.2.2.2.2.2.2.1, h.2.2.2.2.2.2.2.2.2.1, h.2.2.2.2.2.2.2.2.2.2.1, h.2.2.2.2.2.2.2.2.2.2.2.1⟩
theorem MR.me {S : zS} {i} (h : MR S i) : ME S i := ⟨h.2.2.2.2.2.2.2.2.2.2.2.2.1, h.2.2.2.2.2.2.2.2.2.2.2.2.2.1⟩
theorem MR.mt {S : zS} {i} (h : MR S i) : MT S i := ⟨h.2.2.2.2.2.2.2.2.2.2.2.2.2.2.1, h.2.2.2.2.2.2.2.2.2.2.2.2.2.2.2⟩
theorem MR.mk {S : zS} {i} (h1 : ML S i) (h2 : ∀ j, j < 30 → i 187 j = nI (S 9 j)) (h3 : MP S i) (h4 : ME S i) (h5 : MT S i) : MR S i := ⟨h1.1, h1.2.1, h1.2.2.1, h1.2.2.2.1, h1.2.2.2.2.1, h1.2.2.2.2.2.1, h1.2.2.2.2.2.2, h2, h3.1, h3.2.1, h3.2.2.1, h3.2.2.2, h4.1, h4.2, h5.1, h5.2⟩
theorem ML.congr {S : zS} {i i' : Nat → Nat → Int32} (h : ML S i) (he : ∀ c j, 175 ≤ c → c ≤ 184 → i' c j = i c j) : ML S i' := by
  obtain ⟨h1, h2, h3, h4, h5, h6, h7⟩ := h
  refine ⟨?_, ?_, ?_, ?_, fun f hf => ?_, fun k hk => ?_, fun b hb => ?_⟩
  · rw [he _ _ (by decide) (by decide)]; exact h1
  · rw [he _ _ (by decide) (by decide)]; exact h2
  · rw [he _ _ (by decide) (by decide)]; exact h3
  · rw [he _ _ (by decide) (by decide)]; exact h4
  · rw [he 177 _ (by decide) (by decide), he 178 _ (by decide) (by decide)]; exact h5 f hf
  · rw [he 181 _ (by decide) (by decide), he 182 _ (by decide) (by decide)]; exact h6 k hk
  · rw [he _ _ (by decide) (by decide)]; exact h7 b hb
theorem MP.congr {S : zS} {i i' : Nat → Nat → Int32} (h : MP S i) (he : ∀ c j, 188 ≤ c → c ≤ 191 → i' c j = i c j) : MP S i' :=
  ⟨fun p hp => by rw [he _ _ (by decide) (by decide)]; exact h.1 p hp, fun p hp => by rw [he _ _ (by decide) (by decide)]; exact h.2.1 p hp, fun p hp => by rw [he _ _ (by decide) (by decide)]; exact h.2.2.1 p hp, fun p hp => by rw [he _ _ (by decide) (by decide)]; exact h.2.2.2 p hp⟩
theorem ME.congr {S : zS} {i i' : Nat → Nat → Int32} (h : ME S i) (he : ∀ c j, (c = 192 ∨ c = 173 ∧ j = 26) → i' c j = i c j) : ME S i' := ⟨fun j hj => by rw [he _ _ (Or.inl rfl)]; exact h.1 j hj, by rw [he _ _ (Or.inr ⟨rfl, rfl⟩)]; exact h.2⟩
theorem MT.congr {S : zS} {i i' : Nat → Nat → Int32} (h : MT S i) (he : ∀ c j, (c = 174 ∨ c = 173 ∧ j = 1) → i' c j = i c j) : MT S i' := ⟨fun j hj => by rw [he _ _ (Or.inl rfl)]; exact h.1 j hj, by rw [he _ _ (Or.inr ⟨rfl, rfl⟩)]; exact h.2⟩
theorem znar (n : Nat) : vp_nar .byte (nI n).toInt8.toInt32 = zby n := by
  show (nI n).toInt8.toInt32.toInt8.toInt32 = (nI n).toInt8.toInt32
  rw [Int8.toInt8_toInt32]
def sTy (S : zS) (w : Nat) : zS := zRw (zRw S 16 (fun t => if t = S 17 0 then w else S 16 t)) 17 (fun _ => S 17 0 + 1)
theorem zin255 (w : Int32) : (∃ s, s < 256 ∧ w = nI s) ∨ ¬ (0 ≤ w ∧ w ≤ 255) := by
  rcases zix w 256 (by decide) with ⟨s, hs, rfl⟩ | h
  · exact Or.inl ⟨s, hs, rfl⟩
  · refine Or.inr (fun z => h ⟨z.1, ?_⟩)
    have h1 := Int32.le_iff_toInt_le.mp z.2
    rw [show (255 : Int32).toInt = 255 from rfl] at h1
    rw [Int32.lt_iff_toInt_lt, nI_toInt (by decide)]
    omega
theorem zin_m (w lo hi : Int32) : (if lo ≤ w ∧ w ≤ hi then (1 : Int32) else 0) = 0 ↔ ¬ (lo ≤ w ∧ w ≤ hi) := by
  by_cases h : lo ≤ w ∧ w ≤ hi
  · rw [if_pos h]
    exact ⟨fun z => absurd z (by decide), fun z => absurd h z⟩
  · rw [if_neg h]
    exact ⟨fun _ => h, fun _ => rfl⟩
theorem op_type (sc : zScr) {S : zS} {i : Nat → Nat → Int32} (b : Bool) {l : Nat → Nat → Int64} (h : Rl S i l) (w : Int32) : zOp sc 74 121 [some (.ref 0), some (.int w)] [some (.ref 173), some (.int w)] i b l := by
  obtain ⟨hI, hX, hM, hL⟩ := id h
  have hT := hI.typed
  rcases zin255 w with ⟨s, hs, rfl⟩ | hn
  · have h0 : (0 : Int32) ≤ nI s := nI_pos' (by omega)
    have h255 : nI s ≤ 255 := by rw [L255]; exact (nI_leI (by omega) (by decide)).mpr (by omega)
    by_cases hf : S 17 0 = 150
    · refine zOp_p (r := .int (-3)) h ?_ ?_
      · rw [b74_0, if_neg (Int32.not_lt.mpr h0), b74_4, if_pos h255, b74_13, b59_0, hX.ty, if_neg (by rw [hf]; decide), b59_10, Option.bind_some]
        dsimp only
        rw [b74_21, if_pos rfl, b74_34, b74_36]
      · rw [b121_0, c_in, Option.bind_some]
        dsimp only
        rw [b121_8, if_neg (fun z => (zin_m _ _ _).mp z ⟨h0, h255⟩), b121_13, hM.ty, if_pos (by rw [hf]; rfl), b121_23]
    · have hlt : S 17 0 < 150 := by omega
      have hin : vp_in (nI (S 17 0)) 150 := vp_in_nI (by omega) (by decide)
      have ex : zU i 2 (S 17 0) (nI s) 1 1 = nI (S 17 0) := by rw [zUn _ _ (Or.inl (by decide)), hX.ty]
      refine ⟨.int (nI (S 17 0 + 1)), zU (zU i 2 (S 17 0) (nI s)) 1 1 (nI (S 17 0 + 1)), b, l, zU (zU (zU (zU i 2 (S 17 0) (nI s)) 1 1 (nI (S 17 0 + 1))) 174 (S 17 0) (zby s)) 173 1 (nI (S 17 0 + 1)), l, sTy S s, ?_, ?_, ?_, ?_, ?_, hL⟩
      · rw [b74_0, if_neg (Int32.not_lt.mpr h0), b74_4, if_pos h255, b74_13, b59_0, hX.ty, if_pos (by rw [L150]; exact (nI_ltI (by omega) (by decide)).mpr hlt), b59_12 _ _ _ _ _ (by rw [hX.ty]; exact hin), hX.ty, nI_clamp (by omega), ex, nI_1, Option.bind_some]
        dsimp only
        rw [b74_21, if_neg (by decide), b74_24, b74_36, zUs]
      · have ety : ∀ v u : Int32, zU (zU i 2 (S 17 0) v) 1 1 u 173 1 = nI (S 17 0) := fun v u => by rw [zUn _ _ (Or.inl (by decide)), zUn _ _ (Or.inl (by decide)), hM.ty]
        rw [b121_0, c_in, Option.bind_some]
        dsimp only
        rw [b121_8, if_neg (fun z => (zin_m _ _ _).mp z ⟨h0, h255⟩), b121_13, ety, if_neg (by rw [L150]; exact fun z => hf ((nI_eq (by omega) (by decide)).mp z)), b121_26 _ _ _ _ _ (by rw [ety]; exact hin), ety, nI_clamp (by omega), znar s, zUn _ (zby s) (Or.inl (by decide)), ety, nI_1, zUs]
      · obtain ⟨h1, h2, h3, h4, h5, h6, h7, h8, h9, h10, h11, h12, h13, h14, h15⟩ := hI
        refine ⟨h1, h2, h3, h4, h5, h6, h7, h8, h9, h10, h11, h12, h13, ?_, ?_⟩
        · show S 17 0 + 1 ≤ 150
          omega
        · intro j hj
          have hj' : j < S 17 0 + 1 := hj
          show (if j = S 17 0 then s else S 16 j) < 256
          split
          · exact hs
          · exact h15 j (by omega)
      · have he : ∀ c j, c ≠ 1 → c ≠ 2 → c < 173 → zU (zU (zU (zU i 2 (S 17 0) (nI s)) 1 1 (nI (S 17 0 + 1))) 174 (S 17 0) (zby s)) 173 1 (nI (S 17 0 + 1)) c j = i c j := by
          intro c j h1 h2 h3
          rw [zUn _ _ (Or.inl (by omega)), zUn _ _ (Or.inl (by omega)), zUn _ _ (Or.inl (by omega)), zUn _ _ (Or.inl (by omega))]
        refine XR.mk (hX.xl.congr (fun c j h1 h2 => he c j (by omega) (by omega) (by omega))) (hX.now.congr (fun c j h1 h2 => he c j (by omega) (by omega) (by omega))) (hX.past.congr (fun c j h1 h2 => he c j (by omega) (by omega) (by omega))) (hX.xg.congr (fun c j h1 h2 => he c j (by omega) (by omega) (by omega))) (hX.xe.congr (fun c j h1 h2 => he c j (by omega) (by omega) (by omega))) ⟨fun j hj => ?_, ?_⟩
        · have hj' : j < S 17 0 + 1 := hj
          rw [zUn _ _ (Or.inl (by decide)), zUn _ _ (Or.inl (by decide)), zUn _ _ (Or.inl (by decide))]
          show _ = nI (if j = S 17 0 then s else S 16 j)
          by_cases e : j = S 17 0
          · rw [if_pos e, e, zUs]
          · rw [if_neg e, zUn _ _ (Or.inr e)]
            exact hX.tx (by omega)
        · rw [zUn _ _ (Or.inl (by decide)), zUn _ _ (Or.inl (by decide)), zUs]
          rfl
      · have he : ∀ c j, 2 < c → c ≠ 174 → (c ≠ 173 ∨ j ≠ 1) → zU (zU (zU (zU i 2 (S 17 0) (nI s)) 1 1 (nI (S 17 0 + 1))) 174 (S 17 0) (zby s)) 173 1 (nI (S 17 0 + 1)) c j = i c j := by
          intro c j h1 h2 h3
          rw [zUn _ _ h3, zUn _ _ (Or.inl h2), zUn _ _ (Or.inl (by omega)), zUn _ _ (Or.inl (by omega))]
        refine MR.mk (hM.ml.congr (fun c j h1 h2 => he c j (by omega) (by omega) (by omega))) (fun j hj => (he _ _ (by omega) (by omega) (by omega)).trans (hM.mn j hj)) (hM.mp.congr (fun c j h1 h2 => he c j (by omega) (by omega) (by omega))) (hM.me.congr (fun c j h1 => he c j (by omega) (by omega) (by omega))) ⟨fun j hj => ?_, ?_⟩
        · have hj' : j < S 17 0 + 1 := hj
          rw [zUn _ _ (Or.inl (by decide))]
          show _ = zby (if j = S 17 0 then s else S 16 j)
          by_cases e : j = S 17 0
          · rw [if_pos e, e, zUs]
          · rw [if_neg e, zUn _ _ (Or.inr e), zUn _ _ (Or.inl (by decide)), zUn _ _ (Or.inl (by decide))]
            exact hM.tx (by omega)
        · rw [zUs]
          rfl
  · refine zOp_p (r := .int (-1)) h ?_ ?_
    · rw [b74_0]
      by_cases h1 : w < 0
      · rw [if_pos h1, b74_11]
      · rw [if_neg h1, b74_4, if_neg (fun z => hn ⟨Int32.not_lt.mp h1, z⟩), b74_11]
    · rw [b121_0, c_in, Option.bind_some]
      dsimp only
      rw [b121_8, if_pos ((zin_m _ _ _).mpr hn), b121_11]
/-- clear -/
def sTn (S : zS) (n : Nat) : zS := zRw S 17 (fun _ => n)
theorem op_clear (sc : zScr) {S : zS} {i : Nat → Nat → Int32} (b : Bool) {l : Nat → Nat → Int64} (h : Rl S i l) : zOp sc 75 122 [some (.ref 0), none] [some (.ref 173), none] i b l := by
  obtain ⟨hI, hX, hM, hL⟩ := id h
  refine ⟨.int (nI (S 17 0)), zU i 1 1 0, b, l, zU (zU i 1 1 0) 173 1 0, l, sTn S 0, ?_, ?_, ?_, ?_, ?_, hL⟩
  · rw [b75_0, hX.ty]
  · rw [b122_0, zUn _ _ (Or.inl (by decide)), hM.ty]
  · obtain ⟨h1, h2, h3, h4, h5, h6, h7, h8, h9, h10, h11, h12, h13, h14, h15⟩ := hI
    exact ⟨h1, h2, h3, h4, h5, h6, h7, h8, h9, h10, h11, h12, h13, Nat.zero_le _, fun j hj => absurd hj (Nat.not_lt_zero _)⟩
  · have he : ∀ c j, c ≠ 1 → c < 173 → zU (zU i 1 1 0) 173 1 0 c j = i c j := fun c j h1 h2 => by rw [zUn _ _ (Or.inl (by omega)), zUn _ _ (Or.inl (by omega))]
    refine XR.mk (hX.xl.congr (fun c j h1 h2 => he c j (by omega) (by omega))) (hX.now.congr (fun c j h1 h2 => he c j (by omega) (by omega))) (hX.past.congr (fun c j h1 h2 => he c j (by omega) (by omega))) (hX.xg.congr (fun c j h1 h2 => he c j (by omega) (by omega))) (hX.xe.congr (fun c j h1 h2 => he c j (by omega) (by omega))) ⟨fun j hj => absurd hj (Nat.not_lt_zero _), ?_⟩
    rw [zUn _ _ (Or.inl (by decide)), zUs]
    rfl
  · have he : ∀ c j, 1 < c → (c ≠ 173 ∨ j ≠ 1) → zU (zU i 1 1 0) 173 1 0 c j = i c j := fun c j h1 h2 => by rw [zUn _ _ h2, zUn _ _ (Or.inl (by omega))]
    refine MR.mk (hM.ml.congr (fun c j h1 h2 => he c j (by omega) (by omega))) (fun j hj => (he _ _ (by omega) (by omega)).trans (hM.mn j hj)) (hM.mp.congr (fun c j h1 h2 => he c j (by omega) (by omega))) (hM.me.congr (fun c j h1 => he c j (by omega) (by omega))) ⟨fun j hj => absurd hj (Nat.not_lt_zero _), ?_⟩
    rw [zUs]
    rfl
/-- forget -/
theorem op_forget (sc : zScr) {S : zS} {i : Nat → Nat → Int32} (b : Bool) {l : Nat → Nat → Int64} (h : Rl S i l) : zOp sc 91 162 [some (.ref 0), none] [some (.ref 173), none] i b l := by
  obtain ⟨hI, hX, hM, hL⟩ := id h
  refine ⟨.int (nI (S 15 0)), zU i 67 6 0, b, l, zU (zU i 67 6 0) 173 26 0, l, zRw S 15 (fun _ => 0), ?_, ?_, ?_, ?_, ?_, hL⟩
  · rw [b91_0, hX.hd]
  · rw [b162_0, zUn _ _ (Or.inl (by decide)), hM.hd]
  · obtain ⟨h1, h2, h3, h4, h5, h6, h7, h8, h9, h10, h11, h12, h13, h14, h15⟩ := hI
    exact ⟨h1, h2, h3, h4, h5, h6, h7, h8, h9, h10, h11, Nat.zero_le _, fun j hj => absurd hj (Nat.not_lt_zero _), h14, h15⟩
  · have he : ∀ c j, c ≠ 67 → c < 173 → zU (zU i 67 6 0) 173 26 0 c j = i c j := fun c j h1 h2 => by rw [zUn _ _ (Or.inl (by omega)), zUn _ _ (Or.inl (by omega))]
    refine XR.mk (hX.xl.congr (fun c j h1 h2 => he c j (by omega) (by omega))) (hX.now.congr (fun c j h1 h2 => he c j (by omega) (by omega))) (hX.past.congr (fun c j h1 h2 => he c j (by omega) (by omega))) (hX.xg.congr (fun c j h1 h2 => he c j (by omega) (by omega))) ⟨fun j hj => absurd hj (Nat.not_lt_zero _), ?_⟩ (hX.xt.congr (fun c j h1 => he c j (by omega) (by omega)))
    rw [zUn _ _ (Or.inl (by decide)), zUs]
    rfl
  · have he : ∀ c j, 172 < c → (c ≠ 173 ∨ j ≠ 26) → zU (zU i 67 6 0) 173 26 0 c j = i c j := fun c j h1 h2 => by rw [zUn _ _ h2, zUn _ _ (Or.inl (by omega))]
    refine MR.mk (hM.ml.congr (fun c j h1 h2 => he c j (by omega) (by omega))) (fun j hj => (he _ _ (by omega) (by omega)).trans (hM.mn j hj)) (hM.mp.congr (fun c j h1 h2 => he c j (by omega) (by omega))) ⟨fun j hj => (he _ _ (by omega) (by omega)).trans (hM.me.1 j hj), ?_⟩ (hM.mt.congr (fun c j h1 => he c j (by omega) (by omega)))
    rw [zUs]
    rfl
/-- hears -/
theorem zin43' (w : Int32) : (∃ s, 1 ≤ s ∧ s ≤ 43 ∧ w = nI s) ∨ ¬ (1 ≤ w ∧ w ≤ 43) := by
  rcases zix w 44 (by decide) with ⟨s, hs, rfl⟩ | h
  · by_cases h0 : 1 ≤ s
    · exact Or.inl ⟨s, h0, by omega, rfl⟩
    · refine Or.inr (fun z => ?_)
      have := (nI_leI (a := 1) (b := s) (by decide) (by omega)).mp z.1
      omega
  · refine Or.inr (fun z => h ⟨?_, ?_⟩)
    · have h1 := Int32.le_iff_toInt_le.mp z.1
      rw [show (1 : Int32).toInt = 1 from rfl] at h1
      rw [Int32.le_iff_toInt_le, show (0 : Int32).toInt = 0 from rfl]
      omega
    · have h1 := Int32.le_iff_toInt_le.mp z.2
      rw [show (43 : Int32).toInt = 43 from rfl] at h1
      rw [Int32.lt_iff_toInt_lt, nI_toInt (by decide)]
      omega
def sHr (S : zS) (w : Nat) : zS := zRw (zRw S 14 (fun t => if t = S 15 0 then w else S 14 t)) 15 (fun _ => S 15 0 + 1)
theorem op_hears (sc : zScr) {S : zS} {i : Nat → Nat → Int32} (b : Bool) {l : Nat → Nat → Int64} (h : Rl S i l) (w : Int32) : zOp sc 90 161 [some (.ref 0), some (.int w)] [some (.ref 173), some (.int w)] i b l := by
  obtain ⟨hI, hX, hM, hL⟩ := id h
  have hT := hI.heard
  rcases zin43' w with ⟨s, hs1, hs, rfl⟩ | hn
  · have h0 : (1 : Int32) ≤ nI s := (nI_leI (a := 1) (by decide) (by omega)).mpr hs1
    have h43 : nI s ≤ 43 := by rw [L43]; exact (nI_leI (by omega) (by decide)).mpr (by omega)
    by_cases hf : S 15 0 = 6
    · refine zOp_p (r := .int (-3)) h ?_ ?_
      · rw [b90_0, if_neg (Int32.not_lt.mpr h0), b90_5, if_pos h43, b90_13, b20_0, hX.hd, if_neg (by rw [hf]; decide), b20_9, Option.bind_some]
        dsimp only
        rw [b90_21, if_pos rfl, b90_34, b90_36]
      · rw [b161_0, c_in, Option.bind_some]
        dsimp only
        rw [b161_7, if_neg (fun z => (zin_m _ _ _).mp z ⟨h0, h43⟩), b161_12, hM.hd, if_pos (by rw [hf]; rfl), b161_21]
    · have hlt : S 15 0 < 6 := by omega
      have hin : vp_in (nI (S 15 0)) 6 := vp_in_nI (by omega) (by decide)
      have ex : zU i 68 (S 15 0) (nI s) 67 6 = nI (S 15 0) := by rw [zUn _ _ (Or.inl (by decide)), hX.hd]
      refine ⟨.int (nI (S 15 0 + 1)), zU (zU i 68 (S 15 0) (nI s)) 67 6 (nI (S 15 0 + 1)), b, l, zU (zU (zU (zU i 68 (S 15 0) (nI s)) 67 6 (nI (S 15 0 + 1))) 192 (S 15 0) (nI s)) 173 26 (nI (S 15 0 + 1)), l, sHr S s, ?_, ?_, ?_, ?_, ?_, hL⟩
      · rw [b90_0, if_neg (Int32.not_lt.mpr h0), b90_5, if_pos h43, b90_13, b20_0, hX.hd, if_pos (by rw [L6]; exact (nI_ltI (by omega) (by decide)).mpr hlt), b20_11 _ _ _ _ _ (by rw [hX.hd]; exact hin), hX.hd, nI_clamp (by omega), ex, nI_1, Option.bind_some]
        dsimp only
        rw [b90_21, if_neg (by decide), b90_24, b90_36, zUs]
      · have ety : ∀ v u : Int32, zU (zU i 68 (S 15 0) v) 67 6 u 173 26 = nI (S 15 0) := fun v u => by rw [zUn _ _ (Or.inl (by decide)), zUn _ _ (Or.inl (by decide)), hM.hd]
        rw [b161_0, c_in, Option.bind_some]
        dsimp only
        rw [b161_7, if_neg (fun z => (zin_m _ _ _).mp z ⟨h0, h43⟩), b161_12, ety, if_neg (by rw [L6]; exact fun z => hf ((nI_eq (by omega) (by decide)).mp z)), b161_24 _ _ _ _ _ (by rw [ety]; exact hin), ety, nI_clamp (by omega), zUn (a := 192) _ _ (Or.inl (by decide)), ety, nI_1, zUs]
      · obtain ⟨h1, h2, h3, h4, h5, h6, h7, h8, h9, h10, h11, h12, h13, h14, h15⟩ := hI
        refine ⟨h1, h2, h3, h4, h5, h6, h7, h8, h9, h10, h11, ?_, ?_, h14, h15⟩
        · show S 15 0 + 1 ≤ 6
          omega
        · intro j hj
          have hj' : j < S 15 0 + 1 := hj
          show (if j = S 15 0 then s else S 14 j) ≤ 43
          split
          · exact hs
          · exact h13 j (by omega)
      · have he : ∀ c j, c ≠ 67 → c ≠ 68 → c < 173 → zU (zU (zU (zU i 68 (S 15 0) (nI s)) 67 6 (nI (S 15 0 + 1))) 192 (S 15 0) (nI s)) 173 26 (nI (S 15 0 + 1)) c j = i c j := by
          intro c j h1 h2 h3
          rw [zUn _ _ (Or.inl (by omega)), zUn _ _ (Or.inl (by omega)), zUn _ _ (Or.inl (by omega)), zUn _ _ (Or.inl (by omega))]
        refine XR.mk (hX.xl.congr (fun c j h1 h2 => he c j (by omega) (by omega) (by omega))) (hX.now.congr (fun c j h1 h2 => he c j (by omega) (by omega) (by omega))) (hX.past.congr (fun c j h1 h2 => he c j (by omega) (by omega) (by omega))) (hX.xg.congr (fun c j h1 h2 => he c j (by omega) (by omega) (by omega))) ⟨fun j hj => ?_, ?_⟩ (hX.xt.congr (fun c j h1 => he c j (by omega) (by omega) (by omega)))
        · have hj' : j < S 15 0 + 1 := hj
          rw [zUn _ _ (Or.inl (by decide)), zUn _ _ (Or.inl (by decide)), zUn _ _ (Or.inl (by decide))]
          show _ = nI (if j = S 15 0 then s else S 14 j)
          by_cases e : j = S 15 0
          · rw [if_pos e, e, zUs]
          · rw [if_neg e, zUn _ _ (Or.inr e)]
            exact hX.ear (by omega)
        · rw [zUn _ _ (Or.inl (by decide)), zUn _ _ (Or.inl (by decide)), zUs]
          rfl
      · have he : ∀ c j, 172 < c → c ≠ 192 → (c ≠ 173 ∨ j ≠ 26) → zU (zU (zU (zU i 68 (S 15 0) (nI s)) 67 6 (nI (S 15 0 + 1))) 192 (S 15 0) (nI s)) 173 26 (nI (S 15 0 + 1)) c j = i c j := by
          intro c j h1 h2 h3
          rw [zUn _ _ h3, zUn _ _ (Or.inl h2), zUn _ _ (Or.inl (by omega)), zUn _ _ (Or.inl (by omega))]
        refine MR.mk (hM.ml.congr (fun c j h1 h2 => he c j (by omega) (by omega) (by omega))) (fun j hj => (he _ _ (by omega) (by omega) (by omega)).trans (hM.mn j hj)) (hM.mp.congr (fun c j h1 h2 => he c j (by omega) (by omega) (by omega))) ⟨fun j hj => ?_, ?_⟩ (hM.mt.congr (fun c j h1 => he c j (by omega) (by omega) (by omega)))
        · rw [zUn _ _ (Or.inl (by decide))]
          show _ = nI (if j = S 15 0 then s else S 14 j)
          by_cases e : j = S 15 0
          · rw [if_pos e, e, zUs]
          · rw [if_neg e, zUn _ _ (Or.inr e), zUn _ _ (Or.inl (by decide)), zUn _ _ (Or.inl (by decide))]
            exact hM.ear (by omega)
        · rw [zUs]
          rfl
  · refine zOp_p (r := .int (-1)) h ?_ ?_
    · rw [b90_0]
      by_cases h1 : w < 1
      · rw [if_pos h1, b90_11]
      · rw [if_neg h1, b90_5, if_neg (fun z => hn ⟨Int32.not_lt.mp h1, z⟩), b90_11]
    · rw [b161_0, c_in, Option.bind_some]
      dsimp only
      rw [b161_7, if_pos ((zin_m _ _ _).mpr hn), b161_10]
