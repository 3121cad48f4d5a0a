/-! now: the model's question of a set of strings -/
def sQ1 (S : zS) (s f : Nat) : Nat → Nat → Nat → Nat
  | 0, _, a => a
  | n + 1, g, a => sQ1 S s f n (g + 1) (if a = 1 ∧ (zbt s f = 1 ∨ zbt s g = 1 ∨ sAl S f g = 0) then 1 else 0)
def sQ2 (S : zS) (s : Nat) : Nat → Nat → Nat → Nat
  | 0, _, a => a
  | n + 1, f, a => sQ2 S s n (f + 1) (sQ1 S s f (S 1 0 - (f + 1)) (f + 1) a)
theorem sQ1_01 (S : zS) (s f : Nat) : ∀ n g a, (a = 0 ∨ a = 1) → (sQ1 S s f n g a = 0 ∨ sQ1 S s f n g a = 1)
  | 0, _, _, h => h
  | n + 1, g, a, h => sQ1_01 S s f n (g + 1) _ (by split <;> simp)
theorem sQ2_01 (S : zS) (s : Nat) : ∀ n f a, (a = 0 ∨ a = 1) → (sQ2 S s n f a = 0 ∨ sQ2 S s n f a = 1)
  | 0, _, _, h => h
  | n + 1, f, a, h => sQ2_01 S s n (f + 1) _ (sQ1_01 S s f _ _ a h)
theorem sQ1_iff (S : zS) (s f : Nat) : ∀ n g a, sQ1 S s f n g a = 1 ↔ a = 1 ∧ ∀ t, g ≤ t → t < g + n → (zbt s f = 1 ∨ zbt s t = 1 ∨ sAl S f t = 0)
  | 0, g, a => ⟨fun h => ⟨h, fun t h1 h2 => by omega⟩, fun h => h.1⟩
  | n + 1, g, a => by
    show sQ1 S s f n (g + 1) (if a = 1 ∧ (zbt s f = 1 ∨ zbt s g = 1 ∨ sAl S f g = 0) then 1 else 0) = 1 ↔ _
    rw [sQ1_iff S s f n (g + 1)]
    constructor
    · rintro ⟨h1, h2⟩
      by_cases q : a = 1 ∧ (zbt s f = 1 ∨ zbt s g = 1 ∨ sAl S f g = 0)
      · refine ⟨q.1, fun t h3 h4 => ?_⟩
        by_cases e : t = g
        · rw [e]; exact q.2
        · exact h2 t (by omega) (by omega)
      · rw [if_neg q] at h1
        cases h1
    · rintro ⟨h1, h2⟩
      exact ⟨if_pos ⟨h1, h2 g (Nat.le_refl _) (by omega)⟩, fun t h3 h4 => h2 t (by omega) (by omega)⟩
theorem sQ2_iff (S : zS) (s : Nat) : ∀ n f a, f + n = S 1 0 → (sQ2 S s n f a = 1 ↔ a = 1 ∧ ∀ u, f ≤ u → u < S 1 0 → ∀ t, u < t → t < S 1 0 → (zbt s u = 1 ∨ zbt s t = 1 ∨ sAl S u t = 0))
  | 0, f, a, hf => ⟨fun h => ⟨h, fun u h1 h2 => by omega⟩, fun h => h.1⟩
  | n + 1, f, a, hf => by
    show sQ2 S s n (f + 1) (sQ1 S s f (S 1 0 - (f + 1)) (f + 1) a) = 1 ↔ _
    rw [sQ2_iff S s n (f + 1) _ (by omega), sQ1_iff]
    constructor
    · rintro ⟨⟨h1, h2⟩, h3⟩
      refine ⟨h1, fun u h4 h5 t h6 h7 => ?_⟩
      by_cases e : u = f
      · subst e
        exact h2 t (by omega) (by omega)
      · exact h3 u (by omega) h5 t h6 h7
    · rintro ⟨h1, h2⟩
      exact ⟨⟨h1, fun t h3 h4 => h2 f (Nat.le_refl _) (by omega) t (by omega) (by omega)⟩, fun u h3 h4 => h2 u (by omega) h4⟩
theorem c_mQ1 (sc : zScr) {S : zS} {s f : Nat} (hI : Inv S) (hs : s < 256) (hf : f < S 1 0) (i : Nat → Nat → Int32) (hM : MR S i) (b : Bool) (l : Nat → Nat → Int64) : ∀ (n g a : Nat), f < g → g + n = S 1 0 → (a = 0 ∨ a = 1) → zev sc (155, 19, [some (.ref 173), some (.int (nI s)), some (.int (nI a)), some (.int (nI f)), some (.int (nI g))], [], (197, i, zRF b, l)) = zev sc (155, 4, [some (.ref 173), some (.int (nI s)), some (.int (nI (sQ1 S s f n g a))), some (.int (nI (f + 1))), some (.int (nI (S 1 0)))], [], (197, i, zRF b, l))
  | 0, g, a, hfg, hg, ha => by
    have e : g = S 1 0 := by omega
    subst e
    rw [b155_19, hM.E, if_pos (Int32.le_refl _), b155_73, nI_1]
    rfl
  | n + 1, g, a, hfg, hg, ha => by
    have hE := hI.E
    have ih := c_mQ1 sc hI hs hf i hM b l n (g + 1) (if a = 1 ∧ (zbt s f = 1 ∨ zbt s g = 1 ∨ sAl S f g = 0) then 1 else 0) (by omega) (by omega) (by split <;> simp)
    have one : ∀ v, (a = 1 ∧ (zbt s f = 1 ∨ zbt s g = 1 ∨ sAl S f g = 0)) → zev sc (155, 61, [some (.ref 173), some (.int (nI s)), some (.int v), some (.int (nI f)), some (.int (nI g))], [], (197, i, zRF b, l)) = zev sc (155, 19, [some (.ref 173), some (.int (nI s)), some (.int (nI (if a = 1 ∧ (zbt s f = 1 ∨ zbt s g = 1 ∨ sAl S f g = 0) then 1 else 0))), some (.int (nI f)), some (.int (nI (g + 1)))], [], (197, i, zRF b, l)) := by
      intro v h
      rw [b155_61, b155_66, nI_1, if_pos h]
      rfl
    have zero : ∀ v, ¬ (a = 1 ∧ (zbt s f = 1 ∨ zbt s g = 1 ∨ sAl S f g = 0)) → zev sc (155, 65, [some (.ref 173), some (.int (nI s)), some (.int v), some (.int (nI f)), some (.int (nI g))], [], (197, i, zRF b, l)) = zev sc (155, 19, [some (.ref 173), some (.int (nI s)), some (.int (nI (if a = 1 ∧ (zbt s f = 1 ∨ zbt s g = 1 ∨ sAl S f g = 0) then 1 else 0))), some (.int (nI f)), some (.int (nI (g + 1)))], [], (197, i, zRF b, l)) := by
      intro v h
      rw [b155_65, b155_66, nI_1, if_neg h]
      rfl
    refine Eq.trans ?_ ih
    rw [b155_19, hM.E, if_neg (zq_nle (by omega) (by omega)), b155_30]
    rcases ha with ha | ha
    · rw [if_pos (by rw [ha]; rfl)]
      exact zero _ (by omega)
    rw [if_neg (by rw [ha]; decide), b155_34, c_has sc (by omega) (by omega), Option.bind_some]
    dsimp only
    rw [b155_39]
    rcases zbt_01 s f with q1 | q1
    · rw [q1, if_pos (show nI 0 = 0 from rfl), b155_42, c_has sc (by omega) (by omega), Option.bind_some]
      dsimp only
      rw [b155_48]
      rcases zbt_01 s g with q2 | q2
      · rw [q2, if_pos (show nI 0 = 0 from rfl), b155_51, c_mAl sc hI hf (by omega) (by omega) i hM, Option.bind_some]
        dsimp only
        rw [b155_58]
        rw [q1, q2] at one zero
        rcases sAl_01 S f g with q3 | q3
        · rw [q3] at one ⊢
          rw [if_pos (show nI 0 = 0 from rfl)]
          exact one _ (by omega)
        · rw [q3] at zero ⊢
          rw [if_neg (show ¬ nI 1 = 0 by decide)]
          exact zero _ (by omega)
      · rw [q2, if_neg (show ¬ nI 1 = 0 by decide)]
        rw [q1, q2] at one
        exact one _ (by omega)
    · rw [q1, if_neg (show ¬ nI 1 = 0 by decide)]
      rw [q1] at one
      exact one _ (by omega)
theorem c_mQ2 (sc : zScr) {S : zS} {s : Nat} (hI : Inv S) (hs : s < 256) (i : Nat → Nat → Int32) (hM : MR S i) (b : Bool) (l : Nat → Nat → Int64) : ∀ (n f a : Nat) (w : Option Value), f + n = S 1 0 → (a = 0 ∨ a = 1) → zev sc (155, 4, [some (.ref 173), some (.int (nI s)), some (.int (nI a)), some (.int (nI f)), w], [], (197, i, zRF b, l)) = some (.int (nI (sQ2 S s n f a)), (197, i, zRF b, l))
  | 0, f, a, w, hf, ha => by
    have e : f = S 1 0 := by omega
    subst e
    rw [b155_4, hM.E, if_pos (Int32.le_refl _), b155_79 _ _ _ _ _ _ _ _ (ha.elim (fun z => Or.inl (by rw [z]; rfl)) (fun z => Or.inr (by rw [z]; rfl)))]
    rfl
  | n + 1, f, a, w, hf, ha => by
    have hE := hI.E
    rw [b155_4, hM.E, if_neg (zq_nle (by omega) (by omega)), b155_14, nI_1, c_mQ1 sc hI hs (f := f) (by omega) i hM b l (S 1 0 - (f + 1)) (f + 1) a (by omega) (by omega) ha]
    exact c_mQ2 sc hI hs i hM b l n (f + 1) _ _ (by omega) (sQ1_01 S s f _ _ a ha)
/-- it is the class's -/
theorem sQ_ho {S : zS} (hI : Inv S) (s : Nat) : sQ2 S s (S 1 0) 0 1 = if sHo (fun f => sPn S f (S 1 0)) s (S 1 0) then 1 else 0 := by
  have hE := hI.E
  have h01 := sQ2_01 S s (S 1 0) 0 1 (Or.inr rfl)
  have hiff := sQ2_iff S s (S 1 0) 0 1 (by omega)
  have key : sQ2 S s (S 1 0) 0 1 = 1 ↔ sHo (fun f => sPn S f (S 1 0)) s (S 1 0) := by
    rw [hiff]
    constructor
    · rintro ⟨-, h⟩ t ht
      by_cases q : zbt s t = 1
      · exact Or.inl q
      · refine Or.inr (fun g hg h1 => ?_)
        rw [zbt_pn] at h1
        by_cases hgE : g < S 1 0
        · rw [if_pos hgE] at h1
          have h2 : t < g ∧ sAl S t g = 1 := Decidable.byContradiction (fun z => by rw [show sBhd S t g = 0 from if_neg z] at h1; omega)
          have := h t (Nat.zero_le _) ht g h2.1 hgE
          omega
        · rw [if_neg hgE] at h1
          omega
    · intro h
      refine ⟨rfl, fun u _ hu t hut ht => ?_⟩
      rcases sAl_01 S u t with q | q
      · exact Or.inr (Or.inr q)
      · rcases h u hu with h1 | h1
        · exact Or.inl h1
        · refine Or.inr (Or.inl (h1 t (by omega) ?_))
          rw [zbt_pn, if_pos ht]
          exact if_pos ⟨by omega, q⟩
  by_cases h : sHo (fun f => sPn S f (S 1 0)) s (S 1 0)
  · rw [if_pos h]; exact key.mpr h
  · rw [if_neg h]
    rcases h01 with z | z
    · exact z
    · exact absurd (key.mp z) h
