/-! now: the model's question of a set of fields -/
def sH1 (S : zS) (s : Nat) : Nat → Nat → Nat → Nat
  | 0, _, a => a
  | n + 1, f, a => sH1 S s n (f + 1) (if a = 1 ∧ (sStr S f = 0 ∨ zbt s (S 4 f) = 1 ∨ zbt s (S 5 f) = 1) then 1 else 0)
theorem sH1_01 (S : zS) (s : Nat) : ∀ n f a, (a = 0 ∨ a = 1) → (sH1 S s n f a = 0 ∨ sH1 S s n f a = 1)
  | 0, _, _, h => h
  | n + 1, f, a, h => sH1_01 S s n (f + 1) _ (by split <;> simp)
theorem sH1_iff (S : zS) (s : Nat) : ∀ n f a, sH1 S s n f a = 1 ↔ a = 1 ∧ ∀ t, f ≤ t → t < f + n → (sStr S t = 0 ∨ zbt s (S 4 t) = 1 ∨ zbt s (S 5 t) = 1)
  | 0, f, a => ⟨fun h => ⟨h, fun t h1 h2 => by omega⟩, fun h => h.1⟩
  | n + 1, f, a => by
    show sH1 S s n (f + 1) (if a = 1 ∧ (sStr S f = 0 ∨ zbt s (S 4 f) = 1 ∨ zbt s (S 5 f) = 1) then 1 else 0) = 1 ↔ _
    rw [sH1_iff S s n (f + 1)]
    constructor
    · rintro ⟨h1, h2⟩
      by_cases q : a = 1 ∧ (sStr S f = 0 ∨ zbt s (S 4 f) = 1 ∨ zbt s (S 5 f) = 1)
      · refine ⟨q.1, fun t h3 h4 => ?_⟩
        by_cases e : t = f
        · rw [e]; exact q.2
        · exact h2 t (by omega) (by omega)
      · rw [if_neg q] at h1
        cases h1
    · rintro ⟨h1, h2⟩
      exact ⟨if_pos ⟨h1, h2 f (Nat.le_refl _) (by omega)⟩, fun t h3 h4 => h2 t (by omega) (by omega)⟩
theorem c_mH1 (sc : zScr) {S : zS} {s : Nat} (hI : Inv S) (hs : s < 256) (i : Nat → Nat → Int32) (hM : MR S i) (b : Bool) (l : Nat → Nat → Int64) : ∀ (n f a : Nat), f + n = S 1 0 → (a = 0 ∨ a = 1) → zev sc (156, 4, [some (.ref 173), some (.int (nI s)), some (.int (nI a)), some (.int (nI f))], [], (197, i, zRF b, l)) = some (.int (nI (sH1 S s n f a)), (197, i, zRF b, l))
  | 0, f, a, hf, ha => by
    have e : f = S 1 0 := by omega
    subst e
    rw [b156_4, hM.E, if_pos (Int32.le_refl _), b156_64 _ _ _ _ _ _ _ (ha.elim (fun z => Or.inl (by rw [z]; rfl)) (fun z => Or.inr (by rw [z]; rfl)))]
    rfl
  | n + 1, f, a, hf, ha => by
    have hE := hI.E
    have hF := hI.F
    have hff : f < S 1 0 := by omega
    obtain ⟨hl, hr, hlr⟩ := hI.lr f hff
    have hcf : (nI f).toNatClampNeg = f := nI_clamp (by omega)
    have hin : vp_in (nI f) 16 := vp_in_nI (by omega) (by decide)
    have ih := c_mH1 sc hI hs i hM b l n (f + 1) (if a = 1 ∧ (sStr S f = 0 ∨ zbt s (S 4 f) = 1 ∨ zbt s (S 5 f) = 1) then 1 else 0) (by omega) (by split <;> simp)
    refine Eq.trans ?_ ih
    have one : ∀ v, (a = 1 ∧ (sStr S f = 0 ∨ zbt s (S 4 f) = 1 ∨ zbt s (S 5 f) = 1)) → zev sc (156, 52, [some (.ref 173), some (.int (nI s)), some (.int v), some (.int (nI f))], [], (197, i, zRF b, l)) = zev sc (156, 4, [some (.ref 173), some (.int (nI s)), some (.int (nI (if a = 1 ∧ (sStr S f = 0 ∨ zbt s (S 4 f) = 1 ∨ zbt s (S 5 f) = 1) then 1 else 0))), some (.int (nI (f + 1)))], [], (197, i, zRF b, l)) := by
      intro v h
      rw [b156_52, b156_57, nI_1, if_pos h]
      rfl
    have zero : ∀ v, ¬ (a = 1 ∧ (sStr S f = 0 ∨ zbt s (S 4 f) = 1 ∨ zbt s (S 5 f) = 1)) → zev sc (156, 56, [some (.ref 173), some (.int (nI s)), some (.int v), some (.int (nI f))], [], (197, i, zRF b, l)) = zev sc (156, 4, [some (.ref 173), some (.int (nI s)), some (.int (nI (if a = 1 ∧ (sStr S f = 0 ∨ zbt s (S 4 f) = 1 ∨ zbt s (S 5 f) = 1) then 1 else 0))), some (.int (nI (f + 1)))], [], (197, i, zRF b, l)) := by
      intro v h
      rw [b156_56, b156_57, nI_1, if_neg h]
      rfl
    rw [b156_4, hM.E, if_neg (zq_nle (by omega) (by omega)), b156_14]
    rcases ha with ha | ha
    · rw [if_pos (by rw [ha]; rfl)]
      exact zero _ (by omega)
    rw [if_neg (by rw [ha]; decide), b156_18, c_mStr sc hI hff i hM, Option.bind_some]
    dsimp only
    rw [b156_23]
    rcases sStr_01 S f with q1 | q1
    · rw [q1] at one ⊢
      rw [if_pos (show nI 0 = 0 from rfl)]
      exact one _ (by omega)
    rw [q1, if_neg (show ¬ nI 1 = 0 by decide), b156_26 _ _ _ _ _ _ _ hin, hcf, hM.l hff, c_has sc (by omega) (by omega), Option.bind_some]
    dsimp only
    rw [b156_36]
    rcases zbt_01 s (S 4 f) with q2 | q2
    · rw [q2, if_pos (show nI 0 = 0 from rfl), b156_39 _ _ _ _ _ _ _ hin, hcf, hM.r hff, c_has sc (by omega) (by omega), Option.bind_some]
      dsimp only
      rw [b156_49]
      rw [q1, q2] at one zero
      rcases zbt_01 s (S 5 f) with q3 | q3
      · rw [q3] at zero ⊢
        rw [if_pos (show nI 0 = 0 from rfl)]
        exact zero _ (by omega)
      · rw [q3] at one ⊢
        rw [if_neg (show ¬ nI 1 = 0 by decide)]
        exact one _ (by omega)
    · rw [q2, if_neg (show ¬ nI 1 = 0 by decide)]
      rw [q1, q2] at one
      exact one _ (by omega)
