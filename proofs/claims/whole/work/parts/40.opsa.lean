/-! now: the fewest that have one of each two: up and down come to the same -/
def sFw (P : Nat → Prop) [DecidablePred P] (A : Nat) : Nat → Nat
  | 0 => A
  | n + 1 => if zpc n < zpc (sFw P A n) ∧ P n then n else sFw P A n
def sGw (P : Nat → Prop) [DecidablePred P] (A : Nat) : Nat → Nat
  | 0 => A
  | d + 1 => if zpc (A - d) ≤ zpc (sGw P A d) ∧ P (A - d) then A - d else sGw P A d
def zLm (Q : Nat → Prop) (c : Nat) : Prop := Q c ∧ ∀ s, Q s → zpc c < zpc s ∨ (zpc c = zpc s ∧ c ≤ s)
theorem zLm_one {Q : Nat → Prop} {c d : Nat} (h1 : zLm Q c) (h2 : zLm Q d) : c = d := by
  have g1 := h1.2 d h2.1
  have g2 := h2.2 c h1.1
  omega
theorem zpc_all : ∀ k, k ≤ 8 → ∀ s, s < 2 ^ k - 1 → zpc s < zpc (2 ^ k - 1) := by decide +kernel
theorem sFw_lm {P : Nat → Prop} [DecidablePred P] {A : Nat} (hA : ∀ s, s < A → zpc s < zpc A) : ∀ n, n ≤ A + 1 → zLm (fun s => s = A ∨ (s < n ∧ P s)) (sFw P A n)
  | 0, _ => ⟨Or.inl rfl, fun s hs => hs.elim (fun e => Or.inr (by rw [e]; exact ⟨rfl, Nat.le_refl _⟩)) (fun z => absurd z.1 (Nat.not_lt_zero _))⟩
  | n + 1, hn => by
    obtain ⟨h1, h2⟩ := sFw_lm (P := P) hA n (by omega)
    unfold sFw
    by_cases hc : zpc n < zpc (sFw P A n) ∧ P n
    · rw [if_pos hc]
      refine ⟨Or.inr ⟨by omega, hc.2⟩, fun s hs => ?_⟩
      by_cases e : s = n
      · subst e
        exact Or.inr ⟨rfl, Nat.le_refl _⟩
      · have := h2 s (hs.elim Or.inl (fun z => Or.inr ⟨by omega, z.2⟩))
        exact Or.inl (by omega)
    · rw [if_neg hc]
      refine ⟨h1.elim Or.inl (fun z => Or.inr ⟨by omega, z.2⟩), fun s hs => ?_⟩
      by_cases e : s = n ∧ P s
      · obtain ⟨e, hp⟩ := e
        subst e
        have hle : ¬ zpc s < zpc (sFw P A s) := fun z => hc ⟨z, hp⟩
        by_cases q : zpc (sFw P A s) = zpc s
        · refine Or.inr ⟨q, ?_⟩
          rcases h1 with g | g
          · by_cases e2 : s = A
            · omega
            · have := hA s (by omega)
              rw [g] at q
              omega
          · omega
        · exact Or.inl (by omega)
      · refine h2 s (hs.elim Or.inl (fun z => Or.inr ⟨?_, z.2⟩))
        have : s ≠ n := fun g => e ⟨g, z.2⟩
        omega
theorem sGw_lm {P : Nat → Prop} [DecidablePred P] {A : Nat} : ∀ d, d ≤ A + 1 → zLm (fun s => s = A ∨ ((A < s + d ∧ s ≤ A) ∧ P s)) (sGw P A d)
  | 0, _ => ⟨Or.inl rfl, fun s hs => hs.elim (fun e => Or.inr (by rw [e]; exact ⟨rfl, Nat.le_refl _⟩)) (fun z => by omega)⟩
  | d + 1, hd => by
    obtain ⟨h1, h2⟩ := sGw_lm (P := P) (A := A) d (by omega)
    unfold sGw
    by_cases hc : zpc (A - d) ≤ zpc (sGw P A d) ∧ P (A - d)
    · rw [if_pos hc]
      refine ⟨Or.inr ⟨⟨by omega, by omega⟩, hc.2⟩, fun s hs => ?_⟩
      by_cases e : s = A - d
      · subst e
        exact Or.inr ⟨rfl, Nat.le_refl _⟩
      · have hs' : A - d ≤ s := by
          rcases hs with z | z
          · omega
          · have := z.1
            omega
        have := h2 s (hs.elim Or.inl (fun z => Or.inr ⟨by have := z.1; omega, z.2⟩))
        by_cases q : zpc (A - d) = zpc s
        · exact Or.inr ⟨q, hs'⟩
        · exact Or.inl (by omega)
    · rw [if_neg hc]
      refine ⟨h1.elim Or.inl (fun z => Or.inr ⟨by have := z.1; omega, z.2⟩), fun s hs => ?_⟩
      by_cases e : s = A - d ∧ P s
      · obtain ⟨e, hp⟩ := e
        subst e
        have hle : ¬ zpc (A - d) ≤ zpc (sGw P A d) := fun z => hc ⟨z, hp⟩
        exact Or.inl (by omega)
      · refine h2 s (hs.elim Or.inl (fun z => Or.inr ⟨?_, z.2⟩))
        have : s ≠ A - d := fun g => e ⟨g, z.2⟩
        have := z.1
        omega
theorem sFG {P : Nat → Prop} [DecidablePred P] {A : Nat} (hA : ∀ s, s < A → zpc s < zpc A) : sGw P A (A + 1) = sFw P A (A + 1) := by
  have h1 := sFw_lm (P := P) hA (A + 1) (Nat.le_refl _)
  obtain ⟨g1, g2⟩ := sGw_lm (P := P) (A := A) (A + 1) (Nat.le_refl _)
  refine zLm_one (Q := fun s => s = A ∨ (s < A + 1 ∧ P s)) ⟨g1.elim Or.inl (fun z => Or.inr ⟨by have := z.1; omega, z.2⟩), fun s hs => g2 s (hs.elim Or.inl (fun z => Or.inr ⟨⟨by omega, by omega⟩, z.2⟩))⟩ h1
theorem sFw_le {P : Nat → Prop} [DecidablePred P] {A : Nat} : ∀ n, n ≤ A + 1 → sFw P A n ≤ A
  | 0, _ => Nat.le_refl _
  | n + 1, hn => by
    unfold sFw
    split
    · omega
    · exact sFw_le n (by omega)
theorem sGw_le {P : Nat → Prop} [DecidablePred P] {A : Nat} : ∀ n, sGw P A n ≤ A
  | 0 => Nat.le_refl _
  | n + 1 => by
    unfold sGw
    split
    · omega
    · exact sGw_le n
