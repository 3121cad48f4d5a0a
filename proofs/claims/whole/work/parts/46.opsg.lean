/-! now: it is the class's -/
theorem zbt_or {p c g : Nat} : zbt (p ||| 2 ^ c) g = 1 ↔ (zbt p g = 1 ∨ c = g) := by
  rw [zbt_testBit, zbt_testBit, Nat.testBit_or, Nat.testBit_two_pow, Bool.or_eq_true, decide_eq_true_iff]
theorem zbt_er {S : zS} (hI : Inv S) (x g : Nat) : ∀ n, n ≤ S 1 0 → (zbt (sEr S n x) g = 1 ↔ ∃ f, f < n ∧ sStr S f = 1 ∧ x = S 4 f ∧ g = S 5 f)
  | 0, _ => by
    constructor
    · intro h
      have : zbt 0 g = 0 := by show 0 / 2 ^ g % 2 = 0; rw [Nat.zero_div]
      rw [show sEr S 0 x = 0 from rfl, this] at h
      cases h
    · rintro ⟨f, hf, -⟩
      omega
  | n + 1, hn => by
    have ih := zbt_er hI x g n (by omega)
    show zbt (if sStr S n = 1 then (if x = S 4 n then sEr S n x ||| 2 ^ S 5 n else sEr S n x) else sEr S n x) g = 1 ↔ _
    have up : (∃ f, f < n + 1 ∧ sStr S f = 1 ∧ x = S 4 f ∧ g = S 5 f) ↔ ((∃ f, f < n ∧ sStr S f = 1 ∧ x = S 4 f ∧ g = S 5 f) ∨ (sStr S n = 1 ∧ x = S 4 n ∧ g = S 5 n)) := by
      constructor
      · rintro ⟨f, hf, h⟩
        by_cases e : f = n
        · subst e; exact Or.inr h
        · exact Or.inl ⟨f, by omega, h⟩
      · rintro (⟨f, hf, h⟩ | h)
        · exact ⟨f, by omega, h⟩
        · exact ⟨n, by omega, h⟩
    rw [up, ← ih]
    by_cases q : sStr S n = 1
    · rw [if_pos q]
      by_cases q4 : x = S 4 n
      · rw [if_pos q4, zbt_or]
        omega
      · rw [if_neg q4]
        omega
    · rw [if_neg q]
      omega
theorem sH_ho {S : zS} (hI : Inv S) (s : Nat) : sH1 S s (S 1 0) 0 1 = if sHo (fun x => sEr S (S 1 0) x) s (S 0 0) then 1 else 0 := by
  have hF := hI.F
  have h01 := sH1_01 S s (S 1 0) 0 1 (Or.inr rfl)
  have hiff := sH1_iff S s (S 1 0) 0 1
  have key : sH1 S s (S 1 0) 0 1 = 1 ↔ sHo (fun x => sEr S (S 1 0) x) s (S 0 0) := by
    rw [hiff]
    constructor
    · rintro ⟨-, h⟩ t ht
      by_cases q : zbt s t = 1
      · exact Or.inl q
      · refine Or.inr (fun g hg h1 => ?_)
        obtain ⟨f, hf, h2, h3⟩ := (zbt_er hI t g (S 1 0) (Nat.le_refl _)).mp h1
        have h4 := h f (Nat.zero_le _) (by omega)
        obtain ⟨rfl, rfl⟩ := h3
        rcases h4 with h4 | h4 | h4
        · omega
        · exact absurd h4 q
        · exact h4
    · intro h
      refine ⟨rfl, fun f _ hf => ?_⟩
      have hf' : f < S 1 0 := by omega
      obtain ⟨hl, hr, hlr⟩ := hI.lr f hf'
      rcases sStr_01 S f with q | q
      · exact Or.inl q
      · rcases h (S 4 f) hl with h1 | h1
        · exact Or.inr (Or.inl h1)
        · exact Or.inr (Or.inr (h1 (S 5 f) (by omega) ((zbt_er hI _ _ (S 1 0) (Nat.le_refl _)).mpr ⟨f, hf', q, rfl, rfl⟩)))
  by_cases h : sHo (fun x => sEr S (S 1 0) x) s (S 0 0)
  · rw [if_pos h]; exact key.mpr h
  · rw [if_neg h]
    rcases h01 with z | z
    · exact z
    · exact absurd (key.mp z) h
