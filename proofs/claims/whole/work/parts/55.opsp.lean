/-! frost: rows along open fences; the sum over what may snap -/
def sRf (S : zS) (o : Nat → Nat) (on f : Nat) : Nat := if o f = 1 ∧ (zbt on (S 4 f) = 1 ∨ zbt on (S 5 f) = 1) then on ||| sEb S f else on
def sRg (S : zS) (o : Nat → Nat) (on : Nat) : Nat → Nat
  | 0 => on
  | n + 1 => sRf S o (sRg S o on n) n
def sRr (S : zS) (o : Nat → Nat) (y : Nat) : Nat → Nat
  | 0 => 2 ^ y
  | j + 1 => sRg S o (sRr S o y j) (S 1 0)
theorem sRg_congr {S : zS} {o o' : Nat → Nat} (on : Nat) : ∀ n, (∀ f, f < n → o f = o' f) → sRg S o on n = sRg S o' on n
  | 0, _ => rfl
  | n + 1, h => by
    show sRf S o (sRg S o on n) n = sRf S o' (sRg S o' on n) n
    rw [sRg_congr on n (fun f hf => h f (by omega))]
    unfold sRf
    rw [h n (by omega)]
theorem sRr_congr {S : zS} {o o' : Nat → Nat} (y : Nat) (h : ∀ f, f < S 1 0 → o f = o' f) : ∀ j, sRr S o y j = sRr S o' y j
  | 0 => rfl
  | j + 1 => by
    show sRg S o (sRr S o y j) (S 1 0) = sRg S o' (sRr S o' y j) (S 1 0)
    rw [sRr_congr y h j, sRg_congr _ _ h]
theorem zor_gr : ∀ t, t < 256 → ∀ x, x < 8 → (t ||| 2 ^ x = t) ∨ zpc t < zpc (t ||| 2 ^ x) := by decide +kernel
theorem zpc_2p : ∀ y, y < 8 → zpc (2 ^ y) = 1 := by decide +kernel
def zGr (a b : Nat) : Prop := b = a ∨ zpc a < zpc b
theorem zGr.trans {a b c : Nat} (h1 : zGr a b) (h2 : zGr b c) : zGr a c := by
  rcases h1 with h1 | h1
  · rw [← h1]
    exact h2
  · rcases h2 with h2 | h2
    · rw [h2]
      exact Or.inr h1
    · exact Or.inr (Nat.lt_trans h1 h2)
theorem sRf_gr {S : zS} (hI : Inv S) (o : Nat → Nat) {on f : Nat} (hon : on < 2 ^ S 0 0) (hf : f < S 1 0) : zGr on (sRf S o on f) ∧ sRf S o on f < 2 ^ S 0 0 := by
  have hF := hI.F
  have hA := z2p hF.2
  obtain ⟨hl, hr, -⟩ := hI.lr f hf
  have h1 := zor2 (S := S) hon hl
  have h2 := zor2 (S := S) h1 hr
  have e : on ||| sEb S f = (on ||| 2 ^ S 4 f) ||| 2 ^ S 5 f := (Nat.or_assoc _ _ _).symm
  unfold sRf
  split
  · rw [e]
    exact ⟨zGr.trans (zor_gr on (by omega) _ (by omega)) (zor_gr _ (by omega) _ (by omega)), h2⟩
  · exact ⟨Or.inl rfl, hon⟩
theorem sRg_gr {S : zS} (hI : Inv S) (o : Nat → Nat) {on : Nat} (hon : on < 2 ^ S 0 0) : ∀ n, n ≤ S 1 0 → zGr on (sRg S o on n) ∧ sRg S o on n < 2 ^ S 0 0
  | 0, _ => ⟨Or.inl rfl, hon⟩
  | n + 1, hn => by
    obtain ⟨h1, h2⟩ := sRg_gr hI o hon n (by omega)
    obtain ⟨h3, h4⟩ := sRf_gr hI o (f := n) h2 (by omega)
    exact ⟨h1.trans h3, h4⟩
theorem sRr_lt {S : zS} (hI : Inv S) (o : Nat → Nat) {y : Nat} (hy : y < S 0 0) : ∀ j, sRr S o y j < 2 ^ S 0 0
  | 0 => Nat.pow_lt_pow_right (by decide) hy
  | j + 1 => (sRg_gr hI o (sRr_lt hI o hy j) (S 1 0) (Nat.le_refl _)).2
theorem sRr_step {S : zS} (hI : Inv S) (o : Nat → Nat) {y : Nat} (hy : y < S 0 0) : ∀ j, sRr S o y (j + 1) = sRr S o y j ∨ j + 1 ≤ zpc (sRr S o y j)
  | 0 => by
    have hF := hI.F
    have h : zpc (sRr S o y 0) = 1 := zpc_2p y (by omega)
    omega
  | j + 1 => by
    have ih := sRr_step hI o hy j
    have hg : zGr (sRr S o y j) (sRr S o y (j + 1)) := (sRg_gr hI o (sRr_lt hI o hy j) (S 1 0) (Nat.le_refl _)).1
    by_cases e : sRr S o y (j + 1) = sRr S o y j
    · refine Or.inl ?_
      show sRg S o (sRr S o y (j + 1)) (S 1 0) = _
      rw [e]
      exact e
    · have h1 := ih.resolve_left e
      have h2 := hg.resolve_left e
      exact Or.inr (by omega)
theorem sRr_conv {S : zS} (hI : Inv S) (o : Nat → Nat) {y : Nat} (hy : y < S 0 0) : ∀ d, sRr S o y (S 0 0 - 1 + d) = sRr S o y (S 0 0 - 1)
  | 0 => rfl
  | d + 1 => by
    have hF := hI.F
    have ih := sRr_conv hI o hy d
    have hs : sRr S o y (S 0 0 - 1 + 1) = sRr S o y (S 0 0 - 1) := by
      rcases sRr_step hI o hy (S 0 0 - 1) with h | h
      · exact h
      · have hg : zGr (sRr S o y (S 0 0 - 1)) (sRr S o y (S 0 0 - 1 + 1)) := (sRg_gr hI o (sRr_lt hI o hy _) (S 1 0) (Nat.le_refl _)).1
        rcases hg with g | g
        · exact g
        · have hl := sRr_lt hI o hy (S 0 0 - 1 + 1)
          have h1 := zpc_F hF.2 hl
          have h2 := zbt_sum_le (sRr S o y (S 0 0 - 1 + 1)) (S 0 0)
          omega
    show sRg S o (sRr S o y (S 0 0 - 1 + d)) (S 1 0) = _
    rw [ih]
    exact hs
/-- the sum over what may snap, fence by fence -/
def sTt (M : Nat → Prop) [DecidablePred M] (x : Nat) (P : Nat → Nat) : Nat → Nat → Nat
  | 0, c => P c
  | n + 1, c => if M n then (10 - x) * sTt M x P n c + x * sTt M x P n (c ||| 2 ^ n) else sTt M x P n c
def sCt (M : Nat → Prop) [DecidablePred M] : Nat → Nat
  | 0 => 0
  | n + 1 => if M n then sCt M n + 1 else sCt M n
theorem sCt_le (M : Nat → Prop) [DecidablePred M] : ∀ n, sCt M n ≤ n
  | 0 => Nat.le_refl _
  | n + 1 => by
    have := sCt_le M n
    unfold sCt
    split <;> omega
theorem sCt_mono (M : Nat → Prop) [DecidablePred M] (n : Nat) : ∀ d, sCt M n ≤ sCt M (n + d)
  | 0 => Nat.le_refl _
  | d + 1 => by
    have := sCt_mono M n d
    show sCt M n ≤ if M (n + d) then sCt M (n + d) + 1 else sCt M (n + d)
    split <;> omega
theorem zor_right (a b c : Nat) : (a ||| b) ||| c = (a ||| c) ||| b := by rw [Nat.or_assoc, Nat.or_comm b c, ← Nat.or_assoc]
theorem sTt_or {M : Nat → Prop} [DecidablePred M] {x j : Nat} {P : Nat → Nat} (hP : ∀ c, P (c ||| 2 ^ j) = P c) : ∀ n c, sTt M x P n (c ||| 2 ^ j) = sTt M x P n c
  | 0, c => hP c
  | n + 1, c => by
    show (if M n then (10 - x) * sTt M x P n (c ||| 2 ^ j) + x * sTt M x P n ((c ||| 2 ^ j) ||| 2 ^ n) else sTt M x P n (c ||| 2 ^ j)) = if M n then (10 - x) * sTt M x P n c + x * sTt M x P n (c ||| 2 ^ n) else sTt M x P n c
    rw [zor_right, sTt_or hP n c, sTt_or hP n (c ||| 2 ^ n)]
theorem sTt_two {M A : Nat → Prop} [DecidablePred M] [DecidablePred A] {x : Nat} {P : Nat → Nat} (hA : ∀ f, A f → M f) (hx : x ≤ 10) : ∀ n, (∀ f, f < n → M f → ¬ A f → ∀ c, P (c ||| 2 ^ f) = P c) → ∀ c, sTt M x P n c = 10 ^ sCt (fun f => M f ∧ ¬ A f) n * sTt A x P n c
  | 0, _, c => (Nat.one_mul _).symm
  | n + 1, hP, c => by
    have ih := sTt_two (x := x) hA hx n (fun f hf => hP f (by omega))
    show (if M n then (10 - x) * sTt M x P n c + x * sTt M x P n (c ||| 2 ^ n) else sTt M x P n c) = 10 ^ (if M n ∧ ¬ A n then sCt (fun f => M f ∧ ¬ A f) n + 1 else sCt (fun f => M f ∧ ¬ A f) n) * (if A n then (10 - x) * sTt A x P n c + x * sTt A x P n (c ||| 2 ^ n) else sTt A x P n c)
    by_cases hM : M n
    · by_cases ha : A n
      · rw [if_pos hM, if_pos ha, if_neg (fun z => z.2 ha), ih, ih, Nat.mul_add, Nat.mul_left_comm, Nat.mul_left_comm x]
      · rw [if_pos hM, if_neg ha, if_pos ⟨hM, ha⟩, ih, ih, sTt_or (hP n (by omega) hM ha) n c, ← Nat.add_mul, Nat.sub_add_cancel hx, Nat.pow_succ, Nat.mul_comm (10 ^ _) 10, Nat.mul_assoc]
    · rw [if_neg hM, if_neg (fun z => hM (hA n z)), if_neg (fun z => hM z.1), ih]
theorem sCt_two {M A : Nat → Prop} [DecidablePred M] [DecidablePred A] (hA : ∀ f, A f → M f) : ∀ n, sCt M n = sCt A n + sCt (fun f => M f ∧ ¬ A f) n
  | 0 => rfl
  | n + 1 => by
    have ih := sCt_two hA n
    show (if M n then sCt M n + 1 else sCt M n) = (if A n then sCt A n + 1 else sCt A n) + (if M n ∧ ¬ A n then sCt (fun f => M f ∧ ¬ A f) n + 1 else sCt (fun f => M f ∧ ¬ A f) n)
    by_cases hM : M n
    · by_cases ha : A n
      · rw [if_pos hM, if_pos ha, if_neg (fun z => z.2 ha)]
        omega
      · rw [if_pos hM, if_neg ha, if_pos ⟨hM, ha⟩]
        omega
    · rw [if_neg hM, if_neg (fun z => hM (hA n z)), if_neg (fun z => hM z.1)]
      exact ih
theorem sTt_le {M : Nat → Prop} [DecidablePred M] {x : Nat} {P : Nat → Nat} (hx : x ≤ 10) (hP : ∀ c, P c ≤ 1) : ∀ n c, sTt M x P n c ≤ 10 ^ sCt M n
  | 0, c => hP c
  | n + 1, c => by
    have h1 := sTt_le (M := M) hx hP n c
    have h2 := sTt_le (M := M) hx hP n (c ||| 2 ^ n)
    show (if M n then (10 - x) * sTt M x P n c + x * sTt M x P n (c ||| 2 ^ n) else sTt M x P n c) ≤ 10 ^ (if M n then sCt M n + 1 else sCt M n)
    by_cases hM : M n
    · rw [if_pos hM, if_pos hM, Nat.pow_succ]
      have g1 := Nat.mul_le_mul (Nat.le_refl (10 - x)) h1
      have g2 := Nat.mul_le_mul (Nat.le_refl x) h2
      have g3 : (10 - x) * 10 ^ sCt M n + x * 10 ^ sCt M n = 10 ^ sCt M n * 10 := by
        rw [← Nat.add_mul, Nat.sub_add_cancel hx, Nat.mul_comm]
      omega
    · rw [if_neg hM, if_neg hM]
      exact h1
theorem zsum_split (g : Nat → Nat) (a : Nat) : ∀ b, zsum g (a + b) = zsum g a + zsum (fun j => g (a + j)) b
  | 0 => rfl
  | b + 1 => by
    show zsum g (a + b) + g (a + b) = zsum g a + (zsum (fun j => g (a + j)) b + g (a + b))
    rw [zsum_split g a b, Nat.add_assoc]
theorem zsum_mulc (c : Nat) (g : Nat → Nat) : ∀ n, zsum (fun j => c * g j) n = c * zsum g n
  | 0 => rfl
  | n + 1 => by
    show zsum (fun j => c * g j) n + c * g n = c * (zsum g n + g n)
    rw [zsum_mulc c g n, Nat.mul_add]
theorem zadd_or : ∀ s, s < 9 → ∀ t, t < 2 ^ s → 2 ^ s + t = t ||| 2 ^ s := by decide +kernel
theorem zbt_or_ne {t s g : Nat} (h : s ≠ g) : zbt (t ||| 2 ^ s) g = zbt t g := by
  have h1 := zbt_or (p := t) (c := s) (g := g)
  have h2 := zbt_01 (t ||| 2 ^ s) g
  have h3 := zbt_01 t g
  rcases h2 with h2 | h2
  · rcases h3 with h3 | h3
    · rw [h2, h3]
    · have := h1.mpr (Or.inl h3)
      omega
  · have := (h1.mp h2).resolve_right h
    omega
theorem zbt_or_eq (t s : Nat) : zbt (t ||| 2 ^ s) s = 1 := zbt_or.mpr (Or.inr rfl)
/-- which fences a set of those that may snap stands for -/
def sSn (A : Nat → Prop) [DecidablePred A] (t : Nat) : Nat → Nat
  | 0 => 0
  | n + 1 => if A n then sSn A t n ||| (zbt t (sCt A n) * 2 ^ n) else sSn A t n
theorem sSn_congr {A : Nat → Prop} [DecidablePred A] {t t' : Nat} : ∀ n, (∀ g, g < sCt A n → zbt t g = zbt t' g) → sSn A t n = sSn A t' n
  | 0, _ => rfl
  | n + 1, h => by
    have hm := sCt_mono A n 1
    have ih := sSn_congr (A := A) (t := t) (t' := t') n (fun g hg => h g (by omega))
    show (if A n then sSn A t n ||| (zbt t (sCt A n) * 2 ^ n) else sSn A t n) = if A n then sSn A t' n ||| (zbt t' (sCt A n) * 2 ^ n) else sSn A t' n
    by_cases ha : A n
    · have e : sCt A (n + 1) = sCt A n + 1 := if_pos ha
      rw [if_pos ha, if_pos ha, ih, h (sCt A n) (by omega)]
    · rw [if_neg ha, if_neg ha, ih]
theorem sSn_lt {A : Nat → Prop} [DecidablePred A] (t : Nat) : ∀ n, sSn A t n < 2 ^ n
  | 0 => (by decide : 0 < 1)
  | n + 1 => by
    have ih := sSn_lt (A := A) t n
    have h2 : 2 ^ n < 2 ^ (n + 1) := Nat.pow_lt_pow_right (by decide) (by omega)
    show (if A n then sSn A t n ||| (zbt t (sCt A n) * 2 ^ n) else sSn A t n) < 2 ^ (n + 1)
    split
    · refine zor_lt (by omega) ?_
      rcases zbt_01 t (sCt A n) with q | q
      · rw [q, Nat.zero_mul]
        omega
      · rw [q, Nat.one_mul]
        exact h2
    · omega
theorem sSn_sum {A : Nat → Prop} [DecidablePred A] (x : Nat) (P : Nat → Nat) : ∀ n, n ≤ 8 → ∀ c, zsum (fun t => x ^ zpc t * (10 - x) ^ (sCt A n - zpc t) * P (c ||| sSn A t n)) (2 ^ sCt A n) = sTt A x P n c
  | 0, _, c => by
    show 0 + x ^ zpc 0 * (10 - x) ^ (0 - zpc 0) * P (c ||| 0) = P c
    rw [show zpc 0 = 0 by decide, Nat.or_zero]
    simp only [Nat.pow_zero, Nat.sub_zero, Nat.one_mul, Nat.zero_add]
  | n + 1, hn, c => by
    have ih := sSn_sum (A := A) x P n (by omega)
    have hle := sCt_le A n
    show _ = if A n then (10 - x) * sTt A x P n c + x * sTt A x P n (c ||| 2 ^ n) else sTt A x P n c
    by_cases ha : A n
    · have e : sCt A (n + 1) = sCt A n + 1 := if_pos ha
      have es : ∀ t, sSn A t (n + 1) = sSn A t n ||| (zbt t (sCt A n) * 2 ^ n) := fun t => if_pos ha
      rw [if_pos ha, e, show 2 ^ (sCt A n + 1) = 2 ^ sCt A n + 2 ^ sCt A n by rw [Nat.pow_succ]; omega, zsum_split]
      congr 1
      · rw [← ih, ← zsum_mulc]
        refine zsum_congr (fun t ht => ?_)
        have hz : zpc t ≤ sCt A n := by
          rw [zpc_F (by omega) ht]
          exact zbt_sum_le t _
        rw [es, zbt_hi ht (Nat.le_refl _), Nat.zero_mul, Nat.or_zero, show sCt A n + 1 - zpc t = sCt A n - zpc t + 1 by omega, Nat.pow_succ]
        simp only [Nat.mul_assoc, Nat.mul_comm, Nat.mul_left_comm]
      · rw [← ih, ← zsum_mulc]
        refine zsum_congr (fun t ht => ?_)
        have hA := Nat.pow_le_pow_right (n := 2) (by decide) (show sCt A n ≤ 8 by omega)
        have h1 := zpc_or t (by omega) (sCt A n) (by omega) (zbt_hi ht (Nat.le_refl _))
        have ec : sSn A (t ||| 2 ^ sCt A n) n = sSn A t n := sSn_congr n (fun g hg => zbt_or_ne (by omega))
        rw [zadd_or _ (by omega) t ht, es, zbt_or_eq, Nat.one_mul, ec, h1.1, show sCt A n + 1 - (zpc t + 1) = sCt A n - zpc t by omega, Nat.pow_succ, ← Nat.or_assoc, zor_right c (2 ^ n)]
        simp only [Nat.mul_assoc, Nat.mul_comm, Nat.mul_left_comm]
    · have e : sCt A (n + 1) = sCt A n := if_neg ha
      have es : ∀ t, sSn A t (n + 1) = sSn A t n := fun t => if_neg ha
      rw [if_neg ha, e, ← ih]
      refine zsum_congr (fun t ht => ?_)
      rw [es]
/-- a set of fences is one of those that may; what it weighs -/
def sSb (M : Nat → Prop) [DecidablePred M] (c : Nat) : Nat → Nat
  | 0 => 1
  | n + 1 => if zbt c n = 1 ∧ ¬ M n then 0 else sSb M c n
def sWg (M : Nat → Prop) [DecidablePred M] (x c : Nat) : Nat → Nat
  | 0 => 1
  | n + 1 => sWg M x c n * (if M n then (if zbt c n = 1 then x else 10 - x) else 1)
theorem sSb_congr {M : Nat → Prop} [DecidablePred M] {c c' : Nat} : ∀ n, (∀ g, g < n → zbt c g = zbt c' g) → sSb M c n = sSb M c' n
  | 0, _ => rfl
  | n + 1, h => by
    show (if zbt c n = 1 ∧ ¬ M n then 0 else sSb M c n) = if zbt c' n = 1 ∧ ¬ M n then 0 else sSb M c' n
    rw [sSb_congr n (fun g hg => h g (by omega)), h n (by omega)]
theorem sWg_congr {M : Nat → Prop} [DecidablePred M] {x c c' : Nat} : ∀ n, (∀ g, g < n → zbt c g = zbt c' g) → sWg M x c n = sWg M x c' n
  | 0, _ => rfl
  | n + 1, h => by
    show sWg M x c n * (if M n then (if zbt c n = 1 then x else 10 - x) else 1) = sWg M x c' n * (if M n then (if zbt c' n = 1 then x else 10 - x) else 1)
    rw [sWg_congr n (fun g hg => h g (by omega)), h n (by omega)]
theorem sSb_01 (M : Nat → Prop) [DecidablePred M] (c : Nat) : ∀ n, sSb M c n = 0 ∨ sSb M c n = 1
  | 0 => Or.inr rfl
  | n + 1 => by
    show (if zbt c n = 1 ∧ ¬ M n then 0 else sSb M c n) = 0 ∨ (if zbt c n = 1 ∧ ¬ M n then 0 else sSb M c n) = 1
    split
    · exact Or.inl rfl
    · exact sSb_01 M c n
theorem sSb_iff (M : Nat → Prop) [DecidablePred M] (c : Nat) : ∀ n, sSb M c n = 1 ↔ ∀ g, g < n → zbt c g = 1 → M g
  | 0 => ⟨fun _ g hg => absurd hg (Nat.not_lt_zero _), fun _ => rfl⟩
  | n + 1 => by
    have ih := sSb_iff M c n
    show (if zbt c n = 1 ∧ ¬ M n then 0 else sSb M c n) = 1 ↔ _
    by_cases h : zbt c n = 1 ∧ ¬ M n
    · rw [if_pos h]
      exact ⟨fun z => absurd z (by decide), fun z => absurd (z n (by omega) h.1) h.2⟩
    · rw [if_neg h, ih]
      constructor
      · intro z g hg hb
        by_cases e : g = n
        · subst e
          by_cases hM : M g
          · exact hM
          · exact absurd ⟨hb, hM⟩ h
        · exact z g (by omega) hb
      · exact fun z g hg hb => z g (by omega) hb
theorem sSb_sum {M : Nat → Prop} [DecidablePred M] (x : Nat) (P : Nat → Nat) : ∀ n, n ≤ 8 → ∀ c, zsum (fun t => sSb M t n * (P (c ||| t) * sWg M x t n)) (2 ^ n) = sTt M x P n c
  | 0, _, c => by
    show 0 + 1 * (P (c ||| 0) * 1) = P c
    rw [Nat.or_zero, Nat.zero_add, Nat.one_mul, Nat.mul_one]
  | n + 1, hn, c => by
    have ih := sSb_sum (M := M) x P n (by omega)
    have eb : ∀ t, sSb M t (n + 1) = if zbt t n = 1 ∧ ¬ M n then 0 else sSb M t n := fun t => rfl
    have ew : ∀ t, sWg M x t (n + 1) = sWg M x t n * (if M n then (if zbt t n = 1 then x else 10 - x) else 1) := fun t => rfl
    have l1 : zsum (fun t => sSb M t (n + 1) * (P (c ||| t) * sWg M x t (n + 1))) (2 ^ n) = (if M n then 10 - x else 1) * sTt M x P n c := by
      rw [← ih, ← zsum_mulc]
      refine zsum_congr (fun t ht => ?_)
      have hz := zbt_hi ht (Nat.le_refl n)
      rw [eb, ew, if_neg (fun z => by have := z.1; omega)]
      by_cases hM : M n
      · rw [if_pos hM, if_pos hM, if_neg (show ¬ zbt t n = 1 by omega)]
        simp only [Nat.mul_assoc, Nat.mul_comm, Nat.mul_left_comm]
      · rw [if_neg hM, if_neg hM, Nat.mul_one, Nat.one_mul]
    have l2 : zsum (fun t => sSb M (2 ^ n + t) (n + 1) * (P (c ||| (2 ^ n + t)) * sWg M x (2 ^ n + t) (n + 1))) (2 ^ n) = (if M n then x else 0) * sTt M x P n (c ||| 2 ^ n) := by
      rw [← ih, ← zsum_mulc]
      refine zsum_congr (fun t ht => ?_)
      have hc : ∀ g, g < n → zbt (t ||| 2 ^ n) g = zbt t g := fun g hg => zbt_or_ne (by omega)
      rw [zadd_or n (by omega) t ht, eb, ew, zbt_or_eq]
      by_cases hM : M n
      · rw [if_neg (fun z => z.2 hM), if_pos hM, if_pos hM, if_pos rfl, sSb_congr n hc, sWg_congr n hc, ← Nat.or_assoc, zor_right c t]
        simp only [Nat.mul_assoc, Nat.mul_comm, Nat.mul_left_comm]
      · rw [if_pos ⟨rfl, hM⟩, Nat.zero_mul, if_neg hM, Nat.zero_mul]
    rw [show 2 ^ (n + 1) = 2 ^ n + 2 ^ n by rw [Nat.pow_succ]; omega, zsum_split, l1, l2]
    show _ = if M n then (10 - x) * sTt M x P n c + x * sTt M x P n (c ||| 2 ^ n) else sTt M x P n c
    by_cases hM : M n
    · rw [if_pos hM, if_pos hM, if_pos hM]
    · rw [if_neg hM, if_neg hM, if_neg hM, Nat.one_mul, Nat.zero_mul, Nat.add_zero]
