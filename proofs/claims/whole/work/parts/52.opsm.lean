/-! quiet: rounds of easing come to rest -/
def sCs (S : zS) (k f : Nat) : Nat := if 0 < sSnd S k f then 101 else 1
def sRx (S : zS) (k : Nat) (d : Nat → Nat) (f : Nat) : Nat → Nat := fun v => if v = S 4 f then (if d (S 5 f) + sCs S k f < d v then d (S 5 f) + sCs S k f else d v) else if v = S 5 f then (if d (S 4 f) + sCs S k f < d v then d (S 4 f) + sCs S k f else d v) else d v
def sRn (S : zS) (k : Nat) (d : Nat → Nat) : Nat → Nat → Nat
  | 0 => d
  | n + 1 => sRx S k (sRn S k d n) n
def sD0 (x : Nat) : Nat → Nat := fun v => if v = x then 0 else 1000000
def sDt (S : zS) (k x : Nat) : Nat → Nat → Nat
  | 0 => sD0 x
  | j + 1 => sRn S k (sDt S k x j) (S 1 0)
theorem sCs_p (S : zS) (k f : Nat) : 1 ≤ sCs S k f ∧ sCs S k f ≤ 101 := by unfold sCs; split <;> omega
theorem sRx_le (S : zS) (k : Nat) (d : Nat → Nat) (f v : Nat) : sRx S k d f v ≤ d v := by
  unfold sRx
  repeat' split
  all_goals omega
theorem sRn_mono (S : zS) (k : Nat) (d : Nat → Nat) (v n : Nat) : ∀ m, sRn S k d (n + m) v ≤ sRn S k d n v
  | 0 => Nat.le_refl _
  | m + 1 => Nat.le_trans (sRx_le S k _ _ _) (sRn_mono S k d v n m)
theorem sRn_le (S : zS) (k : Nat) (d : Nat → Nat) (v n : Nat) : sRn S k d n v ≤ d v := by
  have := sRn_mono S k d v 0 n
  rw [Nat.zero_add] at this
  exact this
theorem sDt_mono (S : zS) (k x v j : Nat) : ∀ m, sDt S k x (j + m) v ≤ sDt S k x j v
  | 0 => Nat.le_refl _
  | m + 1 => Nat.le_trans (sRn_le S k _ _ _) (sDt_mono S k x v j m)
theorem sD0_le (x v : Nat) : sD0 x v ≤ 1000000 := by unfold sD0; split <;> omega
theorem sDt_le (S : zS) (k x v j : Nat) : sDt S k x j v ≤ 1000000 := by
  have := sDt_mono S k x v 0 j
  rw [Nat.zero_add] at this
  exact Nat.le_trans this (sD0_le x v)
/-- one round eases along each fence -/
theorem sRn_ease {S : zS} (hI : Inv S) (k : Nat) (d : Nat → Nat) {f : Nat} (hf : f < S 1 0) : sRn S k d (S 1 0) (S 4 f) ≤ d (S 5 f) + sCs S k f ∧ sRn S k d (S 1 0) (S 5 f) ≤ d (S 4 f) + sCs S k f := by
  obtain ⟨-, -, hne⟩ := hI.lr f hf
  have h1 := sRn_mono S k d (S 4 f) (f + 1) (S 1 0 - (f + 1))
  have h2 := sRn_mono S k d (S 5 f) (f + 1) (S 1 0 - (f + 1))
  rw [show f + 1 + (S 1 0 - (f + 1)) = S 1 0 by omega] at h1 h2
  have h3 := sRn_le S k d (S 4 f) f
  have h4 := sRn_le S k d (S 5 f) f
  have e1 : sRn S k d (f + 1) (S 4 f) = if sRn S k d f (S 5 f) + sCs S k f < sRn S k d f (S 4 f) then sRn S k d f (S 5 f) + sCs S k f else sRn S k d f (S 4 f) := if_pos rfl
  have e2 : sRn S k d (f + 1) (S 5 f) = if sRn S k d f (S 4 f) + sCs S k f < sRn S k d f (S 5 f) then sRn S k d f (S 4 f) + sCs S k f else sRn S k d f (S 5 f) := (if_neg (fun z => hne z.symm)).trans (if_pos rfl)
  constructor
  · have : sRn S k d (f + 1) (S 4 f) ≤ sRn S k d f (S 5 f) + sCs S k f := by rw [e1]; split <;> omega
    omega
  · have : sRn S k d (f + 1) (S 5 f) ≤ sRn S k d f (S 4 f) + sCs S k f := by rw [e2]; split <;> omega
    omega
def zFe (S : zS) (k : Nat) (L : Nat → Nat) : Prop := ∀ f, f < S 1 0 → L (S 4 f) ≤ L (S 5 f) + sCs S k f ∧ L (S 5 f) ≤ L (S 4 f) + sCs S k f
theorem sRx_low {S : zS} {k : Nat} {L d : Nat → Nat} (hL : zFe S k L) (h : ∀ v, L v ≤ d v) {f : Nat} (hf : f < S 1 0) (v : Nat) : L v ≤ sRx S k d f v := by
  obtain ⟨g1, g2⟩ := hL f hf
  have h0 := h v
  have h1 := h (S 4 f)
  have h2 := h (S 5 f)
  unfold sRx
  by_cases e1 : v = S 4 f
  · rw [if_pos e1]
    subst e1
    split <;> omega
  · rw [if_neg e1]
    by_cases e2 : v = S 5 f
    · rw [if_pos e2]
      subst e2
      split <;> omega
    · rw [if_neg e2]
      exact h0
theorem sRn_low {S : zS} {k : Nat} {L d : Nat → Nat} (hL : zFe S k L) (h : ∀ v, L v ≤ d v) : ∀ n, n ≤ S 1 0 → ∀ v, L v ≤ sRn S k d n v
  | 0, _, v => h v
  | n + 1, hn, v => sRx_low hL (sRn_low hL h n (by omega)) (by omega) v
theorem sDt_low {S : zS} {k x : Nat} {L : Nat → Nat} (hL : zFe S k L) (h : ∀ v, L v ≤ sD0 x v) : ∀ j v, L v ≤ sDt S k x j v
  | 0, v => h v
  | j + 1, v => sRn_low hL (sDt_low hL h j) (S 1 0) (Nat.le_refl _) v
/-- each cost is none, or that of a fence and what lies behind it -/
def zSu (S : zS) (k x : Nat) (d : Nat → Nat) : Prop := ∀ v, v = x ∨ 1000000 ≤ d v ∨ ∃ f, f < S 1 0 ∧ ((v = S 4 f ∧ d (S 5 f) + sCs S k f ≤ d v) ∨ (v = S 5 f ∧ d (S 4 f) + sCs S k f ≤ d v))
theorem sRx_su {S : zS} {k x : Nat} {d : Nat → Nat} (h : zSu S k x d) {f : Nat} (hf : f < S 1 0) : zSu S k x (sRx S k d f) := by
  intro v
  have m4 := sRx_le S k d f (S 4 f)
  have m5 := sRx_le S k d f (S 5 f)
  have old : sRx S k d f v = d v → v = x ∨ 1000000 ≤ sRx S k d f v ∨ ∃ g, g < S 1 0 ∧ ((v = S 4 g ∧ sRx S k d f (S 5 g) + sCs S k g ≤ sRx S k d f v) ∨ (v = S 5 g ∧ sRx S k d f (S 4 g) + sCs S k g ≤ sRx S k d f v)) := by
    intro e
    rw [e]
    rcases h v with h1 | h1 | ⟨g, hg, h1⟩
    · exact Or.inl h1
    · exact Or.inr (Or.inl h1)
    · refine Or.inr (Or.inr ⟨g, hg, ?_⟩)
      have n4 := sRx_le S k d f (S 4 g)
      have n5 := sRx_le S k d f (S 5 g)
      rcases h1 with ⟨h1, h2⟩ | ⟨h1, h2⟩
      · exact Or.inl ⟨h1, by omega⟩
      · exact Or.inr ⟨h1, by omega⟩
  by_cases e1 : v = S 4 f
  · by_cases c : d (S 5 f) + sCs S k f < d v
    · have e : sRx S k d f v = d (S 5 f) + sCs S k f := (if_pos e1).trans (if_pos c)
      exact Or.inr (Or.inr ⟨f, hf, Or.inl ⟨e1, by omega⟩⟩)
    · exact old ((if_pos e1).trans (if_neg c))
  · by_cases e2 : v = S 5 f
    · by_cases c : d (S 4 f) + sCs S k f < d v
      · have e : sRx S k d f v = d (S 4 f) + sCs S k f := (if_neg e1).trans ((if_pos e2).trans (if_pos c))
        exact Or.inr (Or.inr ⟨f, hf, Or.inr ⟨e2, by omega⟩⟩)
      · exact old ((if_neg e1).trans ((if_pos e2).trans (if_neg c)))
    · exact old ((if_neg e1).trans (if_neg e2))
theorem sRn_su {S : zS} {k x : Nat} {d : Nat → Nat} (h : zSu S k x d) : ∀ n, n ≤ S 1 0 → zSu S k x (sRn S k d n)
  | 0, _ => h
  | n + 1, hn => sRx_su (sRn_su h n (by omega)) (by omega)
theorem sDt_su (S : zS) (k x : Nat) : ∀ j, zSu S k x (sDt S k x j)
  | 0 => fun v => by
    by_cases e : v = x
    · exact Or.inl e
    · exact Or.inr (Or.inl (by rw [show sDt S k x 0 v = 1000000 from if_neg e]; exact Nat.le_refl _))
  | j + 1 => sRn_su (sDt_su S k x j) (S 1 0) (Nat.le_refl _)
/-- what falls must rest -/
theorem zrest : ∀ (m : Nat) (s : Nat → Nat), s 0 ≤ m → (∀ j, s (j + 1) ≤ s j) → ∃ j, s (j + 1) = s j
  | 0, s, h0, h => ⟨0, by have := h 0; omega⟩
  | m + 1, s, h0, h => by
    have h1 : s 1 ≤ s 0 := h 0
    by_cases e : s 1 = s 0
    · exact ⟨0, e⟩
    · obtain ⟨j, g⟩ := zrest m (fun j => s (j + 1)) (show s 1 ≤ m by omega) (fun j => h (j + 1))
      exact ⟨j + 1, g⟩
theorem zsum_mono {p q : Nat → Nat} : ∀ n, (∀ j, j < n → p j ≤ q j) → zsum p n ≤ zsum q n
  | 0, _ => Nat.le_refl _
  | n + 1, h => Nat.add_le_add (zsum_mono n (fun j hj => h j (by omega))) (h n (by omega))
theorem zsum_lt {p q : Nat → Nat} : ∀ n, (∀ j, j < n → p j ≤ q j) → (∃ j, j < n ∧ p j < q j) → zsum p n < zsum q n
  | 0, _, h => by
    obtain ⟨j, hj, -⟩ := h
    omega
  | n + 1, h, ⟨j, hj, hl⟩ => by
    have h1 := zsum_mono (p := p) (q := q) n (fun j hj => h j (by omega))
    have h2 := h n (by omega)
    show zsum p n + p n < zsum q n + q n
    by_cases e : j = n
    · rw [e] at hl
      omega
    · have := zsum_lt (p := p) (q := q) n (fun j hj => h j (by omega)) ⟨j, by omega, hl⟩
      omega
theorem zsum_1 : ∀ n, zsum (fun _ => 1) n = n
  | 0 => rfl
  | n + 1 => by
    show zsum (fun _ => 1) n + 1 = n + 1
    rw [zsum_1 n]
def zRnk (L : Nat → Nat) (F v : Nat) : Nat := zsum (fun u => if L u < L v then 1 else 0) F
theorem zRnk_lt {L : Nat → Nat} {F u v : Nat} (hu : u < F) (h : L u < L v) : zRnk L F u < zRnk L F v := by
  refine zsum_lt F (fun j hj => ?_) ⟨u, hu, ?_⟩
  · repeat' split
    all_goals omega
  · rw [if_neg (Nat.lt_irrefl _), if_pos h]
    decide
theorem zRnk_F {L : Nat → Nat} {F v : Nat} (hv : v < F) : zRnk L F v < F := by
  have := zsum_lt (p := fun u => if L u < L v then 1 else 0) (q := fun _ => 1) F (fun j hj => by split <;> omega) ⟨v, hv, by rw [if_neg (Nat.lt_irrefl _)]; decide⟩
  rw [zsum_1] at this
  exact this
theorem sDt_rest {S : zS} (hI : Inv S) (k x : Nat) : ∃ N, ∀ v, v < S 0 0 → sDt S k x (N + 1) v = sDt S k x N v := by
  obtain ⟨N, h⟩ := zrest (zsum (sDt S k x 0) (S 0 0)) (fun j => zsum (sDt S k x j) (S 0 0)) (Nat.le_refl _) (fun j => zsum_mono _ (fun v _ => sDt_mono S k x v j 1))
  refine ⟨N, fun v hv => ?_⟩
  have hle := sDt_mono S k x v N 1
  by_cases e : sDt S k x (N + 1) v = sDt S k x N v
  · exact e
  · have := zsum_lt (p := sDt S k x (N + 1)) (q := sDt S k x N) (S 0 0) (fun u _ => sDt_mono S k x u N 1) ⟨v, hv, by omega⟩
    omega
theorem sDt_rank {S : zS} (hI : Inv S) {k x : Nat} (hx : x < S 0 0) {L : Nat → Nat} (hS : zSu S k x L) : ∀ r v, v < S 0 0 → zRnk L (S 0 0) v ≤ r → sDt S k x r v ≤ L v := by
  have m0 : ∀ r v, sDt S k x r v ≤ sD0 x v := fun r v => by
    have := sDt_mono S k x v 0 r
    rw [Nat.zero_add] at this
    exact this
  have base : ∀ r v, v = x ∨ 1000000 ≤ L v → sDt S k x r v ≤ L v := by
    intro r v h
    have h1 := m0 r v
    rcases h with h | h
    · rw [show sD0 x v = 0 from if_pos h] at h1
      omega
    · have := sD0_le x v
      omega
  intro r
  induction r with
  | zero =>
    intro v hv hr
    rcases hS v with h | h | ⟨f, hf, h⟩
    · exact base 0 v (Or.inl h)
    · exact base 0 v (Or.inr h)
    · obtain ⟨hl, hr5, -⟩ := hI.lr f hf
      have hc := (sCs_p S k f).1
      rcases h with ⟨e, h⟩ | ⟨e, h⟩
      · have := zRnk_lt (L := L) hr5 (show L (S 5 f) < L v by omega)
        omega
      · have := zRnk_lt (L := L) hl (show L (S 4 f) < L v by omega)
        omega
  | succ r ih =>
    intro v hv hr
    rcases hS v with h | h | ⟨f, hf, h⟩
    · exact base _ v (Or.inl h)
    · exact base _ v (Or.inr h)
    · obtain ⟨hl, hr5, -⟩ := hI.lr f hf
      have hc := (sCs_p S k f).1
      obtain ⟨g1, g2⟩ := sRn_ease hI k (sDt S k x r) hf
      rcases h with ⟨e, h⟩ | ⟨e, h⟩
      · have h1 := zRnk_lt (L := L) hr5 (show L (S 5 f) < L v by omega)
        have h2 := ih (S 5 f) hr5 (by omega)
        have h3 : sDt S k x (r + 1) v ≤ sDt S k x r (S 5 f) + sCs S k f := by
          rw [e]
          exact g1
        omega
      · have h1 := zRnk_lt (L := L) hl (show L (S 4 f) < L v by omega)
        have h2 := ih (S 4 f) hl (by omega)
        have h3 : sDt S k x (r + 1) v ≤ sDt S k x r (S 4 f) + sCs S k f := by
          rw [e]
          exact g2
        omega
/-- fields - 1 rounds are enough -/
theorem sDt_conv {S : zS} (hI : Inv S) {k x : Nat} (hx : x < S 0 0) {j : Nat} (hj : S 0 0 ≤ j + 1) {v : Nat} (hv : v < S 0 0) : sDt S k x j v = sDt S k x (S 0 0 - 1) v := by
  obtain ⟨N, hN⟩ := sDt_rest hI k x
  have hL : zFe S k (sDt S k x N) := fun f hf => by
    obtain ⟨hl, hr5, -⟩ := hI.lr f hf
    obtain ⟨g1, g2⟩ := sRn_ease hI k (sDt S k x N) hf
    have e1 := hN _ hl
    have e2 := hN _ hr5
    have f1 : sDt S k x (N + 1) (S 4 f) ≤ sDt S k x N (S 5 f) + sCs S k f := g1
    have f2 : sDt S k x (N + 1) (S 5 f) ≤ sDt S k x N (S 4 f) + sCs S k f := g2
    omega
  have hlow := sDt_low (x := x) hL (fun v => by
    have := sDt_mono S k x v 0 N
    rw [Nat.zero_add] at this
    exact this)
  have hrk := zRnk_F (L := sDt S k x N) hv
  have h1 := sDt_rank hI hx (sDt_su S k x N) j v hv (by omega)
  have h2 := sDt_rank hI hx (sDt_su S k x N) (S 0 0 - 1) v hv (by omega)
  have h3 := hlow j v
  have h4 := hlow (S 0 0 - 1) v
  omega
