/-! the state that both sides stand for: S mirrors the model's memory, in Nats -/
abbrev zS : Type := Nat → Nat → Nat
/-- a stand of 30 numbers is one that may be -/
def okR (F E B : Nat) (r : Nat → Nat) : Prop := (∀ b, b < B → r b < F) ∧ (∀ f, f < E → r (6 + f) ≤ 40) ∧ r 14 < 2 ^ E ∧ r 15 < 2 ^ E ∧ r 16 ≤ 9 ∧ r 17 ≤ 12 ∧ ∀ j, j < r 17 → r (18 + j) ≤ 43
/-- the n-th stand of a past -/
def rB (S : zS) (p n : Nat) : Nat → Nat := fun j => S 11 (300 * p + 30 * n + j)
def rN (S : zS) : Nat → Nat := fun j => S 9 j
def rI (S : zS) (p : Nat) : Nat → Nat := fun j => S 12 (30 * p + j)
def Inv (S : zS) : Prop :=
  (1 ≤ S 0 0 ∧ S 0 0 ≤ 8) ∧ S 1 0 ≤ 8 ∧ S 2 0 ≤ 4 ∧ S 3 0 ≤ 6 ∧ (∀ f, f < S 1 0 → S 4 f < S 0 0 ∧ S 5 f < S 0 0 ∧ S 4 f ≠ S 5 f) ∧ (∀ k, k < S 2 0 → S 6 k ≤ 6 ∧ S 7 k ≤ 9) ∧ (∀ b, b < S 3 0 → S 8 b < S 2 0) ∧
  okR (S 0 0) (S 1 0) (S 3 0) (rN S) ∧ (∀ p, p < 3 → (p = 0 ∨ S 13 (p - 1) = 1) → S 10 p ≤ 10 ∧ ∀ n, n < S 10 p → okR (S 0 0) (S 1 0) (S 3 0) (rB S p n)) ∧ (∀ p, p < 2 → S 13 p = 1 → okR (S 0 0) (S 1 0) (S 3 0) (rI S p)) ∧
  (∀ p, p < 2 → S 13 p ≤ 1) ∧ S 15 0 ≤ 6 ∧ (∀ j, j < S 15 0 → S 14 j ≤ 43) ∧ S 17 0 ≤ 150 ∧ ∀ j, j < S 17 0 → S 16 j < 256
theorem Inv.F {S : zS} (h : Inv S) : 1 ≤ S 0 0 ∧ S 0 0 ≤ 8 := h.1
theorem Inv.E {S : zS} (h : Inv S) : S 1 0 ≤ 8 := h.2.1
theorem Inv.K {S : zS} (h : Inv S) : S 2 0 ≤ 4 := h.2.2.1
theorem Inv.B {S : zS} (h : Inv S) : S 3 0 ≤ 6 := h.2.2.2.1
theorem Inv.lr {S : zS} (h : Inv S) : ∀ f, f < S 1 0 → S 4 f < S 0 0 ∧ S 5 f < S 0 0 ∧ S 4 f ≠ S 5 f := h.2.2.2.2.1
theorem Inv.vm {S : zS} (h : Inv S) : ∀ k, k < S 2 0 → S 6 k ≤ 6 ∧ S 7 k ≤ 9 := h.2.2.2.2.2.1
theorem Inv.ko {S : zS} (h : Inv S) : ∀ b, b < S 3 0 → S 8 b < S 2 0 := h.2.2.2.2.2.2.1
theorem Inv.now {S : zS} (h : Inv S) : okR (S 0 0) (S 1 0) (S 3 0) (rN S) := h.2.2.2.2.2.2.2.1
theorem Inv.past {S : zS} (h : Inv S) : ∀ p, p < 3 → (p = 0 ∨ S 13 (p - 1) = 1) → S 10 p ≤ 10 ∧ ∀ n, n < S 10 p → okR (S 0 0) (S 1 0) (S 3 0) (rB S p n) := h.2.2.2.2.2.2.2.2.1
theorem Inv.img {S : zS} (h : Inv S) : ∀ p, p < 2 → S 13 p = 1 → okR (S 0 0) (S 1 0) (S 3 0) (rI S p) := h.2.2.2.2.2.2.2.2.2.1
theorem Inv.kept {S : zS} (h : Inv S) : ∀ p, p < 2 → S 13 p ≤ 1 := h.2.2.2.2.2.2.2.2.2.2.1
theorem Inv.heard {S : zS} (h : Inv S) : S 15 0 ≤ 6 := h.2.2.2.2.2.2.2.2.2.2.2.1
theorem Inv.ear {S : zS} (h : Inv S) : ∀ j, j < S 15 0 → S 14 j ≤ 43 := h.2.2.2.2.2.2.2.2.2.2.2.2.1
theorem Inv.typed {S : zS} (h : Inv S) : S 17 0 ≤ 150 := h.2.2.2.2.2.2.2.2.2.2.2.2.2.1
theorem Inv.text {S : zS} (h : Inv S) : ∀ j, j < S 17 0 → S 16 j < 256 := h.2.2.2.2.2.2.2.2.2.2.2.2.2.2
/-- a byte as the model keeps it -/
def zby (n : Nat) : Int32 := (nI n).toInt8.toInt32
/-- the model's memory is S -/
def MR (S : zS) (i : Nat → Nat → Int32) : Prop :=
  i 175 0 = nI (S 0 0) ∧ i 176 0 = nI (S 1 0) ∧ i 180 0 = nI (S 2 0) ∧ i 183 0 = nI (S 3 0) ∧ (∀ f, f < S 1 0 → i 177 f = nI (S 4 f) ∧ i 178 f = nI (S 5 f)) ∧ (∀ k, k < S 2 0 → i 181 k = nI (S 6 k) - 3 ∧ i 182 k = nI (S 7 k)) ∧ (∀ b, b < S 3 0 → i 184 b = nI (S 8 b)) ∧
  (∀ j, j < 30 → i 187 j = nI (S 9 j)) ∧ (∀ p, p < 3 → i 188 p = nI (S 10 p)) ∧ (∀ j, j < 900 → i 189 j = nI (S 11 j)) ∧ (∀ j, j < 60 → i 190 j = nI (S 12 j)) ∧ (∀ p, p < 2 → i 191 p = nI (S 13 p)) ∧ (∀ j, j < 6 → i 192 j = nI (S 14 j)) ∧ i 173 26 = nI (S 15 0) ∧ (∀ j, j < S 17 0 → i 174 j = zby (S 16 j)) ∧ i 173 1 = nI (S 17 0)
theorem MR.F {S : zS} {i} (h : MR S i) : i 175 0 = nI (S 0 0) := h.1
theorem MR.E {S : zS} {i} (h : MR S i) : i 176 0 = nI (S 1 0) := h.2.1
theorem MR.K {S : zS} {i} (h : MR S i) : i 180 0 = nI (S 2 0) := h.2.2.1
theorem MR.B {S : zS} {i} (h : MR S i) : i 183 0 = nI (S 3 0) := h.2.2.2.1
theorem MR.l {S : zS} {i} (h : MR S i) {f : Nat} (hf : f < S 1 0) : i 177 f = nI (S 4 f) := (h.2.2.2.2.1 f hf).1
theorem MR.r {S : zS} {i} (h : MR S i) {f : Nat} (hf : f < S 1 0) : i 178 f = nI (S 5 f) := (h.2.2.2.2.1 f hf).2
theorem MR.v {S : zS} {i} (h : MR S i) {k : Nat} (hk : k < S 2 0) : i 181 k = nI (S 6 k) - 3 := (h.2.2.2.2.2.1 k hk).1
theorem MR.m {S : zS} {i} (h : MR S i) {k : Nat} (hk : k < S 2 0) : i 182 k = nI (S 7 k) := (h.2.2.2.2.2.1 k hk).2
theorem MR.ko {S : zS} {i} (h : MR S i) {k : Nat} (hk : k < S 3 0) : i 184 k = nI (S 8 k) := h.2.2.2.2.2.2.1 k hk
theorem MR.now {S : zS} {i} (h : MR S i) {j : Nat} (hj : j < 30) : i 187 j = nI (S 9 j) := h.2.2.2.2.2.2.2.1 j hj
theorem MR.kn {S : zS} {i} (h : MR S i) {j : Nat} (hj : j < 3) : i 188 j = nI (S 10 j) := h.2.2.2.2.2.2.2.2.1 j hj
theorem MR.bf {S : zS} {i} (h : MR S i) {j : Nat} (hj : j < 900) : i 189 j = nI (S 11 j) := h.2.2.2.2.2.2.2.2.2.1 j hj
theorem MR.st {S : zS} {i} (h : MR S i) {j : Nat} (hj : j < 60) : i 190 j = nI (S 12 j) := h.2.2.2.2.2.2.2.2.2.2.1 j hj
theorem MR.kp {S : zS} {i} (h : MR S i) {j : Nat} (hj : j < 2) : i 191 j = nI (S 13 j) := h.2.2.2.2.2.2.2.2.2.2.2.1 j hj
theorem MR.ear {S : zS} {i} (h : MR S i) {j : Nat} (hj : j < 6) : i 192 j = nI (S 14 j) := h.2.2.2.2.2.2.2.2.2.2.2.2.1 j hj
theorem MR.hd {S : zS} {i} (h : MR S i) : i 173 26 = nI (S 15 0) := h.2.2.2.2.2.2.2.2.2.2.2.2.2.1
theorem MR.tx {S : zS} {i} (h : MR S i) {j : Nat} (hj : j < S 17 0) : i 174 j = zby (S 16 j) := h.2.2.2.2.2.2.2.2.2.2.2.2.2.2.1 j hj
theorem MR.ty {S : zS} {i} (h : MR S i) : i 173 1 = nI (S 17 0) := h.2.2.2.2.2.2.2.2.2.2.2.2.2.2.2
/-- a stand of the class: the object a, its rows behind it -/
def XSt (E B : Nat) (a : Nat) (r : Nat → Nat) (i : Nat → Nat → Int32) : Prop := (∀ b, b < B → i (a + 1) b = nI (r b)) ∧ (∀ f, f < E → i (a + 2) f = nI (r (6 + f))) ∧ (∀ j, j < r 17 → i (a + 3) j = nI (r (18 + (r 17 - 1 - j)))) ∧ i a 3 = nI (r 17) ∧ i a 4 = nI (r 14) ∧ i a 5 = nI (r 15) ∧ i a 6 = nI (r 16)
/-- a past of the class: the object a, its stands from a + 2 on; rows r n, n of them known -/
def XPa (E B : Nat) (a : Nat) (n : Nat) (r : Nat → Nat → Nat) (i : Nat → Nat → Int32) : Prop := i a 2 = nI n ∧ ∃ lt, lt < 10 ∧ i a 1 = nI lt ∧ ∀ t, t < n → XSt E B (a + 2 + 4 * ((lt + 10 - t) % 10)) (r (n - 1 - t)) i
def XR (S : zS) (i : Nat → Nat → Int32) : Prop :=
  i 3 0 = nI (S 0 0) ∧ i 3 1 = nI (S 1 0) ∧ i 3 5 = nI (S 2 0) ∧ i 3 8 = nI (S 3 0) ∧ (∀ f, f < S 1 0 → i 4 f = nI (S 4 f) ∧ i 5 f = nI (S 5 f)) ∧ (∀ k, k < S 2 0 → i 7 k = nI (S 6 k) - 3 ∧ i 8 k = nI (S 7 k)) ∧ (∀ b, b < S 3 0 → i 9 b = nI (S 8 b)) ∧
  XSt (S 1 0) (S 3 0) 19 (rN S) i ∧ XPa (S 1 0) (S 3 0) 24 (S 10 0) (rB S 0) i ∧
  (∀ p, p < 2 → i (79 + 47 * p) 2 = nI (S 13 p) ∧ (S 13 p = 1 → XSt (S 1 0) (S 3 0) (80 + 47 * p) (rI S p) i ∧ XPa (S 1 0) (S 3 0) (84 + 47 * p) (S 10 (1 + p)) (rB S (1 + p)) i)) ∧
  (∀ j, j < S 15 0 → i 68 j = nI (S 14 j)) ∧ i 67 6 = nI (S 15 0) ∧ (∀ j, j < S 17 0 → i 2 j = nI (S 16 j)) ∧ i 1 1 = nI (S 17 0)
theorem XR.F {S : zS} {i} (h : XR S i) : i 3 0 = nI (S 0 0) := h.1
theorem XR.E {S : zS} {i} (h : XR S i) : i 3 1 = nI (S 1 0) := h.2.1
theorem XR.K {S : zS} {i} (h : XR S i) : i 3 5 = nI (S 2 0) := h.2.2.1
theorem XR.B {S : zS} {i} (h : XR S i) : i 3 8 = nI (S 3 0) := h.2.2.2.1
theorem XR.l {S : zS} {i} (h : XR S i) {f : Nat} (hf : f < S 1 0) : i 4 f = nI (S 4 f) := (h.2.2.2.2.1 f hf).1
theorem XR.r {S : zS} {i} (h : XR S i) {f : Nat} (hf : f < S 1 0) : i 5 f = nI (S 5 f) := (h.2.2.2.2.1 f hf).2
theorem XR.v {S : zS} {i} (h : XR S i) {k : Nat} (hk : k < S 2 0) : i 7 k = nI (S 6 k) - 3 := (h.2.2.2.2.2.1 k hk).1
theorem XR.m {S : zS} {i} (h : XR S i) {k : Nat} (hk : k < S 2 0) : i 8 k = nI (S 7 k) := (h.2.2.2.2.2.1 k hk).2
theorem XR.ko {S : zS} {i} (h : XR S i) {k : Nat} (hk : k < S 3 0) : i 9 k = nI (S 8 k) := h.2.2.2.2.2.2.1 k hk
theorem XR.now {S : zS} {i} (h : XR S i) : XSt (S 1 0) (S 3 0) 19 (rN S) i := h.2.2.2.2.2.2.2.1
theorem XR.past {S : zS} {i} (h : XR S i) : XPa (S 1 0) (S 3 0) 24 (S 10 0) (rB S 0) i := h.2.2.2.2.2.2.2.2.1
theorem XR.img {S : zS} {i} (h : XR S i) {p : Nat} (hp : p < 2) : i (79 + 47 * p) 2 = nI (S 13 p) ∧ (S 13 p = 1 → XSt (S 1 0) (S 3 0) (80 + 47 * p) (rI S p) i ∧ XPa (S 1 0) (S 3 0) (84 + 47 * p) (S 10 (1 + p)) (rB S (1 + p)) i) := h.2.2.2.2.2.2.2.2.2.1 p hp
theorem XR.ear {S : zS} {i} (h : XR S i) {j : Nat} (hj : j < S 15 0) : i 68 j = nI (S 14 j) := h.2.2.2.2.2.2.2.2.2.2.1 j hj
theorem XR.hd {S : zS} {i} (h : XR S i) : i 67 6 = nI (S 15 0) := h.2.2.2.2.2.2.2.2.2.2.2.1
theorem XR.tx {S : zS} {i} (h : XR S i) {j : Nat} (hj : j < S 17 0) : i 2 j = nI (S 16 j) := h.2.2.2.2.2.2.2.2.2.2.2.2.1 j hj
theorem XR.ty {S : zS} {i} (h : XR S i) : i 1 1 = nI (S 17 0) := h.2.2.2.2.2.2.2.2.2.2.2.2.2
theorem XR.fld {S : zS} {i} (h : XR S i) {b : Nat} (hb : b < S 3 0) : i 20 b = nI (S 9 b) := h.now.1 b hb
theorem XR.pit {S : zS} {i} (h : XR S i) {f : Nat} (hf : f < S 1 0) : i 21 f = nI (S 9 (6 + f)) := h.now.2.1 f hf
theorem XR.song {S : zS} {i} (h : XR S i) {j : Nat} (hj : j < S 9 17) : i 22 j = nI (S 9 (18 + (S 9 17 - 1 - j))) := h.now.2.2.1 j hj
theorem XR.sung {S : zS} {i} (h : XR S i) : i 19 3 = nI (S 9 17) := h.now.2.2.2.1
theorem XR.cut {S : zS} {i} (h : XR S i) : i 19 4 = nI (S 9 14) := h.now.2.2.2.2.1
theorem XR.down {S : zS} {i} (h : XR S i) : i 19 5 = nI (S 9 15) := h.now.2.2.2.2.2.1
theorem XR.wet {S : zS} {i} (h : XR S i) : i 19 6 = nI (S 9 16) := h.now.2.2.2.2.2.2
/-- what the relation on the class's side reads -/
def xrd (c j : Nat) : Prop := c < 173 ∧ ¬ (c = 1 ∧ 2 ≤ j) ∧ ¬ (11 ≤ c ∧ c ≤ 18) ∧ ¬ (69 ≤ c ∧ c ≤ 78)
theorem XSt.congr {E B a : Nat} {r : Nat → Nat} {i i' : Nat → Nat → Int32} (h : XSt E B a r i) (he : ∀ c j, a ≤ c → c ≤ a + 3 → i' c j = i c j) : XSt E B a r i' := by
  obtain ⟨h1, h2, h3, h4, h5, h6, h7⟩ := h
  refine ⟨fun b hb => ?_, fun f hf => ?_, fun j hj => ?_, ?_, ?_, ?_, ?_⟩
  · rw [he _ _ (by omega) (by omega)]; exact h1 b hb
  · rw [he _ _ (by omega) (by omega)]; exact h2 f hf
  · rw [he _ _ (by omega) (by omega)]; exact h3 j hj
  · rw [he _ _ (by omega) (by omega)]; exact h4
  · rw [he _ _ (by omega) (by omega)]; exact h5
  · rw [he _ _ (by omega) (by omega)]; exact h6
  · rw [he _ _ (by omega) (by omega)]; exact h7
theorem XPa.congr {E B a n : Nat} {r : Nat → Nat → Nat} {i i' : Nat → Nat → Int32} (h : XPa E B a n r i) (he : ∀ c j, a ≤ c → c ≤ a + 41 → i' c j = i c j) : XPa E B a n r i' := by
  obtain ⟨h1, lt, h2, h3, h4⟩ := h
  refine ⟨by rw [he _ _ (by omega) (by omega)]; exact h1, lt, h2, by rw [he _ _ (by omega) (by omega)]; exact h3, fun t ht => (h4 t ht).congr (fun c j g1 g2 => he c j ?_ ?_)⟩
  · omega
  · have : (lt + 10 - t) % 10 < 10 := Nat.mod_lt _ (by decide)
    omega
theorem XR.congr {S : zS} {i i' : Nat → Nat → Int32} (h : XR S i) (he : ∀ c j, xrd c j → i' c j = i c j) : XR S i' := by
  have e : ∀ c j, c < 173 → (c ≠ 1 ∨ j < 2) → (c < 11 ∨ 18 < c) → (c < 69 ∨ 78 < c) → i' c j = i c j := fun c j h1 h2 h3 h4 => he c j ⟨h1, by omega, by omega, by omega⟩
  obtain ⟨h1, h2, h3, h4, h5, h6, h7, h8, h9, h10, h11, h12, h13, h14⟩ := h
  refine ⟨?_, ?_, ?_, ?_, fun f hf => ?_, fun k hk => ?_, fun b hb => ?_, h8.congr (fun c j g1 g2 => e c j ?_ ?_ ?_ ?_), h9.congr (fun c j g1 g2 => e c j ?_ ?_ ?_ ?_), fun p hp => ⟨?_, fun hk => ⟨((h10 p hp).2 hk).1.congr (fun c j g1 g2 => e c j ?_ ?_ ?_ ?_), ((h10 p hp).2 hk).2.congr (fun c j g1 g2 => e c j ?_ ?_ ?_ ?_)⟩⟩, fun j hj => ?_, ?_, fun j hj => ?_, ?_⟩
  · rw [e _ _ (by omega) (by omega) (by omega) (by omega)]; exact h1
  · rw [e _ _ (by omega) (by omega) (by omega) (by omega)]; exact h2
  · rw [e _ _ (by omega) (by omega) (by omega) (by omega)]; exact h3
  · rw [e _ _ (by omega) (by omega) (by omega) (by omega)]; exact h4
  · rw [e _ _ (by omega) (by omega) (by omega) (by omega), e _ _ (by omega) (by omega) (by omega) (by omega)]; exact h5 f hf
  · rw [e _ _ (by omega) (by omega) (by omega) (by omega), e _ _ (by omega) (by omega) (by omega) (by omega)]; exact h6 k hk
  · rw [e _ _ (by omega) (by omega) (by omega) (by omega)]; exact h7 b hb
  all_goals first | omega | skip
  · rw [e _ _ (by omega) (by omega) (by omega) (by omega)]; exact (h10 p hp).1
  · rw [e _ _ (by omega) (by omega) (by omega) (by omega)]; exact h11 j hj
  · rw [e _ _ (by omega) (by omega) (by omega) (by omega)]; exact h12
  · rw [e _ _ (by omega) (by omega) (by omega) (by omega)]; exact h13 j hj
  · rw [e _ _ (by omega) (by omega) (by omega) (by omega)]; exact h14
/-- what the relation on the model's side reads -/
def mrd (c j : Nat) : Prop := 173 ≤ c ∧ ¬ (c = 173 ∧ 14 ≤ j ∧ j ≤ 19) ∧ ¬ (c = 175 ∧ 1 ≤ j) ∧ ¬ (c = 176 ∧ 1 ≤ j) ∧ ¬ (c = 180 ∧ 1 ≤ j) ∧ ¬ (c = 183 ∧ 1 ≤ j) ∧ ¬ ((c = 177 ∨ c = 178 ∨ c = 179) ∧ 8 ≤ j) ∧ ¬ ((c = 181 ∨ c = 182) ∧ 4 ≤ j) ∧ ¬ (c = 184 ∧ 6 ≤ j) ∧ c ≠ 179 ∧ c ≠ 185 ∧ c ≠ 186 ∧ ¬ (193 ≤ c)
theorem MR.congr {S : zS} {i i' : Nat → Nat → Int32} (h : MR S i) (hI : Inv S) (he : ∀ c j, mrd c j → i' c j = i c j) : MR S i' := by
  have hE := hI.E
  have hK := hI.K
  have hB := hI.B
  have e : ∀ c j, 173 ≤ c → (c ≠ 173 ∨ j < 14 ∨ 19 < j) → (c ≠ 175 ∨ j = 0) → (c ≠ 176 ∨ j = 0) → (c ≠ 180 ∨ j = 0) → (c ≠ 183 ∨ j = 0) → ((c ≠ 177 ∧ c ≠ 178) ∨ j < 8) → ((c ≠ 181 ∧ c ≠ 182) ∨ j < 4) → (c ≠ 184 ∨ j < 6) → c ≠ 179 → c ≠ 185 → c ≠ 186 → c < 193 → i' c j = i c j := fun c j h1 h2 h3 h4 h5 h6 h7 h8 h9 h10 h11 h12 h13 => he c j (by unfold mrd; omega)
  obtain ⟨h1, h2, h3, h4, h5, h6, h7, h8, h9, h10, h11, h12, h13, h14, h15, h16⟩ := h
  refine ⟨?_, ?_, ?_, ?_, fun f hf => ?_, fun k hk => ?_, fun b hb => ?_, fun j hj => ?_, fun p hp => ?_, fun j hj => ?_, fun j hj => ?_, fun p hp => ?_, fun j hj => ?_, ?_, fun j hj => ?_, ?_⟩
  · rw [e] <;> first | exact h1 | omega
  · rw [e] <;> first | exact h2 | omega
  · rw [e] <;> first | exact h3 | omega
  · rw [e] <;> first | exact h4 | omega
  · rw [e 177 f, e 178 f] <;> first | exact h5 f hf | omega
  · rw [e 181 k, e 182 k] <;> first | exact h6 k hk | omega
  · rw [e] <;> first | exact h7 b hb | omega
  · rw [e] <;> first | exact h8 j hj | omega
  · rw [e] <;> first | exact h9 p hp | omega
  · rw [e] <;> first | exact h10 j hj | omega
  · rw [e] <;> first | exact h11 j hj | omega
  · rw [e] <;> first | exact h12 p hp | omega
  · rw [e] <;> first | exact h13 j hj | omega
  · rw [e] <;> first | exact h14 | omega
  · rw [e] <;> first | exact h15 j hj | omega
  · rw [e] <;> first | exact h16 | omega
