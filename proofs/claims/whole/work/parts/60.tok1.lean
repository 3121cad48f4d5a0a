/-! downs: the tokens of a text -/
def zch (S : zS) (a : Nat) : Nat := if a < S 17 0 then S 16 a else 300
abbrev zLe (c : Nat) : Prop := 97 ≤ c ∧ c ≤ 122
abbrev zDi (c : Nat) : Prop := 48 ≤ c ∧ c ≤ 57
abbrev zSp (c : Nat) : Prop := c = 32
def zru (S : zS) (P : Nat → Prop) [DecidablePred P] : Nat → Nat → Nat
  | 0, a => a
  | k + 1, a => if P (zch S a) then zru S P k (a + 1) else a
def zrc (S : zS) (P : Nat → Prop) [DecidablePred P] (a : Nat) : Nat := zru S P (S 17 0 - a) a
def zdg (S : zS) : Nat → Nat → Nat → Nat
  | 0, _, v => v
  | k + 1, a, v => if zDi (zch S a) then zdg S k (a + 1) (if 99 < v then v else 10 * v + zch S a - 48) else v
theorem zrc_out {S : zS} {P : Nat → Prop} [DecidablePred P] {a : Nat} (h : S 17 0 ≤ a) : zrc S P a = a := by
  unfold zrc
  rw [show S 17 0 - a = 0 by omega]
  rfl
theorem zrc_yes {S : zS} {P : Nat → Prop} [DecidablePred P] {a : Nat} (h : a < S 17 0) (hp : P (S 16 a)) : zrc S P a = zrc S P (a + 1) := by
  unfold zrc
  rw [show S 17 0 - a = S 17 0 - (a + 1) + 1 by omega]
  have e : zch S a = S 16 a := if_pos h
  exact if_pos (by rw [e]; exact hp)
theorem zrc_no {S : zS} {P : Nat → Prop} [DecidablePred P] {a : Nat} (h : a < S 17 0) (hp : ¬ P (S 16 a)) : zrc S P a = a := by
  unfold zrc
  rw [show S 17 0 - a = S 17 0 - (a + 1) + 1 by omega]
  have e : zch S a = S 16 a := if_pos h
  exact if_neg (by rw [e]; exact hp)
theorem zru_ge (S : zS) (P : Nat → Prop) [DecidablePred P] : ∀ k a, a ≤ zru S P k a ∧ zru S P k a ≤ a + k
  | 0, a => ⟨Nat.le_refl _, Nat.le_refl _⟩
  | k + 1, a => by
    have ih := zru_ge S P k (a + 1)
    show a ≤ (if P (zch S a) then zru S P k (a + 1) else a) ∧ (if P (zch S a) then zru S P k (a + 1) else a) ≤ a + (k + 1)
    split <;> omega
theorem zrc_ge (S : zS) (P : Nat → Prop) [DecidablePred P] (a : Nat) : a ≤ zrc S P a ∧ (a ≤ S 17 0 → zrc S P a ≤ S 17 0) := by
  have := zru_ge S P (S 17 0 - a) a
  unfold zrc
  omega
theorem zrc_at {S : zS} {P : Nat → Prop} [DecidablePred P] : ∀ k a, S 17 0 - a = k → zrc S P a < S 17 0 → ¬ P (S 16 (zrc S P a))
  | 0, a, hk, h => by
    rw [zrc_out (by omega)] at h
    omega
  | k + 1, a, hk, h => by
    by_cases hp : P (S 16 a)
    · rw [zrc_yes (by omega) hp] at h ⊢
      exact zrc_at k (a + 1) (by omega) h
    · rw [zrc_no (by omega) hp]
      exact hp
def zst (S : zS) (a : Nat) : Nat := zrc S zSp a
def zdv1 (S : zS) (a : Nat) : Nat := zdg S (S 17 0 - a) a 0
/-- which token: 0 the end, 1 letters, 2 a number, 3 a stop, 4 none -/
def zso (S : zS) (a : Nat) : Nat := if S 17 0 ≤ zst S a then 0 else if zLe (S 16 (zst S a)) then 1 else if zDi (S 16 (zst S a)) then (if (S 16 (zst S a) = 48 ∧ 1 < zrc S zDi (zst S a) - zst S a) ∨ 99 < zdv1 S (zst S a) then 4 else 2) else if S 16 (zst S a) = 59 then 3 else 4
def zen (S : zS) (a : Nat) : Nat := if S 17 0 ≤ zst S a then zst S a else if zLe (S 16 (zst S a)) then zrc S zLe (zst S a) else if zDi (S 16 (zst S a)) then zrc S zDi (zst S a) else zst S a + 1
def zva (S : zS) (a : Nat) : Nat := if zLe (S 16 (zst S a)) then (if zrc S zLe (zst S a) - zst S a = 1 then S 16 (zst S a) else 0) else zdv1 S (zst S a)
theorem zst_ge (S : zS) (a : Nat) : a ≤ zst S a ∧ (a ≤ S 17 0 → zst S a ≤ S 17 0) := zrc_ge S zSp a
theorem zen_ge {S : zS} {a : Nat} (h : a ≤ S 17 0) : zst S a ≤ zen S a ∧ zen S a ≤ S 17 0 ∧ (zso S a ≠ 0 → zst S a + 1 ≤ zen S a) := by
  have h1 := (zst_ge S a).2 h
  unfold zen zso
  by_cases c1 : S 17 0 ≤ zst S a
  · rw [if_pos c1, if_pos c1]
    exact ⟨Nat.le_refl _, h1, fun z => absurd rfl z⟩
  · rw [if_neg c1, if_neg c1]
    by_cases c2 : zLe (S 16 (zst S a))
    · rw [if_pos c2]
      have g := zrc_ge S zLe (zst S a + 1)
      rw [zrc_yes (by omega) c2]
      omega
    · rw [if_neg c2]
      by_cases c3 : zDi (S 16 (zst S a))
      · rw [if_pos c3]
        have g := zrc_ge S zDi (zst S a + 1)
        rw [zrc_yes (by omega) c3]
        omega
      · rw [if_neg c3]
        omega
theorem zdg_yes {S : zS} {a v : Nat} (h : a < S 17 0) (hp : zDi (S 16 a)) : zdg S (S 17 0 - a) a v = zdg S (S 17 0 - (a + 1)) (a + 1) (if 99 < v then v else 10 * v + S 16 a - 48) := by
  rw [show S 17 0 - a = S 17 0 - (a + 1) + 1 by omega]
  have e : zch S a = S 16 a := if_pos h
  show (if zDi (zch S a) then zdg S (S 17 0 - (a + 1)) (a + 1) (if 99 < v then v else 10 * v + zch S a - 48) else v) = _
  rw [e, if_pos hp]
theorem zdg_no {S : zS} {a v : Nat} (h : a < S 17 0) (hp : ¬ zDi (S 16 a)) : zdg S (S 17 0 - a) a v = v := by
  rw [show S 17 0 - a = S 17 0 - (a + 1) + 1 by omega]
  have e : zch S a = S 16 a := if_pos h
  show (if zDi (zch S a) then zdg S (S 17 0 - (a + 1)) (a + 1) (if 99 < v then v else 10 * v + zch S a - 48) else v) = _
  rw [e, if_neg hp]
theorem zdg_out {S : zS} {a v : Nat} (h : S 17 0 ≤ a) : zdg S (S 17 0 - a) a v = v := by
  rw [show S 17 0 - a = 0 by omega]
  rfl
theorem zdg_le (S : zS) : ∀ k a v, v ≤ 999 → zdg S k a v ≤ 999
  | 0, a, v, h => h
  | k + 1, a, v, h => by
    show (if zDi (zch S a) then zdg S k (a + 1) (if 99 < v then v else 10 * v + zch S a - 48) else v) ≤ 999
    by_cases hd : zDi (zch S a)
    · rw [if_pos hd]
      refine zdg_le S k (a + 1) _ ?_
      have := hd.2
      split <;> omega
    · rw [if_neg hd]
      exact h
/-! the class's steps -/
def zFx (i i' : Nat → Nat → Int32) : Prop := ∀ c t, (c ≠ 1 ∨ t < 2 ∨ 5 < t) → i' c t = i c t
theorem zFx.refl (i : Nat → Nat → Int32) : zFx i i := fun _ _ _ => rfl
theorem zFx.trans {i j k : Nat → Nat → Int32} (h1 : zFx i j) (h2 : zFx j k) : zFx i k := fun c t h => by rw [h2 c t h, h1 c t h]
theorem zFx.one {i j : Nat → Nat → Int32} (h : zFx i j) {t : Nat} (ht : 2 ≤ t ∧ t ≤ 5) (v : Int32) : zFx i (zU j 1 t v) := fun c u hu => by rw [zUn _ _ (by omega), h c u hu]
theorem XT.fx {S : zS} {i i' : Nat → Nat → Int32} (h : XT S i) (hf : zFx i i') : XT S i' := h.congr (fun c t z => hf c t (by omega))
theorem c_isL (sc : zScr) {c : Nat} (hc : c < 2 ^ 31) (b : Bool) (l : Nat → Nat → Int64) (i : Nat → Nat → Int32) : zev sc (71, 0, [some (.int (nI c))], [], (197, i, zRF b, l)) = some (.int (if zLe c then 1 else 0), (197, i, zRF b, l)) := by
  rw [b71_0]
  by_cases h1 : 97 ≤ c
  · rw [if_neg (show ¬ nI c < 97 from nI_nlt (b := 97) h1 hc), b71_6]
    by_cases h2 : c ≤ 122
    · rw [if_neg (show ¬ (122 : Int32) < nI c from nI_nlt (a := 122) h2 (by decide)), b71_12, b71_17 _ _ _ _ _ _ (Or.inr rfl), if_pos ⟨h1, h2⟩]
    · rw [if_pos (show (122 : Int32) < nI c from (nI_ltI (a := 122) (by decide) hc).mpr (by omega)), b71_16, b71_17 _ _ _ _ _ _ (Or.inl rfl), if_neg (fun z => h2 z.2)]
  · rw [if_pos (show nI c < 97 from (nI_ltI (b := 97) hc (by decide)).mpr (by omega)), b71_16, b71_17 _ _ _ _ _ _ (Or.inl rfl), if_neg (fun z => h1 z.1)]
theorem c_isD (sc : zScr) {c : Nat} (hc : c < 2 ^ 31) (b : Bool) (l : Nat → Nat → Int64) (i : Nat → Nat → Int32) : zev sc (72, 0, [some (.int (nI c))], [], (197, i, zRF b, l)) = some (.int (if zDi c then 1 else 0), (197, i, zRF b, l)) := by
  rw [b72_0]
  by_cases h1 : 48 ≤ c
  · rw [if_neg (show ¬ nI c < 48 from nI_nlt (b := 48) h1 hc), b72_6]
    by_cases h2 : c ≤ 57
    · rw [if_neg (show ¬ (57 : Int32) < nI c from nI_nlt (a := 57) h2 (by decide)), b72_12, b72_17 _ _ _ _ _ _ (Or.inr rfl), if_pos ⟨h1, h2⟩]
    · rw [if_pos (show (57 : Int32) < nI c from (nI_ltI (a := 57) (by decide) hc).mpr (by omega)), b72_16, b72_17 _ _ _ _ _ _ (Or.inl rfl), if_neg (fun z => h2 z.2)]
  · rw [if_pos (show nI c < 48 from (nI_ltI (b := 48) hc (by decide)).mpr (by omega)), b72_16, b72_17 _ _ _ _ _ _ (Or.inl rfl), if_neg (fun z => h1 z.1)]
theorem c_xSk (sc : zScr) {S : zS} (hn : S 17 0 ≤ 150) (hb : ∀ j, j < S 17 0 → S 16 j < 256) (b : Bool) (l : Nat → Nat → Int64) : ∀ (k a : Nat) (i : Nat → Nat → Int32), S 17 0 - a = k → a ≤ S 17 0 → XT S i → i 1 2 = nI a → ∃ i', zev sc (68, 0, [some (.ref 1)], [], (197, i, zRF b, l)) = zev sc (68, 38, [some (.ref 1)], [], (197, i', zRF b, l)) ∧ i' 1 2 = nI (zst S a) ∧ zFx i i'
  | 0, a, i, hk, ha, hT, h2 => by
    refine ⟨i, ?_, by unfold zst; rw [zrc_out (by omega)]; exact h2, zFx.refl i⟩
    rw [b68_0, hT.2, h2, if_pos ((nI_leI (by omega) (by omega)).mpr (by omega))]
  | k + 1, a, i, hk, ha, hT, h2 => by
    have hba := hb a (by omega)
    have hh : zev sc (68, 0, [some (.ref 1)], [], (197, i, zRF b, l)) = if nI (S 16 a) = 32 then zev sc (68, 25, [some (.ref 1)], [], (197, i, zRF b, l)) else zev sc (68, 38, [some (.ref 1)], [], (197, i, zRF b, l)) := by
      rw [b68_0, hT.2, h2, if_neg (zq_nle (by omega) (by omega)), b68_11 _ _ _ _ (by rw [h2]; exact vp_in_nI (by omega) (by decide)), h2, nI_clamp (by omega), hT.1 a (by omega)]
    by_cases hs : S 16 a = 32
    · have hf : zFx i (zU i 1 2 (nI (a + 1))) := (zFx.refl i).one (by decide) _
      obtain ⟨i', p1, p2, p3⟩ := c_xSk sc hn hb b l k (a + 1) (zU i 1 2 (nI (a + 1))) (by omega) (by omega) (hT.fx hf) (by rw [zUs])
      refine ⟨i', ?_, ?_, hf.trans p3⟩
      · rw [hh, if_pos (by rw [hs]; rfl), b68_25, h2, nI_1, p1]
      · rw [p2]
        unfold zst
        rw [zrc_yes (P := zSp) (by omega) hs]
    · refine ⟨i, ?_, ?_, zFx.refl i⟩
      · rw [hh, if_neg (show ¬ nI (S 16 a) = 32 from fun z => hs ((nI_eq (b := 32) (by omega) (by decide)).mp z))]
      · rw [h2]
        unfold zst
        rw [zrc_no (P := zSp) (by omega) hs]
theorem c_xLt (sc : zScr) {S : zS} (hn : S 17 0 ≤ 150) (hb : ∀ j, j < S 17 0 → S 16 j < 256) (b : Bool) (l : Nat → Nat → Int64) : ∀ (k a : Nat) (i : Nat → Nat → Int32), S 17 0 - a = k → a ≤ S 17 0 → XT S i → i 1 2 = nI a → ∃ i', zev sc (69, 28, [some (.ref 1)], [], (197, i, zRF b, l)) = some (.null, (197, i', zRF b, l)) ∧ i' 1 2 = nI (zrc S zLe a) ∧ i' 1 3 = i 1 3 ∧ i' 1 4 = i 1 4 ∧ i' 1 5 = (if zrc S zLe a = a then i 1 5 else 0) ∧ zFx i i'
  | 0, a, i, hk, ha, hT, h2 => by
    have e : zrc S zLe a = a := zrc_out (by omega)
    refine ⟨i, ?_, by rw [e]; exact h2, rfl, rfl, by rw [if_pos e], zFx.refl i⟩
    rw [b69_28, hT.2, h2, if_pos ((nI_leI (by omega) (by omega)).mpr (by omega)), b69_72]
  | k + 1, a, i, hk, ha, hT, h2 => by
    have hba := hb a (by omega)
    have hh : zev sc (69, 28, [some (.ref 1)], [], (197, i, zRF b, l)) = zev sc (69, 51, [some (.ref 1)], [.int (if zLe (S 16 a) then 1 else 0)], (197, i, zRF b, l)) := by
      rw [b69_28, hT.2, h2, if_neg (zq_nle (by omega) (by omega)), b69_39 _ _ _ _ (by rw [h2]; exact vp_in_nI (by omega) (by decide)), h2, nI_clamp (by omega), hT.1 a (by omega), c_isL sc (by omega), Option.bind_some]
    by_cases hs : zLe (S 16 a)
    · have hf : zFx i (zU (zU i 1 5 0) 1 2 (nI (a + 1))) := ((zFx.refl i).one (by decide) _).one (by decide) _
      obtain ⟨i', p1, p2, p3, p4, p5, p6⟩ := c_xLt sc hn hb b l k (a + 1) (zU (zU i 1 5 0) 1 2 (nI (a + 1))) (by omega) (by omega) (hT.fx hf) (by rw [zUs])
      have hg := (zrc_ge S zLe (a + 1)).1
      have e : zrc S zLe a = zrc S zLe (a + 1) := zrc_yes (by omega) hs
      refine ⟨i', ?_, by rw [p2, e], by rw [p3, zUn _ _ (Or.inr (by decide)), zUn _ _ (Or.inr (by decide))], by rw [p4, zUn _ _ (Or.inr (by decide)), zUn _ _ (Or.inr (by decide))], ?_, hf.trans p6⟩
      · rw [hh, if_pos hs, b69_51, if_neg (by decide), b69_54, zUn (f := i) (a := 1) (j := 5) _ (q := 1) (t := 2) (Or.inr (by decide)), h2, nI_1, p1]
      · rw [p5, e, if_neg (show ¬ zrc S zLe (a + 1) = a by omega), zUn _ _ (Or.inr (by decide)), zUs]
        split <;> rfl
    · have e : zrc S zLe a = a := zrc_no (by omega) hs
      refine ⟨i, ?_, by rw [e]; exact h2, rfl, rfl, by rw [if_pos e], zFx.refl i⟩
      rw [hh, if_neg hs, b69_51, if_pos rfl, b69_72]
def zcap (v : Nat) : Nat := if v < 100 then v else 100
theorem c_xDg (sc : zScr) {S : zS} (hn : S 17 0 ≤ 150) (hb : ∀ j, j < S 17 0 → S 16 j < 256) (b : Bool) (l : Nat → Nat → Int64) : ∀ (k a v : Nat) (i : Nat → Nat → Int32), S 17 0 - a = k → a ≤ S 17 0 → v ≤ 999 → XT S i → i 1 2 = nI a → i 1 5 = nI (zcap v) → ∃ i', zev sc (70, 5, [some (.ref 1), none], [], (197, i, zRF b, l)) = zev sc (70, 73, [some (.ref 1), none], [], (197, i', zRF b, l)) ∧ i' 1 2 = nI (zrc S zDi a) ∧ i' 1 3 = i 1 3 ∧ i' 1 4 = i 1 4 ∧ i' 1 5 = nI (zcap (zdg S (S 17 0 - a) a v)) ∧ zFx i i'
  | 0, a, v, i, hk, ha, hv, hT, h2, h5 => by
    refine ⟨i, ?_, by rw [zrc_out (by omega)]; exact h2, rfl, rfl, by rw [zdg_out (by omega)]; exact h5, zFx.refl i⟩
    rw [b70_5, hT.2, h2, if_pos ((nI_leI (by omega) (by omega)).mpr (by omega))]
  | k + 1, a, v, i, hk, ha, hv, hT, h2, h5 => by
    have hba := hb a (by omega)
    have hvp : vp_in (nI a) 150 := vp_in_nI (by omega) (by decide)
    have hh : zev sc (70, 5, [some (.ref 1), none], [], (197, i, zRF b, l)) = zev sc (70, 28, [some (.ref 1), none], [.int (if zDi (S 16 a) then 1 else 0)], (197, i, zRF b, l)) := by
      rw [b70_5, hT.2, h2, if_neg (zq_nle (by omega) (by omega)), b70_16 _ _ _ _ (by rw [h2]; exact hvp), h2, nI_clamp (by omega), hT.1 a (by omega), c_isD sc (by omega), Option.bind_some]
    by_cases hs : zDi (S 16 a)
    · have hs1 := hs.1
      have hs2 := hs.2
      have hcap : zcap v ≤ 100 := by unfold zcap; split <;> omega
      have ev : (if nI (zcap v) * 10 + nI (S 16 a) - 48 < (100 : Int32) then nI (zcap v) * 10 + nI (S 16 a) - 48 else 100) = nI (zcap (if 99 < v then v else 10 * v + S 16 a - 48)) := by
        rw [L10, zmul, nI_add, L48, pk_sub (by omega), L100, zif_nI (by omega) (by decide)]
        congr 1
        unfold zcap
        repeat' split
        all_goals omega
      have hf : ∀ u, zFx i (zU (zU i 1 5 u) 1 2 (nI (a + 1))) := fun u => ((zFx.refl i).one (by decide) _).one (by decide) _
      obtain ⟨i', p1, p2, p3, p4, p5, p6⟩ := c_xDg sc hn hb b l k (a + 1) (if 99 < v then v else 10 * v + S 16 a - 48) (zU (zU i 1 5 (nI (zcap (if 99 < v then v else 10 * v + S 16 a - 48)))) 1 2 (nI (a + 1))) (by omega) (by omega) (by split <;> omega) (hT.fx (hf _)) (by rw [zUs]) (by rw [zUn _ _ (Or.inr (by decide)), zUs])
      refine ⟨i', ?_, by rw [p2, ← zrc_yes (P := zDi) (by omega) hs], by rw [p3, zUn _ _ (Or.inr (by decide)), zUn _ _ (Or.inr (by decide))], by rw [p4, zUn _ _ (Or.inr (by decide)), zUn _ _ (Or.inr (by decide))], by rw [p5, zdg_yes (by omega) hs], (hf _).trans p6⟩
      rw [hh, if_pos hs, b70_28, if_neg (by decide), b70_31 _ _ _ _ (by rw [h2]; exact hvp), h2, h5, nI_clamp (by omega), hT.1 a (by omega), ev, zUn (f := i) (a := 1) (j := 5) _ (q := 1) (t := 2) (Or.inr (by decide)), h2, nI_1, p1]
    · refine ⟨i, ?_, by rw [zrc_no (P := zDi) (by omega) hs]; exact h2, rfl, rfl, by rw [zdg_no (by omega) hs]; exact h5, zFx.refl i⟩
      rw [hh, if_neg hs, b70_28, if_pos rfl]
