/-! now: the model's search downwards -/
theorem zpc_le (n : Nat) : zpc n ≤ 8 := zsum_le (fun j => by have := zbt_01 n j; omega) 8
theorem c_mG1 (sc : zScr) {P : Nat → Prop} [DecidablePred P] {A : Nat} (hA : A < 256) (v1 : Int32) (i : Nat → Nat → Int32) (b : Bool) (l : Nat → Nat → Int64) (hP : ∀ v2 v3 v5 s, s ≤ A → zev sc (157, 57, [some (.ref 173), some (.int v1), some (.int v2), some (.int v3), some (.int (nI s)), some (.int v5)], [], (197, i, zRF b, l)) = zev sc (157, if P s then 82 else 87, [some (.ref 173), some (.int v1), some (.int v2), some (.int v3), some (.int (nI s)), some (.int v5)], [], (197, i, zRF b, l))) (s d : Nat) (hs : s + d = A) (w : Option Value) : ∃ w', zev sc (157, 28, [some (.ref 173), some (.int v1), some (.int (nI A)), some (.int (nI (sGw P A d))), some (.int (nI s)), w], [], (197, i, zRF b, l)) = zev sc (157, 28, [some (.ref 173), some (.int v1), some (.int (nI A)), some (.int (nI (sGw P A (d + 1)))), some (.int (nI s + (-1))), some (.int w')], [], (197, i, zRF b, l)) := by
  have hg := sGw_le (P := P) (A := A) d
  have z1 := zpc_le s
  have z2 := zpc_le (sGw P A d)
  have es : A - d = s := by omega
  have hh : zev sc (157, 28, [some (.ref 173), some (.int v1), some (.int (nI A)), some (.int (nI (sGw P A d))), some (.int (nI s)), w], [], (197, i, zRF b, l)) = if nI (zpc (sGw P A d)) < nI (zpc s) then zev sc (157, 49, [some (.ref 173), some (.int v1), some (.int (nI A)), some (.int (nI (sGw P A d))), some (.int (nI s)), w], [], (197, i, zRF b, l)) else zev sc (157, 45, [some (.ref 173), some (.int v1), some (.int (nI A)), some (.int (nI (sGw P A d))), some (.int (nI s)), w], [], (197, i, zRF b, l)) := by
    rw [b157_28, if_neg (nI_pos (by omega)), b157_33, c_bitsOf sc (by omega), Option.bind_some]
    dsimp only
    rw [b157_38, c_bitsOf sc (by omega), Option.bind_some]
    dsimp only
    rw [b157_42]
  by_cases q : zpc (sGw P A d) < zpc s
  · refine ⟨0, ?_⟩
    rw [hh, if_pos ((nI_ltI (by omega) (by omega)).mpr q), b157_49, b157_50, if_pos rfl, b157_87, b157_88, show sGw P A (d + 1) = sGw P A d from if_neg (fun z => by have := z.1; rw [es] at this; omega)]
  · refine ⟨1, ?_⟩
    rw [hh, if_neg (fun z => q ((nI_ltI (by omega) (by omega)).mp z)), b157_45, b157_50, if_neg (by decide), hP _ _ _ s (by omega)]
    by_cases hp : P s
    · rw [if_pos hp, b157_82, b157_88, show sGw P A (d + 1) = A - d from if_pos (by rw [es]; exact ⟨by omega, hp⟩), es]
    · rw [if_neg hp, b157_87, b157_88, show sGw P A (d + 1) = sGw P A d from if_neg (fun z => by have := z.2; rw [es] at this; exact hp this)]
theorem c_mGw (sc : zScr) {P : Nat → Prop} [DecidablePred P] {A : Nat} (hA : A < 256) (v1 : Int32) (i : Nat → Nat → Int32) (b : Bool) (l : Nat → Nat → Int64) (hP : ∀ v2 v3 v5 s, s ≤ A → zev sc (157, 57, [some (.ref 173), some (.int v1), some (.int v2), some (.int v3), some (.int (nI s)), some (.int v5)], [], (197, i, zRF b, l)) = zev sc (157, if P s then 82 else 87, [some (.ref 173), some (.int v1), some (.int v2), some (.int v3), some (.int (nI s)), some (.int v5)], [], (197, i, zRF b, l))) : ∀ (s d : Nat) (w : Option Value), s + d = A → zev sc (157, 28, [some (.ref 173), some (.int v1), some (.int (nI A)), some (.int (nI (sGw P A d))), some (.int (nI s)), w], [], (197, i, zRF b, l)) = some (.int (nI (sGw P A (A + 1))), (197, i, zRF b, l))
  | 0, d, w, hs => by
    obtain ⟨w', h⟩ := c_mG1 sc (P := P) hA v1 i b l hP 0 d hs w
    have e : d = A := by omega
    subst e
    rw [h, b157_28, if_pos (show nI 0 + (-1) < 0 by decide), b157_95]
  | s + 1, d, w, hs => by
    obtain ⟨w', h⟩ := c_mG1 sc (P := P) hA v1 i b l hP (s + 1) d hs w
    rw [h, Lm1, show nI (s + 1) - nI 1 = nI s from nI_pred s]
    exact c_mGw sc hA v1 i b l hP s (d + 1) _ (by omega)
