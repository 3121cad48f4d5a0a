/-! mark -/
def sTr (c : Nat) : Nat → Nat → Int64 → Int64
  | 0, _, _ => 0
  | n + 1, j, v => (if zbt c j = 1 then v else 0) + sTr c n (j + 1) (v * 10)
def sMk (S : zS) (c f : Nat) : Int32 := (if zbt c 3 = 1 then 2 * ((nI (S 9 (6 + f)) + (if zbt c 1 = 1 then nI (S 9 16) else 0)) - (if zbt c 2 = 1 then nI (sFif S (S 4 f)) else 0)) else ((nI (S 9 (6 + f)) + (if zbt c 1 = 1 then nI (S 9 16) else 0)) - (if zbt c 2 = 1 then nI (sFif S (S 4 f)) else 0))) + (if zbt c 4 = 1 then nI f else 0) + (if zbt c 5 = 1 then nI (S 9 17) else 0)
theorem c_mTr (sc : zScr) {c : Nat} (hc : c < 64) (v1 v2 : Int32) (b : Bool) (i : Nat → Nat → Int32) : ∀ (n j : Nat) (v4 : Int64) (l : Nat → Nat → Int64), j + n = 6 → ∃ l' v4', zev sc (179, 31, [some (.ref 173), some (.int v1), some (.int v2), some (.int (nI c)), some (.long v4), none, some (.int (nI j))], [], (197, i, zRF b, l)) = zev sc (179, 76, [some (.ref 173), some (.int v1), some (.int v2), some (.int (nI c)), some (.long v4'), none, some (.int (nI 6))], [], (197, i, zRF b, l')) ∧ l' 173 31 = l 173 31 + sTr c n j v4 ∧ ∀ a t, a ≠ 173 → l' a t = l a t
  | 0, j, v4, l, hj => by
    have e : j = 6 := by omega
    subst e
    refine ⟨l, v4, ?_, ?_, fun _ _ _ => rfl⟩
    · rw [b179_31, if_pos (by decide)]
    · show _ = _ + 0
      rw [Int64.add_zero]
  | n + 1, j, v4, l, hj => by
    obtain ⟨l', v4', g1, g2, g3⟩ := c_mTr sc hc v1 v2 b i n (j + 1) (v4 * 10) (zU l 173 31 (l 173 31 + (if zbt c j = 1 then v4 else 0))) (by omega)
    refine ⟨l', v4', ?_, ?_, fun a t ha => by rw [g3 a t ha, zUn _ _ (Or.inl ha)]⟩
    · rw [← g1, b179_31, if_neg (show ¬ (6 : Int32) ≤ nI j from zq_nle (a := 6) (by omega) (by decide)), b179_38, c_has sc (by omega) (by omega), Option.bind_some]
      dsimp only
      rw [b179_49]
      rcases zbt_01 c j with q | q
      · rw [q, if_pos (show nI 0 = 0 from rfl), b179_57, b179_58, nI_1, if_neg (by decide)]
      · rw [q, if_neg (show ¬ nI 1 = 0 by decide), b179_52, b179_58, nI_1, if_pos rfl]
    · rw [g2, zUs, Int64.add_assoc]
      rfl
theorem c_mMk (sc : zScr) {S : zS} {c f : Nat} (hI : Inv S) (hc : c < 64) (hf : f < S 1 0) (v1 : Int32) (b : Bool) (i : Nat → Nat → Int32) (hM : MR S i) (l : Nat → Nat → Int64) : ∃ l', zev sc (179, 24, [some (.ref 173), some (.int v1), some (.int (nI f)), none, none, none, none], [.int (nI c)], (197, i, zRF b, l)) = some (.int (sMk S c f), (197, i, zRF b, l')) ∧ l' 173 31 = l 173 31 + sTr c 6 0 1 ∧ ∀ a t, a ≠ 173 → l' a t = l a t := by
  have hE := hI.E
  have hF := hI.F
  obtain ⟨hl, hr, -⟩ := hI.lr f hf
  have e6 : (6 : Int32) + nI f = nI (6 + f) := by rw [L6, nI_add]
  have hcf : (nI f).toNatClampNeg = f := nI_clamp (by omega)
  obtain ⟨l', v4', g1, g2, g3⟩ := c_mTr sc hc v1 (nI f) b i 6 0 1 l (by decide)
  refine ⟨l', ?_, g2, g3⟩
  rw [show nI 0 = 0 from rfl] at g1
  rw [b179_24, g1, b179_76 _ _ _ _ _ _ _ _ _ (by rw [e6]; exact vp_in_nI (by omega) (by decide)), e6, nI_clamp (n := 6 + f) (by omega), hM.now (by omega), L1, c_has sc (by omega) (by decide), Option.bind_some]
  dsimp only
  have s1 : ∀ v, zev sc (179, 94, [some (.ref 173), some (.int v1), some (.int (nI f)), some (.int (nI c)), some (.long v4'), none, some (.int v)], [.int (nI (zbt c 1)), .int v], (197, i, zRF b, l')) = zev sc (179, 108, [some (.ref 173), some (.int v1), some (.int (nI f)), some (.int (nI c)), some (.long v4'), none, some (.int v)], [.int (if zbt c 1 = 1 then nI (S 9 16) else 0), .int v], (197, i, zRF b, l')) := by
    intro v
    rw [b179_94]
    rcases zbt_01 c 1 with q | q
    · rw [q, if_pos (show nI 0 = 0 from rfl), b179_107, if_neg (by decide)]
    · rw [q, if_neg (show ¬ nI 1 = 0 by decide), b179_97, if_pos rfl, hM.now (by decide)]
  rw [s1, b179_108, L2, c_has sc (by omega) (by decide), Option.bind_some]
  dsimp only
  have s2 : ∀ v, zev sc (179, 118, [some (.ref 173), some (.int v1), some (.int (nI f)), some (.int (nI c)), some (.long v4'), none, some (.int v)], [.int (nI (zbt c 2)), .int v], (197, i, zRF b, l')) = zev sc (179, 135, [some (.ref 173), some (.int v1), some (.int (nI f)), some (.int (nI c)), some (.long v4'), none, some (.int v)], [.int (if zbt c 2 = 1 then nI (sFif S (S 4 f)) else 0), .int v], (197, i, zRF b, l')) := by
    intro v
    rw [b179_118]
    rcases zbt_01 c 2 with q | q
    · rw [q, if_pos (show nI 0 = 0 from rfl), b179_134, if_neg (by decide)]
    · rw [q, if_neg (show ¬ nI 1 = 0 by decide), b179_121 _ _ _ _ _ _ _ _ _ _ (vp_in_nI (by omega) (by decide)), hcf, hM.l hf, c_mFif sc hI (by omega) i hM, Option.bind_some]
      dsimp only
      rw [b179_131, if_pos rfl]
  rw [s2, b179_135, L3, c_has sc (by omega) (by decide), Option.bind_some]
  dsimp only
  have s3 : ∀ v, zev sc (179, 143, [some (.ref 173), some (.int v1), some (.int (nI f)), some (.int (nI c)), some (.long v4'), none, some (.int v)], [.int (nI (zbt c 3))], (197, i, zRF b, l')) = zev sc (179, 155, [some (.ref 173), some (.int v1), some (.int (nI f)), some (.int (nI c)), some (.long v4'), none, some (.int v)], [.int (if zbt c 3 = 1 then 2 * v else v)], (197, i, zRF b, l')) := by
    intro v
    rw [b179_143]
    rcases zbt_01 c 3 with q | q
    · rw [q, if_pos (show nI 0 = 0 from rfl), b179_153, if_neg (by decide)]
    · rw [q, if_neg (show ¬ nI 1 = 0 by decide), b179_146, if_pos rfl]
  rw [s3, b179_155, L4, c_has sc (by omega) (by decide), Option.bind_some]
  dsimp only
  have s4 : ∀ v, zev sc (179, 164, [some (.ref 173), some (.int v1), some (.int (nI f)), some (.int (nI c)), some (.long v4'), none, some (.int v)], [.int (nI (zbt c 4)), .int v], (197, i, zRF b, l')) = zev sc (179, 172, [some (.ref 173), some (.int v1), some (.int (nI f)), some (.int (nI c)), some (.long v4'), none, some (.int v)], [.int (if zbt c 4 = 1 then nI f else 0), .int v], (197, i, zRF b, l')) := by
    intro v
    rw [b179_164]
    rcases zbt_01 c 4 with q | q
    · rw [q, if_pos (show nI 0 = 0 from rfl), b179_171, if_neg (by decide)]
    · rw [q, if_neg (show ¬ nI 1 = 0 by decide), b179_167, if_pos rfl]
  rw [s4, b179_172, L5, c_has sc (by omega) (by decide), Option.bind_some]
  dsimp only
  rw [b179_182]
  unfold sMk
  rcases zbt_01 c 5 with q | q
  · rw [q, if_pos (show nI 0 = 0 from rfl), b179_195, b179_196, if_neg (show ¬ (0 : Nat) = 1 by decide)]
  · rw [q, if_neg (show ¬ nI 1 = 0 by decide), b179_185, b179_196, if_pos (show (1 : Nat) = 1 from rfl), hM.now (by decide)]
theorem zin5 (v : Int32) : (if 0 ≤ v ∧ v ≤ 5 then (1 : Int32) else 0) = zis v 6 := by
  have := zis_pred (f := v) (n := 6) (by decide)
  rw [show nI 6 - 1 = 5 by decide] at this
  exact this
/-- what is added, and what is answered -/
theorem zOp_t {sc : zScr} {S : zS} {i : Nat → Nat → Int32} {b : Bool} {l l1 : Nat → Nat → Int64} (h : Rl S i l) {k f c : Nat} {r : Int32} (hk : k < 6) (hf : f < S 1 0) (hc : c < 64) (hb : ∀ l, zev sc (178, 0, [some (.int (nI k))], [], (197, i, zRF b, l)) = some (.int (nI c), (197, i, zRF b, l))) (hr : r = sMk S c f) (hl : l1 0 10 = l 0 10 + sTr c 6 0 1) (hl2 : ∀ a t, a = 173 → l1 a t = l a t)
    (hx : zev sc (100, zcs (nI k) 88 [((0 : Int32), 52), ((1 : Int32), 58), ((2 : Int32), 64), ((3 : Int32), 70), ((4 : Int32), 76), ((5 : Int32), 82)], [some (.ref 0), some (.int (nI k)), some (.int (nI f))], [], (197, i, zRF b, l)) = some (.int r, (197, i, zRF b, l1))) : zOp sc 100 179 [some (.ref 0), some (.int (nI k)), some (.int (nI f))] [some (.ref 173), some (.int (nI k)), some (.int (nI f)), none, none, none, none] i b l := by
  obtain ⟨hI, hX, hM, hL⟩ := id h
  have hE := hI.E
  have hz := zis_in (j := f) (n := S 1 0) (by omega) hf
  have hz2 := zis_in (j := k) (n := 6) (by decide) hk
  obtain ⟨l2, g1, g2, g3⟩ := c_mMk sc hI hc hf (nI k) b i hM l1
  refine ⟨.int r, i, b, l1, i, l2, S, ?_, ?_, hI, hX, hM, ?_⟩
  · rw [b100_0, c_xFence sc _ _ _ _ _ hX.E, Option.bind_some]
    dsimp only
    rw [hz, b100_5, if_neg (by decide), b100_11, hx]
  · rw [b179_0, c_in, Option.bind_some]
    dsimp only
    rw [zin5, hz2, b179_6, if_neg (by decide), b179_9, c_mFence sc _ _ (by omega) _ _ _ hM.E, Option.bind_some]
    dsimp only
    rw [hz, b179_14, if_neg (by decide), b179_20, hb, Option.bind_some]
    dsimp only
    rw [g1, hr]
  · rw [g3 0 10 (by decide), hl, g2, hl2 _ _ rfl, hL]
theorem op_mark (sc : zScr) {S : zS} {i : Nat → Nat → Int32} (b : Bool) {l : Nat → Nat → Int64} (h : Rl S i l) (w y : Int32) : zOp sc 100 179 [some (.ref 0), some (.int w), some (.int y)] [some (.ref 173), some (.int w), some (.int y), none, none, none, none] i b l := by
  obtain ⟨hI, hX, hM, hL⟩ := id h
  have hE := hI.E
  have hF := hI.F
  have bad : (¬ (0 ≤ w ∧ w < nI 6) ∨ ¬ (0 ≤ y ∧ y < nI (S 1 0))) → zOp sc 100 179 [some (.ref 0), some (.int w), some (.int y)] [some (.ref 173), some (.int w), some (.int y), none, none, none, none] i b l := by
    intro hb
    refine zOp_p (r := .int (-1000000)) h ?_ ?_
    · rw [b100_0, c_xFence sc _ _ _ _ _ hX.E, Option.bind_some]
      dsimp only
      rw [b100_5]
      by_cases h1 : 0 ≤ y ∧ y < nI (S 1 0)
      · have hw := hb.resolve_right (fun z => z h1)
        have hz : zcs w 88 [((0 : Int32), 52), ((1 : Int32), 58), ((2 : Int32), 64), ((3 : Int32), 70), ((4 : Int32), 76), ((5 : Int32), 82)] = 88 := by
          unfold zcs
          rw [if_neg (fun z => hw (by rw [z]; decide))]
          unfold zcs
          rw [if_neg (fun z => hw (by rw [z]; decide))]
          unfold zcs
          rw [if_neg (fun z => hw (by rw [z]; decide))]
          unfold zcs
          rw [if_neg (fun z => hw (by rw [z]; decide))]
          unfold zcs
          rw [if_neg (fun z => hw (by rw [z]; decide))]
          unfold zcs
          rw [if_neg (fun z => hw (by rw [z]; decide))]
          rfl
        rw [show zis y (S 1 0) = 1 from if_pos h1, if_neg (by decide), b100_11, hz, b100_88]
      · rw [zis_out h1, if_pos rfl, b100_8]
    · rw [b179_0, c_in, Option.bind_some]
      dsimp only
      rw [zin5, b179_6]
      by_cases h1 : 0 ≤ w ∧ w < nI 6
      · rw [show zis w 6 = 1 from if_pos h1, if_neg (by decide), b179_9, c_mFence sc _ _ (by omega) _ _ _ hM.E, Option.bind_some]
        dsimp only
        rw [zis_out (hb.resolve_left (fun z => z h1)), b179_14, if_pos rfl, b179_17]
      · rw [zis_out h1, if_pos rfl, b179_17]
  refine (zix w 6 (by decide)).elim ?_ (fun hn => bad (Or.inl hn))
  rintro ⟨k, hk, rfl⟩
  refine (zix y (S 1 0) (by omega)).elim ?_ (fun hn => bad (Or.inr hn))
  rintro ⟨f, hf, rfl⟩
  obtain ⟨hl, hr, -⟩ := hI.lr f hf
  have hcf : (nI f).toNatClampNeg = f := nI_clamp (by omega)
  have hin : vp_in (nI f) 8 := vp_in_nI (by omega) (by decide)
  have xs : ∀ l, zev sc (112, 0, [some (.ref 0), some (.int (nI f))], [], (197, i, zRF b, l)) = some (.int (nI (S 9 (6 + f))), (197, i, zRF b, zU l 0 10 (l 0 10 + 1))) := by
    intro l
    rw [b112_0 _ _ _ _ _ hin, hcf, hX.pit hf]
  have xb : ∀ l, zev sc (113, 0, [some (.ref 0), some (.int (nI f))], [], (197, i, zRF b, l)) = some (.int (nI (S 9 (6 + f)) + nI (S 9 16)), (197, i, zRF b, zU (zU l 0 10 (l 0 10 + 10)) 0 10 (l 0 10 + 10 + 1))) := by
    intro l
    rw [b113_0, xs, zUs, Option.bind_some]
    dsimp only
    rw [b113_17, hX.wet]
  have xt : ∀ l, zev sc (114, 0, [some (.ref 0), some (.int (nI f))], [], (197, i, zRF b, l)) = some (.int (nI (S 9 (6 + f)) - nI (sFif S (S 4 f))), (197, i, zRF b, zU (zU l 0 10 (l 0 10 + 100)) 0 10 (l 0 10 + 100 + 1))) := by
    intro l
    rw [b114_0, xs, zUs, Option.bind_some]
    dsimp only
    rw [b114_17 _ _ _ _ _ _ hin, hcf, hX.l hf, c_xFif sc hI (by omega) i hX, Option.bind_some]
    dsimp only
    rw [b114_33]
  have hk6 : k = 0 ∨ k = 1 ∨ k = 2 ∨ k = 3 ∨ k = 4 ∨ k = 5 := by omega
  rcases hk6 with rfl | rfl | rfl | rfl | rfl | rfl
  · refine zOp_t (c := 1) (r := nI (S 9 (6 + f))) (l1 := zU l 0 10 (l 0 10 + 1)) h hk hf (by decide) (fun l => ?_) ?_ ?_ (fun a t ha => zUn _ _ (Or.inl (by omega))) ?_
    · rw [b178_0]
      show zev sc (178, 36, _, _, _) = _
      rw [b178_36]
      rfl
    · show _ = _ + 0 - 0 + 0 + 0
      rw [Int32.add_zero, Int32.sub_zero, Int32.add_zero, Int32.add_zero]
    · rw [zUs, show sTr 1 6 0 1 = 1 by decide]
    · show zev sc (100, 52, _, _, _) = _
      rw [b100_52, xs, Option.bind_some]
      dsimp only
      rw [b100_57]
  · refine zOp_t (c := 3) (r := nI (S 9 (6 + f)) + nI (S 9 16)) (l1 := zU (zU l 0 10 (l 0 10 + 10)) 0 10 (l 0 10 + 10 + 1)) h hk hf (by decide) (fun l => ?_) ?_ ?_ (fun a t ha => by rw [zUn _ _ (Or.inl (by omega)), zUn _ _ (Or.inl (by omega))]) ?_
    · rw [b178_0]
      show zev sc (178, 38, _, _, _) = _
      rw [b178_38]
      rfl
    · show _ = _ + nI (S 9 16) - 0 + 0 + 0
      rw [Int32.sub_zero, Int32.add_zero, Int32.add_zero]
    · rw [zUs, show sTr 3 6 0 1 = 10 + 1 by decide, Int64.add_assoc]
    · show zev sc (100, 58, _, _, _) = _
      rw [b100_58, xb, Option.bind_some]
      dsimp only
      rw [b100_63]
  · refine zOp_t (c := 5) (r := nI (S 9 (6 + f)) - nI (sFif S (S 4 f))) (l1 := zU (zU l 0 10 (l 0 10 + 100)) 0 10 (l 0 10 + 100 + 1)) h hk hf (by decide) (fun l => ?_) ?_ ?_ (fun a t ha => by rw [zUn _ _ (Or.inl (by omega)), zUn _ _ (Or.inl (by omega))]) ?_
    · rw [b178_0]
      show zev sc (178, 40, _, _, _) = _
      rw [b178_40]
      rfl
    · show _ = _ + 0 - nI (sFif S (S 4 f)) + 0 + 0
      rw [Int32.add_zero, Int32.add_zero, Int32.add_zero]
    · rw [zUs, show sTr 5 6 0 1 = 100 + 1 by decide, Int64.add_assoc]
    · show zev sc (100, 64, _, _, _) = _
      rw [b100_64, xt, Option.bind_some]
      dsimp only
      rw [b100_69]
  · refine zOp_t (c := 11) (r := (nI (S 9 (6 + f)) + nI (S 9 16)) * 2) (l1 := zU (zU (zU l 0 10 (l 0 10 + 1000)) 0 10 (l 0 10 + 1000 + 10)) 0 10 (l 0 10 + 1000 + 10 + 1)) h hk hf (by decide) (fun l => ?_) ?_ ?_ (fun a t ha => by rw [zUn _ _ (Or.inl (by omega)), zUn _ _ (Or.inl (by omega)), zUn _ _ (Or.inl (by omega))]) ?_
    · rw [b178_0]
      show zev sc (178, 42, _, _, _) = _
      rw [b178_42]
      rfl
    · show _ = 2 * (_ + nI (S 9 16) - 0) + 0 + 0
      rw [Int32.sub_zero, Int32.add_zero, Int32.add_zero, Int32.mul_comm]
    · rw [zUs, show sTr 11 6 0 1 = 1000 + (10 + 1) by decide, Int64.add_assoc, Int64.add_assoc]
    · show zev sc (100, 70, _, _, _) = _
      rw [b100_70, b115_0, xb, zUs, Option.bind_some]
      dsimp only
      rw [b115_17, Option.bind_some]
      dsimp only
      rw [b100_75]
  · refine zOp_t (c := 21) (r := (nI (S 9 (6 + f)) - nI (sFif S (S 4 f))) + nI f) (l1 := zU (zU (zU l 0 10 (l 0 10 + 10000)) 0 10 (l 0 10 + 10000 + 100)) 0 10 (l 0 10 + 10000 + 100 + 1)) h hk hf (by decide) (fun l => ?_) ?_ ?_ (fun a t ha => by rw [zUn _ _ (Or.inl (by omega)), zUn _ _ (Or.inl (by omega)), zUn _ _ (Or.inl (by omega))]) ?_
    · rw [b178_0]
      show zev sc (178, 45, _, _, _) = _
      rw [b178_45]
      rfl
    · show _ = _ + 0 - nI (sFif S (S 4 f)) + nI f + 0
      rw [Int32.add_zero, Int32.add_zero]
    · rw [zUs, show sTr 21 6 0 1 = 10000 + (100 + 1) by decide, Int64.add_assoc, Int64.add_assoc]
    · show zev sc (100, 76, _, _, _) = _
      rw [b100_76, b116_0, xt, zUs, Option.bind_some]
      dsimp only
      rw [b116_17, Option.bind_some]
      dsimp only
      rw [b100_81]
  · refine zOp_t (c := 33) (r := nI (S 9 (6 + f)) + nI (S 9 17)) (l1 := zU (zU l 0 10 (l 0 10 + 100000)) 0 10 (l 0 10 + 100000 + 1)) h hk hf (by decide) (fun l => ?_) ?_ ?_ (fun a t ha => by rw [zUn _ _ (Or.inl (by omega)), zUn _ _ (Or.inl (by omega))]) ?_
    · rw [b178_0]
      show zev sc (178, 48, _, _, _) = _
      rw [b178_48]
      rfl
    · show _ = _ + 0 - 0 + 0 + nI (S 9 17)
      rw [Int32.add_zero, Int32.sub_zero, Int32.add_zero]
    · rw [zUs, show sTr 33 6 0 1 = 100000 + 1 by decide, Int64.add_assoc]
    · show zev sc (100, 82, _, _, _) = _
      rw [b100_82, b117_0, xs, zUs, Option.bind_some]
      dsimp only
      rw [b117_17, hX.sung, Option.bind_some]
      dsimp only
      rw [b100_87]
