/-! quiet -/
theorem zin2d (v : Int32) : (if 0 ≤ v ∧ v ≤ 2 then (1 : Int32) else 0) = zis v 3 := by
  have := zis_pred (f := v) (n := 3) (by decide)
  rw [show nI 3 - 1 = 2 by decide] at this
  exact this
abbrev sQp (S : zS) (k x y f : Nat) : Prop := sAt S f y = 1 ∧ sDt S k x (S 0 0 - 1) (sAc S f y) + sCs S k f = sDt S k x (S 0 0 - 1) y
def sQs (S : zS) (k x y : Nat) : Nat → Int32
  | 0 => -9
  | n + 1 => if sQp S k x y (S 1 0 - (n + 1)) then nI (S 1 0 - (n + 1)) else sQs S k x y n
theorem sAc_lt {S : zS} (hI : Inv S) {f y : Nat} (hf : f < S 1 0) : sAc S f y < S 0 0 := by
  obtain ⟨hl, hr, -⟩ := hI.lr f hf
  unfold sAc
  split
  · exact hr
  · exact hl
theorem c_xQl (sc : zScr) {S : zS} {k x y : Nat} (hI : Inv S) (hk : k < S 2 0) (hy : y < S 0 0) (i : Nat → Nat → Int32) (hX : XR S i) (h73 : ∀ v, v < S 0 0 → i 73 v = nI (sDt S k x (S 0 0 - 1) v)) (v3 : Int32) (b : Bool) (l : Nat → Nat → Int64) : ∀ (n f : Nat), f + n = S 1 0 → zev sc (45, 28, [some (.ref 72), some (.int (nI k)), some (.int (nI y)), some (.int v3), some (.int (nI f))], [], (197, i, zRF b, l)) = some (.int (sQs S k x y n), (197, i, zRF b, l))
  | 0, f, hf => by
    have e : f = S 1 0 := by omega
    subst e
    rw [b45_28, hX.E, if_pos (Int32.le_refl _), b45_94]
    rfl
  | n + 1, f, hf => by
    have hE := hI.E
    have hF := hI.F
    have hff : f < S 1 0 := by omega
    have ef : S 1 0 - (n + 1) = f := by omega
    have hac := sAc_lt hI (y := y) hff
    have hc := sCs_p S k f
    have d1 := sDt_le S k x y (S 0 0 - 1)
    have d2 := sDt_le S k x (sAc S f y) (S 0 0 - 1)
    have ih := c_xQl sc hI hk hy i hX h73 v3 b l n (f + 1) (by omega)
    have cy : (nI y).toNatClampNeg = y := nI_clamp (by omega)
    have gy : vp_in (nI y) 8 := vp_in_nI (by omega) (by decide)
    rw [b45_28, hX.E, if_neg (zq_nle (by omega) (by omega)), b45_40, c_xAt sc hI hff (by omega) i hX, Option.bind_some]
    dsimp only
    rw [b45_50]
    rcases sAt_01 S f y with q | q
    · rw [show nI (sAt S f y) = 0 by rw [q]; rfl, if_pos rfl, b45_88, nI_1, ih, show sQs S k x y (n + 1) = sQs S k x y n from if_neg (fun z => by have := z.1; rw [ef] at this; omega)]
    · rw [show nI (sAt S f y) = 1 by rw [q]; rfl, if_neg (by decide), b45_53 _ _ _ _ _ _ _ _ gy, c_xAc sc hI hff (by omega) i hX, Option.bind_some]
      dsimp only
      rw [b45_73 _ _ _ _ _ _ _ _ _ _ (vp_in_nI (by omega) (by decide)), c_xCs sc hI hk hff i hX, Option.bind_some]
      dsimp only
      rw [b45_81, cy, h73 y hy, nI_clamp (n := sAc S f y) (by omega), h73 _ hac, nI_add]
      by_cases e : sDt S k x (S 0 0 - 1) (sAc S f y) + sCs S k f = sDt S k x (S 0 0 - 1) y
      · rw [if_pos (by rw [e]), b45_85, show sQs S k x y (n + 1) = nI (S 1 0 - (n + 1)) from if_pos (by rw [ef]; exact ⟨q, e⟩), ef]
      · rw [if_neg (fun z => e ((nI_eq (by omega) (by omega)).mp z).symm), b45_88, nI_1, ih, show sQs S k x y (n + 1) = sQs S k x y n from if_neg (fun z => by have := z.2; rw [ef] at this; exact e this)]
theorem c_mQl (sc : zScr) {S : zS} {k x y : Nat} (hI : Inv S) (hk : k < S 2 0) (hx : x < S 0 0) (hy : y < S 0 0) (hxy : y ≠ x) (i : Nat → Nat → Int32) (hM : MR S i) (h195 : ∀ v, v < S 0 0 → i 195 v = nI (sDt S k x (S 0 0 - 1) v)) (v4 : Int32) (b : Bool) (l : Nat → Nat → Int64) : ∀ (m n : Nat) (w7 : Option Value), m + n = S 1 0 → zev sc (171, 103, [some (.ref 173), some (.int (nI k)), some (.int (nI y)), some (.int (nI x)), some (.int v4), some (.int (sQs S k x y n)), some (.int (nI m - 1)), w7], [], (197, i, zRF b, l)) = some (.int (sQs S k x y (S 1 0)), (197, i, zRF b, l))
  | 0, n, w7, hm => by
    have e : n = S 1 0 := by omega
    subst e
    rw [show nI 0 - 1 = -1 by decide, b171_103, if_pos (by decide), b171_179]
  | f + 1, n, w7, hm => by
    have hE := hI.E
    have hF := hI.F
    have hff : f < S 1 0 := by omega
    have ef : S 1 0 - (n + 1) = f := by omega
    have hac := sAc_lt hI (y := y) hff
    have hc := sCs_p S k f
    have d1 := sDt_le S k x y (S 0 0 - 1)
    have d2 := sDt_le S k x (sAc S f y) (S 0 0 - 1)
    have cy : (nI y).toNatClampNeg = y := nI_clamp (by omega)
    have gy : vp_in (nI y) 8 := vp_in_nI (by omega) (by decide)
    have no : sQs S k x y (n + 1) = sQs S k x y n → ∀ w7, zev sc (171, 156, [some (.ref 173), some (.int (nI k)), some (.int (nI y)), some (.int (nI x)), some (.int v4), some (.int (sQs S k x y n)), some (.int (nI f)), w7], [], (197, i, zRF b, l)) = some (.int (sQs S k x y (S 1 0)), (197, i, zRF b, l)) := by
      intro h w7
      rw [b171_156, b171_157, if_pos rfl, b171_169, b171_171, ← h, Lm1, ← L1]
      exact c_mQl sc hI hk hx hy hxy i hM h195 v4 b l f (n + 1) _ (by omega)
    rw [nI_pred, b171_103, if_neg (nI_pos (by omega)), b171_108, if_neg (fun z => hxy ((nI_eq (by omega) (by omega)).mp z)), b171_113, c_mAt sc hI hff (by omega) i hM, Option.bind_some]
    dsimp only
    rw [b171_120]
    rcases sAt_01 S f y with q | q
    · rw [show nI (sAt S f y) = 0 by rw [q]; rfl, if_pos rfl]
      exact no (if_neg (fun z => by have := z.1; rw [ef] at this; omega)) _
    · rw [show nI (sAt S f y) = 1 by rw [q]; rfl, if_neg (by decide), b171_123, c_mCs sc hI hk hff i hM, Option.bind_some]
      dsimp only
      rw [b171_130, c_mAc sc hI hff (by omega) i hM, Option.bind_some]
      dsimp only
      rw [b171_141 _ _ _ _ _ _ _ _ _ _ _ _ _ (vp_in_nI (by omega) (by decide)) gy, cy, h195 y hy, nI_clamp (n := sAc S f y) (by omega), h195 _ hac, nI_add]
      by_cases e : sDt S k x (S 0 0 - 1) (sAc S f y) + sCs S k f = sDt S k x (S 0 0 - 1) y
      · have h : sQs S k x y (n + 1) = nI f := (if_pos (by rw [ef]; exact ⟨q, e⟩)).trans (by rw [ef])
        rw [if_pos (by rw [Nat.add_comm, e]), b171_152, b171_157, if_neg (by decide), b171_164, b171_171, Lm1, ← L1, ← h, h]
        have := c_mQl sc hI hk hx hy hxy i hM h195 v4 b l f (n + 1) (some (.int 1)) (by omega)
        rw [h] at this
        exact this
      · rw [if_neg (fun z => e (by have := (nI_eq (by omega) (by omega)).mp z; omega))]
        exact no (if_neg (fun z => by have := z.2; rw [ef] at this; exact e this)) _
theorem c_mQ0 (sc : zScr) {y : Nat} (hy : y < 8) (v1 v4 : Int32) (i : Nat → Nat → Int32) (b : Bool) (l : Nat → Nat → Int64) : ∀ (m : Nat) (w7 : Option Value), m < 2 ^ 31 → zev sc (171, 103, [some (.ref 173), some (.int v1), some (.int (nI y)), some (.int (nI y)), some (.int v4), some (.int (-9)), some (.int (nI m - 1)), w7], [], (197, i, zRF b, l)) = some (.int (-9), (197, i, zRF b, l))
  | 0, w7, _ => by
    rw [show nI 0 - 1 = -1 by decide, b171_103, if_pos (by decide), b171_179]
  | m + 1, w7, h => by
    rw [nI_pred, b171_103, if_neg (nI_pos (by omega)), b171_108, if_pos rfl, b171_156, b171_157, if_pos rfl, b171_169, b171_171, Lm1, ← L1]
    exact c_mQ0 sc hy v1 v4 i b l m _ (by omega)
theorem zcs3 {w : Int32} (h : ¬ (0 ≤ w ∧ w < nI 3)) (d a0 a1 a2 : Nat) : zcs w d [((0 : Int32), a0), ((1 : Int32), a1), ((2 : Int32), a2)] = d := by
  have n0 : ¬ w = 0 := fun z => h (by rw [z]; decide)
  have n1 : ¬ w = 1 := fun z => h (by rw [z]; decide)
  have n2 : ¬ w = 2 := fun z => h (by rw [z]; decide)
  simp only [zcs, if_neg n0, if_neg n1, if_neg n2]
theorem op_quiet (sc : zScr) {S : zS} {i : Nat → Nat → Int32} (b : Bool) {l : Nat → Nat → Int64} (h : Rl S i l) (u y x w : Int32) : zOp sc 96 171 [some (.ref 0), some (.int u), some (.int y), some (.int x), some (.int w)] [some (.ref 173), some (.int u), some (.int y), some (.int x), some (.int w), none, none, none] i b l := by
  obtain ⟨hI, hX, hM, hL⟩ := id h
  have hE := hI.E
  have hF := hI.F
  have hK := hI.K
  have cx : ∀ i1 : Nat → Nat → Int32, (∀ c j, c ≠ 73 → i1 c j = i c j) → ∀ c j, xrd c j ∨ 173 ≤ c → i1 c j = i c j := by
    intro i1 h1 c j z
    refine h1 c j ?_
    rcases z with z | z
    · have := z.2.2.2
      omega
    · omega
  have cm : ∀ i1 i2 : Nat → Nat → Int32, (∀ c j, c ≠ 195 → i2 c j = i1 c j) → ∀ c j, mrd c j ∨ c < 173 → i2 c j = i1 c j := by
    intro i1 i2 h1 c j z
    refine h1 c j ?_
    unfold mrd at z
    omega
  rcases zix u (S 2 0) (by omega) with ⟨k, hk, rfl⟩ | nk
  rotate_left
  · refine zOp_p (r := .int (-1)) h ?_ ?_
    · rw [b96_0, c_xKind sc _ _ _ _ _ hX.K, Option.bind_some]
      dsimp only
      rw [b96_5, zis_out nk, if_pos rfl, b96_24]
    · rw [b171_0, c_mKind sc _ _ (by omega) _ _ _ hM.K, Option.bind_some]
      dsimp only
      rw [b171_5, zis_out nk, if_pos rfl, b171_34]
  have x1 : zev sc (96, 0, [some (.ref 0), some (.int (nI k)), some (.int y), some (.int x), some (.int w)], [], (197, i, zRF b, l)) = zev sc (96, 13, [some (.ref 0), some (.int (nI k)), some (.int y), some (.int x), some (.int w)], [.int (zis y (S 0 0))], (197, i, zRF b, l)) := by
    rw [b96_0, c_xKind sc _ _ _ _ _ hX.K, Option.bind_some]
    dsimp only
    rw [b96_5, zis_in (by omega) hk, if_neg (by decide), b96_8, c_xField sc _ _ _ _ _ hX.F, Option.bind_some]
  have m1 : ∀ i1 b1, MR S i1 → zev sc (171, 0, [some (.ref 173), some (.int (nI k)), some (.int y), some (.int x), some (.int w), none, none, none], [], (197, i1, zRF b1, l)) = zev sc (171, 13, [some (.ref 173), some (.int (nI k)), some (.int y), some (.int x), some (.int w), none, none, none], [.int (zis y (S 0 0))], (197, i1, zRF b1, l)) := by
    intro i1 b1 hM1
    rw [b171_0, c_mKind sc _ _ (by omega) _ _ _ hM1.K, Option.bind_some]
    dsimp only
    rw [b171_5, zis_in (by omega) hk, if_neg (by decide), b171_8, c_mField sc _ _ (by omega) _ _ _ hM1.F, Option.bind_some]
  rcases zix y (S 0 0) (by omega) with ⟨yy, hy, rfl⟩ | ny
  rotate_left
  · refine zOp_p (r := .int (-1)) h ?_ ?_
    · rw [x1, b96_13, zis_out ny, if_pos rfl, b96_24]
    · rw [m1 i b hM, b171_13, zis_out ny, if_pos rfl, b171_34]
  rcases zix x (S 0 0) (by omega) with ⟨xx, hx, rfl⟩ | nx
  rotate_left
  · refine zOp_p (r := .int (-1)) h ?_ ?_
    · rw [x1, b96_13, zis_in (by omega) hy, if_neg (by decide), b96_16, c_xField sc _ _ _ _ _ hX.F, Option.bind_some]
      dsimp only
      rw [b96_21, zis_out nx, if_pos rfl, b96_24]
    · rw [m1 i b hM, b171_13, zis_in (by omega) hy, if_neg (by decide), b171_16, c_mField sc _ _ (by omega) _ _ _ hM.F, Option.bind_some]
      dsimp only
      rw [b171_21, zis_out nx, if_pos rfl, b171_34]
  have x2 : zev sc (96, 0, [some (.ref 0), some (.int (nI k)), some (.int (nI yy)), some (.int (nI xx)), some (.int w)], [], (197, i, zRF b, l)) = zev sc (96, 26, [some (.ref 0), some (.int (nI k)), some (.int (nI yy)), some (.int (nI xx)), some (.int w)], [], (197, i, zRF b, l)) := by
    rw [x1, b96_13, zis_in (by omega) hy, if_neg (by decide), b96_16, c_xField sc _ _ _ _ _ hX.F, Option.bind_some]
    dsimp only
    rw [b96_21, zis_in (by omega) hx, if_neg (by decide)]
  have m2 : ∀ i1 b1, MR S i1 → zev sc (171, 0, [some (.ref 173), some (.int (nI k)), some (.int (nI yy)), some (.int (nI xx)), some (.int w), none, none, none], [], (197, i1, zRF b1, l)) = zev sc (171, 31, [some (.ref 173), some (.int (nI k)), some (.int (nI yy)), some (.int (nI xx)), some (.int w), none, none, none], [.int (zis w 3)], (197, i1, zRF b1, l)) := by
    intro i1 b1 hM1
    rw [m1 i1 b1 hM1, b171_13, zis_in (by omega) hy, if_neg (by decide), b171_16, c_mField sc _ _ (by omega) _ _ _ hM1.F, Option.bind_some]
    dsimp only
    rw [b171_21, zis_in (by omega) hx, if_neg (by decide), b171_24, c_in, zin2d, Option.bind_some]
  rcases zix w 3 (by decide) with ⟨ww, hw, rfl⟩ | nw
  rotate_left
  · refine zOp_p (r := .int (-1)) h ?_ ?_
    · rw [x2, b96_26, zcs3 nw, b96_89]
    · rw [m2 i b hM, b171_31, zis_out nw, if_pos rfl, b171_34]
  obtain ⟨i', p1, p2, p3⟩ := c_xMe sc hI hk hx b l i hX
  have hX1 : XR S i' := hX.congr (fun c t z => p3 c t (by have := z.2.2.2; omega))
  have cy : (nI yy).toNatClampNeg = yy := nI_clamp (by omega)
  have gy : vp_in (nI yy) 8 := vp_in_nI (by omega) (by decide)
  have hd := sDt_le S k xx yy (S 0 0 - 1)
  have m3 : ∀ i1 b1, MR S i1 → ∃ i2, zev sc (171, 0, [some (.ref 173), some (.int (nI k)), some (.int (nI yy)), some (.int (nI xx)), some (.int (nI ww)), none, none, none], [], (197, i1, zRF b1, l)) = zev sc (171, if nI (sDt S k xx (S 0 0 - 1) yy) < 1000000 then 56 else 53, [some (.ref 173), some (.int (nI k)), some (.int (nI yy)), some (.int (nI xx)), some (.int (nI ww)), none, none, none], [], (197, i2, zRF b1, l)) ∧ MR S i2 ∧ (∀ v, v < S 0 0 → i2 195 v = nI (sDt S k xx (S 0 0 - 1) v)) ∧ ∀ c t, c ≠ 195 → i2 c t = i1 c t := by
    intro i1 b1 hM1
    obtain ⟨i2, g1, g2, g3⟩ := c_mMe sc hI hk hx b1 l i1 hM1
    refine ⟨i2, ?_, hM1.congr hI (fun c t z => g3 c t (by unfold mrd at z; omega)), g2, g3⟩
    rw [m2 i1 b1 hM1, b171_31, zis_in (by decide) hw, if_neg (by decide), b171_36, g1, Option.bind_some]
    dsimp only
    rw [b171_42 _ _ _ _ _ _ _ _ gy, cy, g2 yy hy]
    by_cases q : nI (sDt S k xx (S 0 0 - 1) yy) < 1000000
    · rw [if_pos q, if_pos q]
    · rw [if_neg q, if_neg q]
  have hw3 : ww = 0 ∨ ww = 1 ∨ ww = 2 := by omega
  rcases hw3 with rfl | rfl | rfl
  · by_cases q : nI (sDt S k xx (S 0 0 - 1) yy) < 1000000
    · refine zOp_q (r := .int (nI (sDt S k xx (S 0 0 - 1) yy) / 100)) h ⟨i', b, ?_, cx i' p3⟩ ?_
      · rw [x2, b96_26]
        show zev sc (96, 56, _, _, _) = _
        rw [b96_56, b43_0, p1, Option.bind_some]
        dsimp only
        rw [b43_6 _ _ _ _ _ _ _ gy, cy, p2 yy hy, if_pos q, b43_22 _ _ _ _ _ _ _ gy, cy, p2 yy hy, b43_31, Option.bind_some]
        dsimp only
        rw [b96_66]
      · intro i1 b1 hM1
        obtain ⟨i2, g1, g2, g3, g4⟩ := m3 i1 b1 hM1
        refine ⟨i2, ?_, cm i1 i2 g4⟩
        rw [g1, if_pos q, b171_56, if_neg (by decide), b171_62, if_pos (by decide), b171_67 _ _ _ _ _ _ _ _ gy, cy, g3 yy hy, b171_88]
    · refine zOp_q (r := .int (-9)) h ⟨i', b, ?_, cx i' p3⟩ ?_
      · rw [x2, b96_26]
        show zev sc (96, 56, _, _, _) = _
        rw [b96_56, b43_0, p1, Option.bind_some]
        dsimp only
        rw [b43_6 _ _ _ _ _ _ _ gy, cy, p2 yy hy, if_neg q, b43_17, b43_31, Option.bind_some]
        dsimp only
        rw [b96_66]
      · intro i1 b1 hM1
        obtain ⟨i2, g1, g2, g3, g4⟩ := m3 i1 b1 hM1
        refine ⟨i2, ?_, cm i1 i2 g4⟩
        rw [g1, if_neg q, b171_53]
  · by_cases q : nI (sDt S k xx (S 0 0 - 1) yy) < 1000000
    · refine zOp_q (r := .int (nI (sDt S k xx (S 0 0 - 1) yy) - nI (sDt S k xx (S 0 0 - 1) yy) / 100 * 100)) h ⟨i', b, ?_, cx i' p3⟩ ?_
      · rw [x2, b96_26]
        show zev sc (96, 67, _, _, _) = _
        rw [b96_67, b44_0, p1, Option.bind_some]
        dsimp only
        rw [b44_6 _ _ _ _ _ _ _ gy, cy, p2 yy hy, if_pos q, b44_22 _ _ _ _ _ _ _ gy, cy, p2 yy hy, b44_31, Option.bind_some]
        dsimp only
        rw [b96_77]
      · intro i1 b1 hM1
        obtain ⟨i2, g1, g2, g3, g4⟩ := m3 i1 b1 hM1
        refine ⟨i2, ?_, cm i1 i2 g4⟩
        rw [g1, if_pos q, b171_56, if_neg (by decide), b171_62, if_neg (by decide), b171_79 _ _ _ _ _ _ _ _ gy, cy, g3 yy hy, b171_88]
    · refine zOp_q (r := .int (-9)) h ⟨i', b, ?_, cx i' p3⟩ ?_
      · rw [x2, b96_26]
        show zev sc (96, 67, _, _, _) = _
        rw [b96_67, b44_0, p1, Option.bind_some]
        dsimp only
        rw [b44_6 _ _ _ _ _ _ _ gy, cy, p2 yy hy, if_neg q, b44_17, b44_31, Option.bind_some]
        dsimp only
        rw [b96_77]
      · intro i1 b1 hM1
        obtain ⟨i2, g1, g2, g3, g4⟩ := m3 i1 b1 hM1
        refine ⟨i2, ?_, cm i1 i2 g4⟩
        rw [g1, if_neg q, b171_53]
  · have hx0 : ∀ r, zev sc (45, 6, [some (.ref 72), some (.int (nI k)), some (.int (nI yy)), some (.int (nI xx)), none], [], (197, i', zRF b, l)) = some (.int r, (197, i', zRF b, l)) → zev sc (96, 0, [some (.ref 0), some (.int (nI k)), some (.int (nI yy)), some (.int (nI xx)), some (.int (nI 2))], [], (197, i, zRF b, l)) = some (.int r, (197, i', zRF b, l)) := by
      intro r hr
      rw [x2, b96_26]
      show zev sc (96, 78, _, _, _) = _
      rw [b96_78, b45_0, p1, Option.bind_some]
      dsimp only
      rw [hr, Option.bind_some]
      dsimp only
      rw [b96_88]
    by_cases q : nI (sDt S k xx (S 0 0 - 1) yy) < 1000000
    · by_cases e : yy = xx
      · subst e
        refine zOp_q (r := .int (-9)) h ⟨i', b, hx0 _ ?_, cx i' p3⟩ ?_
        · rw [b45_6, if_pos rfl, b45_22]
        · intro i1 b1 hM1
          obtain ⟨i2, g1, g2, g3, g4⟩ := m3 i1 b1 hM1
          refine ⟨i2, ?_, cm i1 i2 g4⟩
          rw [g1, if_pos q, b171_56, if_pos (by decide), b171_89, g2.E, c_mQ0 sc (by omega) _ _ _ _ _ _ _ (by omega)]
      · refine zOp_q (r := .int (sQs S k xx yy (S 1 0))) h ⟨i', b, hx0 _ ?_, cx i' p3⟩ ?_
        · have g := c_xQl sc hI hk hy i' hX1 p2 (nI xx) b l (S 1 0) 0 (by omega)
          rw [show nI 0 = 0 from rfl] at g
          rw [b45_6, if_neg (fun z => e ((nI_eq (by omega) (by omega)).mp z)), b45_11 _ _ _ _ _ _ _ gy, cy, p2 yy hy, if_pos q, b45_25, g]
        · intro i1 b1 hM1
          obtain ⟨i2, g1, g2, g3, g4⟩ := m3 i1 b1 hM1
          refine ⟨i2, ?_, cm i1 i2 g4⟩
          have g := c_mQl sc hI hk hx hy e i2 g2 g3 (nI 2) b1 l (S 1 0) 0 none (by omega)
          rw [show sQs S k xx yy 0 = -9 from rfl] at g
          rw [g1, if_pos q, b171_56, if_pos (by decide), b171_89, g2.E, g]
    · refine zOp_q (r := .int (-9)) h ⟨i', b, hx0 _ ?_, cx i' p3⟩ ?_
      · rw [b45_6]
        by_cases e : nI yy = nI xx
        · rw [if_pos e, b45_22]
        · rw [if_neg e, b45_11 _ _ _ _ _ _ _ gy, cy, p2 yy hy, if_neg q, b45_22]
      · intro i1 b1 hM1
        obtain ⟨i2, g1, g2, g3, g4⟩ := m3 i1 b1 hM1
        refine ⟨i2, ?_, cm i1 i2 g4⟩
        rw [g1, if_neg q, b171_53]
