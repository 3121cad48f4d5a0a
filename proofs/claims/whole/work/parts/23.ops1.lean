/-! an operation: the class's answer and the model's are one, and both stand for one state again -/
def Rl (S : zS) (i : Nat → Nat → Int32) (l : Nat → Nat → Int64) : Prop := Inv S ∧ XR S i ∧ MR S i ∧ l 0 10 = l 173 31
def zOp (sc : zScr) (kx km : Nat) (ax am : List (Option Value)) (i : Nat → Nat → Int32) (b : Bool) (l : Nat → Nat → Int64) : Prop :=
  ∃ (r : Value) (i1 : Nat → Nat → Int32) (b1 : Bool) (l1 : Nat → Nat → Int64) (i2 : Nat → Nat → Int32) (l2 : Nat → Nat → Int64) (S' : zS), zev sc (kx, 0, ax, [], (197, i, zRF b, l)) = some (r, (197, i1, zRF b1, l1)) ∧ zev sc (km, 0, am, [], (197, i1, zRF b1, l1)) = some (r, (197, i2, zRF b1, l2)) ∧ Rl S' i2 l2
/-- a question that writes nothing -/
theorem zOp_p {sc : zScr} {kx km : Nat} {ax am : List (Option Value)} {i : Nat → Nat → Int32} {b : Bool} {l : Nat → Nat → Int64} {S : zS} {r : Value} (h : Rl S i l) (hx : zev sc (kx, 0, ax, [], (197, i, zRF b, l)) = some (r, (197, i, zRF b, l))) (hm : zev sc (km, 0, am, [], (197, i, zRF b, l)) = some (r, (197, i, zRF b, l))) : zOp sc kx km ax am i b l :=
  ⟨r, i, b, l, i, l, S, hx, hm, h⟩
/-- a question that writes what nobody reads later -/
theorem zOp_q {sc : zScr} {kx km : Nat} {ax am : List (Option Value)} {i : Nat → Nat → Int32} {b : Bool} {l : Nat → Nat → Int64} {S : zS} {r : Value} (h : Rl S i l)
    (hx : ∃ (i1 : Nat → Nat → Int32) (b1 : Bool), zev sc (kx, 0, ax, [], (197, i, zRF b, l)) = some (r, (197, i1, zRF b1, l)) ∧ ∀ c j, xrd c j ∨ 173 ≤ c → i1 c j = i c j)
    (hm : ∀ (i1 : Nat → Nat → Int32) (b1 : Bool), MR S i1 → ∃ i2 : Nat → Nat → Int32, zev sc (km, 0, am, [], (197, i1, zRF b1, l)) = some (r, (197, i2, zRF b1, l)) ∧ ∀ c j, mrd c j ∨ c < 173 → i2 c j = i1 c j) : zOp sc kx km ax am i b l := by
  obtain ⟨i1, b1, h1, e1⟩ := hx
  have hM1 : MR S i1 := h.2.2.1.congr h.1 (fun c j q => e1 c j (Or.inr q.1))
  obtain ⟨i2, h2, e2⟩ := hm i1 b1 hM1
  exact ⟨r, i1, b1, l, i2, l, S, h1, h2, h.1, (h.2.1.congr (fun c j q => e1 c j (Or.inl q))).congr (fun c j q => e2 c j (Or.inr q.1)), hM1.congr h.1 (fun c j q => e2 c j (Or.inl q)), h.2.2.2⟩
theorem b2v : ∀ c f, (if nI (zbt c f) = 0 then (0 : Int32) else 1) = nI (zbt c f) := by
  intro c f
  rcases zbt_01 c f with h | h <;> rw [h] <;> rfl
theorem op_fence (sc : zScr) {S : zS} {i : Nat → Nat → Int32} (b : Bool) {l : Nat → Nat → Int64} (h : Rl S i l) (f w : Int32) : zOp sc 77 141 [some (.ref 0), some (.int f), some (.int w)] [some (.ref 173), some (.int f), some (.int w)] i b l := by
  obtain ⟨hI, hX, hM, hL⟩ := id h
  have hE := hI.E
  have hF := hI.F
  have hK := hI.K
  have hB := hI.B
  rcases zix f (S 1 0) (by omega) with ⟨j, hj, rfl⟩ | hn
  · have hz := zis_in (j := j) (n := S 1 0) (by omega) hj
    have hc : (nI j).toNatClampNeg = j := nI_clamp (by omega)
    have e6 : (6 : Int32) + nI j = nI (6 + j) := by rw [L6, nI_add]
    have c6 : (nI (6 + j)).toNatClampNeg = 6 + j := nI_clamp (by omega)
    have x0 : zev sc (77, 0, [some (.ref 0), some (.int (nI j)), some (.int w)], [], (197, i, zRF b, l)) = zev sc (77, zcs w 98 [((0 : Int32), 44), ((1 : Int32), 54), ((2 : Int32), 64), ((3 : Int32), 74), ((4 : Int32), 86)], [some (.ref 0), some (.int (nI j)), some (.int w)], [], (197, i, zRF b, l)) := by
      rw [b77_0, c_xFence sc _ _ _ _ _ hX.E, Option.bind_some]
      dsimp only
      rw [hz, b77_5, if_neg (by decide), b77_10]
    have m0 : zev sc (141, 0, [some (.ref 173), some (.int (nI j)), some (.int w)], [], (197, i, zRF b, l)) = zev sc (141, zcs w 108 [((0 : Int32), 44), ((1 : Int32), 51), ((2 : Int32), 58), ((3 : Int32), 68), ((4 : Int32), 88)], [some (.ref 173), some (.int (nI j)), some (.int w)], [], (197, i, zRF b, l)) := by
      rw [b141_0, c_mFence sc _ _ (by omega) _ _ _ hM.E, Option.bind_some]
      dsimp only
      rw [hz, b141_5, if_neg (by decide), b141_10]
    by_cases e0 : w = 0
    · subst e0
      refine zOp_p (r := .int (nI (S 4 j))) h (x0.trans ?_) (m0.trans ?_)
      · exact (b77_44 _ _ _ _ _ _ (vp_in_nI (by omega) (by decide))).trans (by rw [hc, hX.l hj])
      · exact (b141_44 _ _ _ _ _ _ (vp_in_nI (by omega) (by decide))).trans (by rw [hc, hM.l hj])
    by_cases e1 : w = 1
    · subst e1
      refine zOp_p (r := .int (nI (S 5 j))) h (x0.trans ?_) (m0.trans ?_)
      · exact (b77_54 _ _ _ _ _ _ (vp_in_nI (by omega) (by decide))).trans (by rw [hc, hX.r hj])
      · exact (b141_51 _ _ _ _ _ _ (vp_in_nI (by omega) (by decide))).trans (by rw [hc, hM.r hj])
    by_cases e2 : w = 2
    · subst e2
      refine zOp_p (r := .int (nI (S 9 (6 + j)))) h (x0.trans ?_) (m0.trans ?_)
      · exact (b77_64 _ _ _ _ _ _ (vp_in_nI (by omega) (by decide))).trans (by rw [hc, hX.pit hj])
      · exact (b141_58 _ _ _ _ _ _ (by rw [e6]; exact vp_in_nI (by omega) (by decide))).trans (by rw [e6, c6, hM.now (by omega)])
    by_cases e3 : w = 3
    · subst e3
      have hc' := hI.cut'
      refine zOp_p (r := .int (nI (zbt (S 9 14) j))) h (x0.trans ?_) (m0.trans ?_)
      · exact (b77_74 _ _ _ _ _ _).trans (by rw [hX.cut, zbit (by omega) (by omega)])
      · refine (b141_68 _ _ _ _ _ _).trans ?_
        rw [hM.now (by decide), c_has sc (by omega) (by omega), Option.bind_some]
        dsimp only
        rw [b141_79]
        rcases zbt_01 (S 9 14) j with q | q
        · rw [q, if_pos (by decide), b141_86, b141_87]; rfl
        · rw [q, if_neg (by decide), b141_82, b141_87]; rfl
    by_cases e4 : w = 4
    · subst e4
      have hc' := hI.down'
      refine zOp_p (r := .int (nI (zbt (S 9 15) j))) h (x0.trans ?_) (m0.trans ?_)
      · exact (b77_86 _ _ _ _ _ _).trans (by rw [hX.down, zbit (by omega) (by omega)])
      · refine (b141_88 _ _ _ _ _ _).trans ?_
        rw [hM.now (by decide), c_has sc (by omega) (by omega), Option.bind_some]
        dsimp only
        rw [b141_99]
        rcases zbt_01 (S 9 15) j with q | q
        · rw [q, if_pos (by decide), b141_106, b141_107]; rfl
        · rw [q, if_neg (by decide), b141_102, b141_107]; rfl
    refine zOp_p (r := .int (-1)) h (x0.trans ?_) (m0.trans ?_)
    · rw [show zcs w 98 [((0 : Int32), 44), ((1 : Int32), 54), ((2 : Int32), 64), ((3 : Int32), 74), ((4 : Int32), 86)] = 98 by simp [zcs, e0, e1, e2, e3, e4], b77_98]
    · rw [show zcs w 108 [((0 : Int32), 44), ((1 : Int32), 51), ((2 : Int32), 58), ((3 : Int32), 68), ((4 : Int32), 88)] = 108 by simp [zcs, e0, e1, e2, e3, e4], b141_108]
  · refine zOp_p (r := .int (-1)) h ?_ ?_
    · rw [b77_0, c_xFence sc _ _ _ _ _ hX.E, Option.bind_some]
      dsimp only
      rw [zis_out hn, b77_5, if_pos rfl, b77_8]
    · rw [b141_0, c_mFence sc _ _ (by omega) _ _ _ hM.E, Option.bind_some]
      dsimp only
      rw [zis_out hn, b141_5, if_pos rfl, b141_8]

theorem op_kind (sc : zScr) {S : zS} {i : Nat → Nat → Int32} (b : Bool) {l : Nat → Nat → Int64} (h : Rl S i l) (f w : Int32) : zOp sc 78 142 [some (.ref 0), some (.int f), some (.int w)] [some (.ref 173), some (.int f), some (.int w)] i b l := by
  obtain ⟨hI, hX, hM, hL⟩ := id h
  have hE := hI.E
  have hF := hI.F
  have hK := hI.K
  have hB := hI.B
  rcases zix f (S 2 0) (by omega) with ⟨j, hj, rfl⟩ | hn
  · have hz := zis_in (j := j) (n := S 2 0) (by omega) hj
    have hc : (nI j).toNatClampNeg = j := nI_clamp (by omega)
    have x0 : zev sc (78, 0, [some (.ref 0), some (.int (nI j)), some (.int w)], [], (197, i, zRF b, l)) = zev sc (78, zcs w 60 [((0 : Int32), 40), ((1 : Int32), 50)], [some (.ref 0), some (.int (nI j)), some (.int w)], [], (197, i, zRF b, l)) := by
      rw [b78_0, c_xKind sc _ _ _ _ _ hX.K, Option.bind_some]
      dsimp only
      rw [hz, b78_5, if_neg (by decide), b78_11]
    have m0 : zev sc (142, 0, [some (.ref 173), some (.int (nI j)), some (.int w)], [], (197, i, zRF b, l)) = zev sc (142, 14, [some (.ref 173), some (.int (nI j)), some (.int w)], [.int (if 0 ≤ w ∧ w ≤ 1 then 1 else 0)], (197, i, zRF b, l)) := by
      rw [b142_0, c_mKind sc _ _ (by omega) _ _ _ hM.K, Option.bind_some]
      dsimp only
      rw [hz, b142_5, if_neg (by decide), b142_8, c_in, Option.bind_some]
    by_cases e0 : w = 0
    · subst e0
      refine zOp_p (r := .int (nI (S 6 j) - 3)) h (x0.trans ?_) (m0.trans ?_)
      · exact (b78_40 _ _ _ _ _ _ (vp_in_nI (by omega) (by decide))).trans (by rw [hc, hX.v hj])
      · rw [if_pos (by decide), b142_14, if_neg (by decide), b142_20, if_pos rfl, b142_24 _ _ _ _ _ _ (vp_in_nI (by omega) (by decide)), b142_39, hc, hM.v hj]
    by_cases e1 : w = 1
    · subst e1
      refine zOp_p (r := .int (nI (S 7 j))) h (x0.trans ?_) (m0.trans ?_)
      · exact (b78_50 _ _ _ _ _ _ (vp_in_nI (by omega) (by decide))).trans (by rw [hc, hX.m hj])
      · rw [if_pos (by decide), b142_14, if_neg (by decide), b142_20, if_neg (by decide), b142_33 _ _ _ _ _ _ (vp_in_nI (by omega) (by decide)), b142_39, hc, hM.m hj]
    have hw : ¬ (0 ≤ w ∧ w ≤ 1) := by
      intro ⟨q1, q2⟩
      have g1 := Int32.le_iff_toInt_le.mp q1
      have g2 := Int32.le_iff_toInt_le.mp q2
      rw [show (0 : Int32).toInt = 0 from rfl] at g1
      rw [show (1 : Int32).toInt = 1 from rfl] at g2
      have g3 : w.toInt ≠ 0 := fun q => e0 (Int32.toInt_inj.mp (q.trans rfl))
      have g4 : w.toInt ≠ 1 := fun q => e1 (Int32.toInt_inj.mp (q.trans rfl))
      omega
    refine zOp_p (r := .int (-1000000)) h (x0.trans ?_) (m0.trans ?_)
    · rw [show zcs w 60 [((0 : Int32), 40), ((1 : Int32), 50)] = 60 by simp [zcs, e0, e1], b78_60]
    · rw [if_neg hw, b142_14, if_pos rfl, b142_17]
  · refine zOp_p (r := .int (-1000000)) h ?_ ?_
    · rw [b78_0, c_xKind sc _ _ _ _ _ hX.K, Option.bind_some]
      dsimp only
      rw [zis_out hn, b78_5, if_pos rfl, b78_8]
    · rw [b142_0, c_mKind sc _ _ (by omega) _ _ _ hM.K, Option.bind_some]
      dsimp only
      rw [zis_out hn, b142_5, if_pos rfl, b142_17]

theorem op_beast (sc : zScr) {S : zS} {i : Nat → Nat → Int32} (b : Bool) {l : Nat → Nat → Int64} (h : Rl S i l) (f w : Int32) : zOp sc 79 143 [some (.ref 0), some (.int f), some (.int w)] [some (.ref 173), some (.int f), some (.int w)] i b l := by
  obtain ⟨hI, hX, hM, hL⟩ := id h
  have hE := hI.E
  have hF := hI.F
  have hK := hI.K
  have hB := hI.B
  rcases zix f (S 3 0) (by omega) with ⟨j, hj, rfl⟩ | hn
  · have hz := zis_in (j := j) (n := S 3 0) (by omega) hj
    have hc : (nI j).toNatClampNeg = j := nI_clamp (by omega)
    have x0 : zev sc (79, 0, [some (.ref 0), some (.int (nI j)), some (.int w)], [], (197, i, zRF b, l)) = zev sc (79, zcs w 56 [((0 : Int32), 36), ((1 : Int32), 46)], [some (.ref 0), some (.int (nI j)), some (.int w)], [], (197, i, zRF b, l)) := by
      rw [b79_0, c_xBeast sc _ _ _ _ _ hX.B, Option.bind_some]
      dsimp only
      rw [hz, b79_5, if_neg (by decide), b79_10]
    have m0 : zev sc (143, 0, [some (.ref 173), some (.int (nI j)), some (.int w)], [], (197, i, zRF b, l)) = zev sc (143, 14, [some (.ref 173), some (.int (nI j)), some (.int w)], [.int (if 0 ≤ w ∧ w ≤ 1 then 1 else 0)], (197, i, zRF b, l)) := by
      rw [b143_0, c_mBeast sc _ _ (by omega) _ _ _ hM.B, Option.bind_some]
      dsimp only
      rw [hz, b143_5, if_neg (by decide), b143_8, c_in, Option.bind_some]
    by_cases e0 : w = 0
    · subst e0
      refine zOp_p (r := .int (nI (S 8 j))) h (x0.trans ?_) (m0.trans ?_)
      · exact (b79_36 _ _ _ _ _ _ (vp_in_nI (by omega) (by decide))).trans (by rw [hc, hX.ko hj])
      · rw [if_pos (by decide), b143_14, if_neg (by decide), b143_19, if_pos rfl, b143_23 _ _ _ _ _ _ (vp_in_nI (by omega) (by decide)), b143_40, hc, hM.ko hj]
    by_cases e1 : w = 1
    · subst e1
      refine zOp_p (r := .int (nI (S 9 j))) h (x0.trans ?_) (m0.trans ?_)
      · exact (b79_46 _ _ _ _ _ _ (vp_in_nI (by omega) (by decide))).trans (by rw [hc, hX.fld hj])
      · rw [if_pos (by decide), b143_14, if_neg (by decide), b143_19, if_neg (by decide), b143_32 _ _ _ _ _ _ (by rw [L0, nI_add]; exact vp_in_nI (by omega) (by decide)), b143_40, L0, nI_add, Nat.zero_add, hc, hM.now (by omega)]
    have hw : ¬ (0 ≤ w ∧ w ≤ 1) := by
      intro ⟨q1, q2⟩
      have g1 := Int32.le_iff_toInt_le.mp q1
      have g2 := Int32.le_iff_toInt_le.mp q2
      rw [show (0 : Int32).toInt = 0 from rfl] at g1
      rw [show (1 : Int32).toInt = 1 from rfl] at g2
      have g3 : w.toInt ≠ 0 := fun q => e0 (Int32.toInt_inj.mp (q.trans rfl))
      have g4 : w.toInt ≠ 1 := fun q => e1 (Int32.toInt_inj.mp (q.trans rfl))
      omega
    refine zOp_p (r := .int (-1)) h (x0.trans ?_) (m0.trans ?_)
    · rw [show zcs w 56 [((0 : Int32), 36), ((1 : Int32), 46)] = 56 by simp [zcs, e0, e1], b79_56]
    · rw [if_neg hw, b143_14, if_pos rfl, b143_17]
  · refine zOp_p (r := .int (-1)) h ?_ ?_
    · rw [b79_0, c_xBeast sc _ _ _ _ _ hX.B, Option.bind_some]
      dsimp only
      rw [zis_out hn, b79_5, if_pos rfl, b79_8]
    · rw [b143_0, c_mBeast sc _ _ (by omega) _ _ _ hM.B, Option.bind_some]
      dsimp only
      rw [zis_out hn, b143_5, if_pos rfl, b143_17]

theorem op_sound (sc : zScr) {S : zS} {i : Nat → Nat → Int32} (b : Bool) {l : Nat → Nat → Int64} (h : Rl S i l) (k f : Int32) : zOp sc 80 144 [some (.ref 0), some (.int k), some (.int f)] [some (.ref 173), some (.int k), some (.int f)] i b l := by
  obtain ⟨hI, hX, hM, hL⟩ := id h
  have hE := hI.E
  have hF := hI.F
  have hK := hI.K
  have hB := hI.B
  rcases zix k (S 2 0) (by omega) with ⟨k, hk, rfl⟩ | hn
  · have hz := zis_in (j := k) (n := S 2 0) (by omega) hk
    rcases zix f (S 1 0) (by omega) with ⟨f, hf, rfl⟩ | hn
    · have hz2 := zis_in (j := f) (n := S 1 0) (by omega) hf
      refine zOp_p (r := .int (nI (sSnd S k f))) h ?_ ?_
      · rw [b80_0, c_xKind sc _ _ _ _ _ hX.K, Option.bind_some]
        dsimp only
        rw [hz, b80_5, if_neg (by decide), b80_8, c_xFence sc _ _ _ _ _ hX.E, Option.bind_some]
        dsimp only
        rw [hz2, b80_13, if_neg (by decide), b80_16, c_xSound sc hI hk hf i hX, Option.bind_some]
        dsimp only
        rw [b80_25, b80_29]
      · rw [b144_0, c_mKind sc _ _ (by omega) _ _ _ hM.K, Option.bind_some]
        dsimp only
        rw [hz, b144_5, if_neg (by decide), b144_8, c_mFence sc _ _ (by omega) _ _ _ hM.E, Option.bind_some]
        dsimp only
        rw [hz2, b144_13, if_neg (by decide), b144_16, c_mSound sc hI hk hf i hM, Option.bind_some]
        dsimp only
        rw [b144_22, b144_26]
    · refine zOp_p (r := .int (-1)) h ?_ ?_
      · rw [b80_0, c_xKind sc _ _ _ _ _ hX.K, Option.bind_some]
        dsimp only
        rw [hz, b80_5, if_neg (by decide), b80_8, c_xFence sc _ _ _ _ _ hX.E, Option.bind_some]
        dsimp only
        rw [zis_out hn, b80_13, if_pos rfl, b80_28, b80_29]
      · rw [b144_0, c_mKind sc _ _ (by omega) _ _ _ hM.K, Option.bind_some]
        dsimp only
        rw [hz, b144_5, if_neg (by decide), b144_8, c_mFence sc _ _ (by omega) _ _ _ hM.E, Option.bind_some]
        dsimp only
        rw [zis_out hn, b144_13, if_pos rfl, b144_25, b144_26]
  · refine zOp_p (r := .int (-1)) h ?_ ?_
    · rw [b80_0, c_xKind sc _ _ _ _ _ hX.K, Option.bind_some]
      dsimp only
      rw [zis_out hn, b80_5, if_pos rfl, b80_28, b80_29]
    · rw [b144_0, c_mKind sc _ _ (by omega) _ _ _ hM.K, Option.bind_some]
      dsimp only
      rw [zis_out hn, b144_5, if_pos rfl, b144_25, b144_26]

theorem op_count (sc : zScr) {S : zS} {i : Nat → Nat → Int32} (b : Bool) {l : Nat → Nat → Int64} (h : Rl S i l) (w : Int32) : zOp sc 103 183 [some (.ref 0), some (.int w)] [some (.ref 173), some (.int w)] i b l := by
  obtain ⟨hI, hX, hM, hL⟩ := id h
  have hE := hI.E
  have hF := hI.F
  have hK := hI.K
  have hB := hI.B
  by_cases e0 : w = 0
  · subst e0
    refine zOp_p (r := .int (nI (S 0 0))) h ((b103_0 _ _ _ _ _).trans ?_) ((b183_0 _ _ _ _ _).trans ?_)
    · exact (b103_44 _ _ _ _ _).trans (by rw [hX.F])
    · exact (b183_44 _ _ _ _ _).trans (by rw [hM.F])
  by_cases e1 : w = 1
  · subst e1
    refine zOp_p (r := .int (nI (S 1 0))) h ((b103_0 _ _ _ _ _).trans ?_) ((b183_0 _ _ _ _ _).trans ?_)
    · exact (b103_52 _ _ _ _ _).trans (by rw [hX.E])
    · exact (b183_51 _ _ _ _ _).trans (by rw [hM.E])
  by_cases e2 : w = 2
  · subst e2
    refine zOp_p (r := .int (nI (S 2 0))) h ((b103_0 _ _ _ _ _).trans ?_) ((b183_0 _ _ _ _ _).trans ?_)
    · exact (b103_60 _ _ _ _ _).trans (by rw [hX.K])
    · exact (b183_58 _ _ _ _ _).trans (by rw [hM.K])
  by_cases e3 : w = 3
  · subst e3
    refine zOp_p (r := .int (nI (S 3 0))) h ((b103_0 _ _ _ _ _).trans ?_) ((b183_0 _ _ _ _ _).trans ?_)
    · exact (b103_68 _ _ _ _ _).trans (by rw [hX.B])
    · exact (b183_65 _ _ _ _ _).trans (by rw [hM.B])
  by_cases e4 : w = 4
  · subst e4
    refine zOp_p (r := .int (nI (S 15 0))) h ((b103_0 _ _ _ _ _).trans ?_) ((b183_0 _ _ _ _ _).trans ?_)
    · exact (b103_76 _ _ _ _ _).trans (by rw [hX.hd])
    · exact (b183_72 _ _ _ _ _).trans (by rw [hM.hd])
  by_cases e5 : w = 5
  · subst e5
    refine zOp_p (r := .int (nI (S 10 0))) h ((b103_0 _ _ _ _ _).trans ?_) ((b183_0 _ _ _ _ _).trans ?_)
    · exact (b103_84 _ _ _ _ _).trans (by rw [hX.past.1])
    · exact (b183_77 _ _ _ _ _).trans (by rw [hM.kn (j := 0) (by decide)])
  by_cases e6 : w = 6
  · subst e6
    refine zOp_p (r := .int (nI (S 17 0))) h ((b103_0 _ _ _ _ _).trans ?_) ((b183_0 _ _ _ _ _).trans ?_)
    · exact (b103_92 _ _ _ _ _).trans (by rw [hX.ty])
    · exact (b183_84 _ _ _ _ _).trans (by rw [hM.ty])
  refine zOp_p (r := .int (-1)) h ((b103_0 _ _ _ _ _).trans ?_) ((b183_0 _ _ _ _ _).trans ?_)
  · rw [show zcs w 100 [((0 : Int32), 44), ((1 : Int32), 52), ((2 : Int32), 60), ((3 : Int32), 68), ((4 : Int32), 76), ((5 : Int32), 84), ((6 : Int32), 92)] = 100 by simp [zcs, e0, e1, e2, e3, e4, e5, e6], b103_100]
  · rw [show zcs w 89 [((0 : Int32), 44), ((1 : Int32), 51), ((2 : Int32), 58), ((3 : Int32), 65), ((4 : Int32), 72), ((5 : Int32), 77), ((6 : Int32), 84)] = 89 by simp [zcs, e0, e1, e2, e3, e4, e5, e6], b183_89]

theorem op_trace (sc : zScr) {S : zS} {i : Nat → Nat → Int32} (b : Bool) {l : Nat → Nat → Int64} (h : Rl S i l) : zOp sc 104 180 [some (.ref 0)] [some (.ref 173)] i b l := by
  exact zOp_p (r := .long (l 0 10)) h (b104_0 _ _ _ _) ((b180_0 _ _ _ _).trans (by rw [h.2.2.2]))

theorem op_song (sc : zScr) {S : zS} {i : Nat → Nat → Int32} (b : Bool) {l : Nat → Nat → Int64} (h : Rl S i l) (w : Int32) : zOp sc 88 159 [some (.ref 0), some (.int w)] [some (.ref 173), some (.int w)] i b l := by
  obtain ⟨hI, hX, hM, hL⟩ := id h
  have hE := hI.E
  have hF := hI.F
  have hK := hI.K
  have hB := hI.B
  have hs := hI.sung
  rcases zix w 12 (by decide) with ⟨j, hj, rfl⟩ | hn
  · have h12 : (nI j < 12) := (nI_ltI (b := 12) (by omega) (by decide)).mpr hj
    have hin : (0 ≤ nI j ∧ nI j ≤ 11) := ⟨nI_pos' (by omega), (nI_leI (b := 11) (by omega) (by decide)).mpr (by omega)⟩
    have hng : ¬ nI j < 0 := Int32.not_lt.mpr hin.1
    by_cases hlt : j < S 9 17
    · have h2 : ¬ nI (S 9 17) ≤ nI j := fun q => by have := (nI_leI (by omega) (by omega)).mp q; omega
      refine zOp_p (r := .int (nI (S 9 (18 + (S 9 17 - 1 - j))))) h ?_ ?_
      · rw [b88_0, if_neg hng, b88_4, if_pos h12, b88_12, hX.sung, if_neg h2, b88_23 _ _ _ _ _ (vp_in_nI hj (by decide)), b88_37, nI_clamp (by omega), hX.song hlt]
      · have e18 : (18 : Int32) + nI (S 9 17) - 1 - nI j = nI (18 + (S 9 17 - 1 - j)) := by
          rw [L18, nI_add, L1, pk_sub (by omega), pk_sub (by omega)]
          congr 1
          omega
        rw [b159_0, c_in, Option.bind_some]
        dsimp only
        rw [if_pos hin, b159_7, if_neg (by decide), b159_12, hM.now (by decide), if_neg h2, b159_23 _ _ _ _ _ (by rw [hM.now (by decide), e18]; exact vp_in_nI (by omega) (by decide)), b159_47, hM.now (j := 17) (by decide), e18, nI_clamp (by omega), hM.now (by omega)]
    · have h2 : nI (S 9 17) ≤ nI j := (nI_leI (by omega) (by omega)).mpr (by omega)
      refine zOp_p (r := .int (-9)) h ?_ ?_
      · rw [b88_0, if_neg hng, b88_4, if_pos h12, b88_12, hX.sung, if_pos h2, b88_35, b88_37]
      · rw [b159_0, c_in, Option.bind_some]
        dsimp only
        rw [if_pos hin, b159_7, if_neg (by decide), b159_12, hM.now (by decide), if_pos h2, b159_45, b159_47]
  · have hn2 : ¬ (0 ≤ w ∧ w ≤ 11) := by
      intro ⟨q1, q2⟩
      refine hn ⟨q1, ?_⟩
      have g2 := Int32.le_iff_toInt_le.mp q2
      rw [show (11 : Int32).toInt = 11 from rfl] at g2
      rw [Int32.lt_iff_toInt_lt, show (nI 12).toInt = 12 from rfl]
      omega
    refine zOp_p (r := .int (-1)) h ?_ ?_
    · rw [b88_0]
      by_cases hng : w < 0
      · rw [if_pos hng, b88_10]
      · rw [if_neg hng, b88_4, if_neg (show ¬ w < 12 from fun q => hn ⟨Int32.not_lt.mp hng, q⟩), b88_10]
    · rw [b159_0, c_in, Option.bind_some]
      dsimp only
      rw [if_neg hn2, b159_7, if_pos rfl, b159_10]

