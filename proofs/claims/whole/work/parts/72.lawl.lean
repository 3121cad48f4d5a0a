/-! the law's loop (printed by gen72.py) -/
def zRi (N : zMe) (v : Value) : Prop := (∃ r, v = .int r) ∨ N.2.2.2.1 = some .long ∨ N.2.2.2.1 = none
theorem zrun_i (sc : zScr) : ∀ (n : Nat) (s : zSt) (x : zRs) (N : zMe), zrun sc n s = some x → zM s.1 = some N → zRi N x.1
  | 0, _, _, _, h, _ => by cases h
  | n + 1, s, x, N, h, hN => by
    have h : zstp (zrun sc n) (zact sc s) = some x := h
    unfold zact at h
    rw [hN] at h
    dsimp only at h
    split at h
    · cases h
    rename_i y hd
    by_cases hlen : y.2 = zlen y.1 y.2
    case neg => rw [if_neg hlen] at h; cases h
    rw [if_pos hlen] at h
    have go : ∀ (pc' : Nat) (ls' : List (Option Value)) (st' : List Value) (h' : zHp), zstp (zrun sc n) (zgo s.1 pc' ls' st' h') = some x → zRi N x.1 := fun pc' ls' st' h' e => zrun_i sc n _ x N e hN
    have jp : ∀ (t : Option Nat) (ls : List (Option Value)) (st' : List Value) (h' : zHp), zstp (zrun sc n) (zjp s.1 t ls st' h') = some x → zRi N x.1 := by
      intro t ls st' h' e
      cases t with
      | none => cases e
      | some t => exact go _ _ _ _ e
    have cl : ∀ (pc : Nat) (ls : List (Option Value)) (as rest : List Value) (h' : zHp) (k' : Nat), zstp (zrun sc n) (zcall s.1 N pc ls as rest h' k') = some x → zRi N x.1 := by
      intro pc ls as rest h' k' e
      unfold zcall at e
      split at e
      · cases e
      · split at e
        · simp only [zstp] at e
          obtain ⟨y, h1, h2⟩ := Option.bind_eq_some_iff.mp e
          exact zrun_i sc n _ x N h2 hN
        · cases e
    have nn : zstp (zrun sc n) none = some x → zRi N x.1 := fun e => by cases e
    generalize y.1 = ins at h
    cases ins <;> simp only [zins] at h <;> first
      | (exact nn h; done)
      | ((repeat' split at h) <;> first | exact nn h | exact go _ _ _ _ h | exact jp _ _ _ _ h | exact cl _ _ _ _ _ _ h | (simp only [zstp, Option.some.injEq] at h; subst h; exact Or.inl ⟨_, rfl⟩) | (rename_i hty; simp only [zstp, Option.some.injEq] at h; subst h; exact Or.inr (Or.inl hty)) | (rename_i hty; simp only [zstp, Option.some.injEq] at h; subst h; exact Or.inr (Or.inr hty)))
def zIk (k : Nat) : Bool := match zM k with
  | some N => !decide (N.2.2.2.1 = some .long) && !decide (N.2.2.2.1 = none)
  | none => false
theorem zev_i {sc : zScr} {s : zSt} {x : zRs} (h : zev sc s = some x) (hk : zIk s.1 = true) : ∃ r, x.1 = .int r := by
  obtain ⟨n, hn⟩ := zev_iff.mp h
  unfold zIk at hk
  split at hk
  · rename_i N hN
    rw [Bool.and_eq_true, Bool.not_eq_true', Bool.not_eq_true', decide_eq_false_iff_not, decide_eq_false_iff_not] at hk
    rcases zrun_i sc n s x N hn hN with q | q | q
    · exact q
    · exact absurd q hk.1
    · exact absurd q hk.2
  · cases hk
abbrev zLl (v : Nat) : List (Option Value) := [some (.retAddr 0), some (.ref 0), some (.ref 173), some (.int (nI v))]
theorem law_op {L : Nat} {xs : Nat → Int32} {v pc p1 p2 kx km : Nat} {ax am : List (Option Value)} {i : Nat → Nat → Int32} {b : Bool} {l : Nat → Nat → Int64} (hop : zOp (L, xs) kx km ax am i b l) (hkx : zIk kx = true) (hkm : zIk km = true)
    (hx : zev (L, xs) (185, pc, zLl v, [], (197, i, zRF b, l)) = (zev (L, xs) (kx, 0, ax, [], (197, i, zRF b, l))).bind (fun x => zev (L, xs) (185, p1, zLl v, [x.1], x.2)))
    (hm : ∀ (s0 : Int32) (i : Nat → Nat → Int32) (b : Bool) (l : Nat → Nat → Int64), zev (L, xs) (185, p1, zLl v, [.int s0], (197, i, zRF b, l)) = (zev (L, xs) (km, 0, am, [], (197, i, zRF b, l))).bind (fun x => zev (L, xs) (185, p2, zLl v, [x.1, .int s0], x.2)))
    (he : ∀ (s0 : Int32) (i : Nat → Nat → Int32) (b : Bool) (l : Nat → Nat → Int64), zev (L, xs) (185, p2, zLl v, [.int s0, .int s0], (197, i, zRF b, l)) = zev (L, xs) (185, 988, zLl v, [], (197, i, zRF b, l))) :
    ∃ (S' : zS) (i' : Nat → Nat → Int32) (b' : Bool) (l' : Nat → Nat → Int64), Rl S' i' l' ∧ zev (L, xs) (185, pc, zLl v, [], (197, i, zRF b, l)) = zev (L, xs) (185, 988, zLl v, [], (197, i', zRF b', l')) := by
  obtain ⟨r, i1, b1, l1, i2, l2, S', h1, h2, hR⟩ := hop
  obtain ⟨w, hw⟩ := zev_i h1 hkx
  have hw' : r = .int w := hw
  subst hw'
  refine ⟨S', i2, b1, l2, hR, ?_⟩
  rw [hx, h1, Option.bind_some]
  dsimp only
  rw [hm, h2, Option.bind_some]
  dsimp only
  rw [he]
theorem zlg (x : Int64) : lg_cmp x x = 0 := by
  unfold lg_cmp
  simp
theorem zcs_law : ∀ j, j < 32 → zcs (nI j) 988 [((0 : Int32), 172), ((1 : Int32), 195), ((2 : Int32), 208), ((3 : Int32), 221), ((4 : Int32), 254), ((5 : Int32), 287), ((6 : Int32), 320), ((7 : Int32), 353), ((8 : Int32), 386), ((9 : Int32), 419), ((10 : Int32), 452), ((11 : Int32), 475), ((12 : Int32), 498), ((13 : Int32), 511), ((14 : Int32), 534), ((15 : Int32), 557), ((16 : Int32), 580), ((17 : Int32), 603), ((18 : Int32), 616), ((19 : Int32), 649), ((20 : Int32), 672), ((21 : Int32), 685), ((22 : Int32), 698), ((23 : Int32), 751), ((24 : Int32), 774), ((25 : Int32), 797), ((26 : Int32), 872), ((27 : Int32), 905), ((28 : Int32), 928), ((29 : Int32), 951), ((30 : Int32), 974)] = ([172, 195, 208, 221, 254, 287, 320, 353, 386, 419, 452, 475, 498, 511, 534, 557, 580, 603, 616, 649, 672, 685, 698, 751, 774, 797, 872, 905, 928, 951, 974] : List Nat).getD j 988 := by decide +kernel
theorem law_key {L : Nat} {xs : Nat → Int32} (hL : L ≤ 3584) {v : Nat} (hv : v + 7 ≤ L) {S : zS} {i : Nat → Nat → Int32} (b : Bool) {l : Nat → Nat → Int64} (h : Rl S i l) (j : Nat) (hj : j < 32) : ∃ (S' : zS) (i' : Nat → Nat → Int32) (b' : Bool) (l' : Nat → Nat → Int64), Rl S' i' l' ∧ zev (L, xs) (185, ([172, 195, 208, 221, 254, 287, 320, 353, 386, 419, 452, 475, 498, 511, 534, 557, 580, 603, 616, 649, 672, 685, 698, 751, 774, 797, 872, 905, 928, 951, 974] : List Nat).getD j 988, zLl v, [], (197, i, zRF b, l)) = zev (L, xs) (185, 988, zLl v, [], (197, i', zRF b', l')) := by
  have g1 : vp_in (nI v + (1 : Int32)) L := by rw [show nI v + (1 : Int32) = nI (v + 1) from nI_add v 1]; exact vp_in_nI (by omega) (by omega)
  have g2 : vp_in (nI v + (2 : Int32)) L := by rw [show nI v + (2 : Int32) = nI (v + 2) from nI_add v 2]; exact vp_in_nI (by omega) (by omega)
  have g3 : vp_in (nI v + (3 : Int32)) L := by rw [show nI v + (3 : Int32) = nI (v + 3) from nI_add v 3]; exact vp_in_nI (by omega) (by omega)
  have g4 : vp_in (nI v + (4 : Int32)) L := by rw [show nI v + (4 : Int32) = nI (v + 4) from nI_add v 4]; exact vp_in_nI (by omega) (by omega)
  have g5 : vp_in (nI v + (5 : Int32)) L := by rw [show nI v + (5 : Int32) = nI (v + 5) from nI_add v 5]; exact vp_in_nI (by omega) (by omega)
  have g6 : vp_in (nI v + (6 : Int32)) L := by rw [show nI v + (6 : Int32) = nI (v + 6) from nI_add v 6]; exact vp_in_nI (by omega) (by omega)
  have hj32 : j = 0 ∨ j = 1 ∨ j = 2 ∨ j = 3 ∨ j = 4 ∨ j = 5 ∨ j = 6 ∨ j = 7 ∨ j = 8 ∨ j = 9 ∨ j = 10 ∨ j = 11 ∨ j = 12 ∨ j = 13 ∨ j = 14 ∨ j = 15 ∨ j = 16 ∨ j = 17 ∨ j = 18 ∨ j = 19 ∨ j = 20 ∨ j = 21 ∨ j = 22 ∨ j = 23 ∨ j = 24 ∨ j = 25 ∨ j = 26 ∨ j = 27 ∨ j = 28 ∨ j = 29 ∨ j = 30 ∨ j = 31 := by omega
  rcases hj32 with rfl | rfl | rfl | rfl | rfl | rfl | rfl | rfl | rfl | rfl | rfl | rfl | rfl | rfl | rfl | rfl | rfl | rfl | rfl | rfl | rfl | rfl | rfl | rfl | rfl | rfl | rfl | rfl | rfl | rfl | rfl | rfl
  · exact law_op (pc := 172) (p1 := 181) (p2 := 190) (op_type (L, xs) b h _) (by decide +kernel) (by decide +kernel) (b185_172 _ _ _ _ _ g1) (fun s0 i b l => b185_181 _ _ _ _ _ _ g1) (fun s0 i b l => (b185_190 _ _ _ _ _ _ _).trans (if_pos rfl))
  · exact law_op (pc := 195) (p1 := 199) (p2 := 203) (op_clear (L, xs) b h) (by decide +kernel) (by decide +kernel) (b185_195 _ _ _ _ _) (fun s0 i b l => b185_199 _ _ _ _ _ _) (fun s0 i b l => (b185_203 _ _ _ _ _ _ _).trans (if_pos rfl))
  · exact law_op (pc := 208) (p1 := 212) (p2 := 216) (op_downs (L, xs) b h) (by decide +kernel) (by decide +kernel) (b185_208 _ _ _ _ _) (fun s0 i b l => b185_212 _ _ _ _ _ _) (fun s0 i b l => (b185_216 _ _ _ _ _ _ _).trans (if_pos rfl))
  · exact law_op (pc := 221) (p1 := 235) (p2 := 249) (op_fence (L, xs) b h _ _) (by decide +kernel) (by decide +kernel) (b185_221 _ _ _ _ _ g1 g2) (fun s0 i b l => b185_235 _ _ _ _ _ _ g1 g2) (fun s0 i b l => (b185_249 _ _ _ _ _ _ _).trans (if_pos rfl))
  · exact law_op (pc := 254) (p1 := 268) (p2 := 282) (op_kind (L, xs) b h _ _) (by decide +kernel) (by decide +kernel) (b185_254 _ _ _ _ _ g1 g2) (fun s0 i b l => b185_268 _ _ _ _ _ _ g1 g2) (fun s0 i b l => (b185_282 _ _ _ _ _ _ _).trans (if_pos rfl))
  · exact law_op (pc := 287) (p1 := 301) (p2 := 315) (op_beast (L, xs) b h _ _) (by decide +kernel) (by decide +kernel) (b185_287 _ _ _ _ _ g1 g2) (fun s0 i b l => b185_301 _ _ _ _ _ _ g1 g2) (fun s0 i b l => (b185_315 _ _ _ _ _ _ _).trans (if_pos rfl))
  · exact law_op (pc := 320) (p1 := 334) (p2 := 348) (op_sound (L, xs) b h _ _) (by decide +kernel) (by decide +kernel) (b185_320 _ _ _ _ _ g1 g2) (fun s0 i b l => b185_334 _ _ _ _ _ _ g1 g2) (fun s0 i b l => (b185_348 _ _ _ _ _ _ _).trans (if_pos rfl))
  · exact law_op (pc := 353) (p1 := 367) (p2 := 381) (op_goes (L, xs) b h _ _) (by decide +kernel) (by decide +kernel) (b185_353 _ _ _ _ _ g1 g2) (fun s0 i b l => b185_367 _ _ _ _ _ _ g1 g2) (fun s0 i b l => (b185_381 _ _ _ _ _ _ _).trans (if_pos rfl))
  · exact law_op (pc := 386) (p1 := 400) (p2 := 414) (op_cuts (L, xs) b h _ _) (by decide +kernel) (by decide +kernel) (b185_386 _ _ _ _ _ g1 g2) (fun s0 i b l => b185_400 _ _ _ _ _ _ g1 g2) (fun s0 i b l => (b185_414 _ _ _ _ _ _ _).trans (if_pos rfl))
  · exact law_op (pc := 419) (p1 := 433) (p2 := 447) (op_tunes (L, xs) b h _ _) (by decide +kernel) (by decide +kernel) (b185_419 _ _ _ _ _ g1 g2) (fun s0 i b l => b185_433 _ _ _ _ _ _ g1 g2) (fun s0 i b l => (b185_447 _ _ _ _ _ _ _).trans (if_pos rfl))
  · exact law_op (pc := 452) (p1 := 461) (p2 := 470) (op_lays (L, xs) b h _) (by decide +kernel) (by decide +kernel) (b185_452 _ _ _ _ _ g1) (fun s0 i b l => b185_461 _ _ _ _ _ _ g1) (fun s0 i b l => (b185_470 _ _ _ _ _ _ _).trans (if_pos rfl))
  · exact law_op (pc := 475) (p1 := 484) (p2 := 493) (op_rains (L, xs) b h _) (by decide +kernel) (by decide +kernel) (b185_475 _ _ _ _ _ g1) (fun s0 i b l => b185_484 _ _ _ _ _ _ g1) (fun s0 i b l => (b185_493 _ _ _ _ _ _ _).trans (if_pos rfl))
  · exact law_op (pc := 498) (p1 := 502) (p2 := 506) (op_undo (L, xs) b h) (by decide +kernel) (by decide +kernel) (b185_498 _ _ _ _ _) (fun s0 i b l => b185_502 _ _ _ _ _ _) (fun s0 i b l => (b185_506 _ _ _ _ _ _ _).trans (if_pos rfl))
  · exact law_op (pc := 511) (p1 := 520) (p2 := 529) (op_now (L, xs) b h _) (by decide +kernel) (by decide +kernel) (b185_511 _ _ _ _ _ g1) (fun s0 i b l => b185_520 _ _ _ _ _ _ g1) (fun s0 i b l => (b185_529 _ _ _ _ _ _ _).trans (if_pos rfl))
  · exact law_op (pc := 534) (p1 := 543) (p2 := 552) (op_song (L, xs) b h _) (by decide +kernel) (by decide +kernel) (b185_534 _ _ _ _ _ g1) (fun s0 i b l => b185_543 _ _ _ _ _ _ g1) (fun s0 i b l => (b185_552 _ _ _ _ _ _ _).trans (if_pos rfl))
  · exact law_op (pc := 557) (p1 := 566) (p2 := 575) (op_who (L, xs) b h _) (by decide +kernel) (by decide +kernel) (b185_557 _ _ _ _ _ g1) (fun s0 i b l => b185_566 _ _ _ _ _ _ g1) (fun s0 i b l => (b185_575 _ _ _ _ _ _ _).trans (if_pos rfl))
  · exact law_op (pc := 580) (p1 := 589) (p2 := 598) (op_hears (L, xs) b h _) (by decide +kernel) (by decide +kernel) (b185_580 _ _ _ _ _ g1) (fun s0 i b l => b185_589 _ _ _ _ _ _ g1) (fun s0 i b l => (b185_598 _ _ _ _ _ _ _).trans (if_pos rfl))
  · exact law_op (pc := 603) (p1 := 607) (p2 := 611) (op_forget (L, xs) b h) (by decide +kernel) (by decide +kernel) (b185_603 _ _ _ _ _) (fun s0 i b l => b185_607 _ _ _ _ _ _) (fun s0 i b l => (b185_611 _ _ _ _ _ _ _).trans (if_pos rfl))
  · exact law_op (pc := 616) (p1 := 630) (p2 := 644) (op_ways (L, xs) b h _ _) (by decide +kernel) (by decide +kernel) (b185_616 _ _ _ _ _ g1 g2) (fun s0 i b l => b185_630 _ _ _ _ _ _ g1 g2) (fun s0 i b l => (b185_644 _ _ _ _ _ _ _).trans (if_pos rfl))
  · exact law_op (pc := 649) (p1 := 658) (p2 := 667) (op_ends (L, xs) b h _) (by decide +kernel) (by decide +kernel) (b185_649 _ _ _ _ _ g1) (fun s0 i b l => b185_658 _ _ _ _ _ _ g1) (fun s0 i b l => (b185_667 _ _ _ _ _ _ _).trans (if_pos rfl))
  · exact law_op (pc := 672) (p1 := 676) (p2 := 680) (op_can (L, xs) b h) (by decide +kernel) (by decide +kernel) (b185_672 _ _ _ _ _) (fun s0 i b l => b185_676 _ _ _ _ _ _) (fun s0 i b l => (b185_680 _ _ _ _ _ _ _).trans (if_pos rfl))
  · exact law_op (pc := 685) (p1 := 689) (p2 := 693) (op_ask (L, xs) b h) (by decide +kernel) (by decide +kernel) (b185_685 _ _ _ _ _) (fun s0 i b l => b185_689 _ _ _ _ _ _) (fun s0 i b l => (b185_693 _ _ _ _ _ _ _).trans (if_pos rfl))
  · exact law_op (pc := 698) (p1 := 722) (p2 := 746) (op_quiet (L, xs) b h _ _ _ _) (by decide +kernel) (by decide +kernel) (b185_698 _ _ _ _ _ g1 g2 g3 g4) (fun s0 i b l => b185_722 _ _ _ _ _ _ g1 g2 g3 g4) (fun s0 i b l => (b185_746 _ _ _ _ _ _ _).trans (if_pos rfl))
  · exact law_op (pc := 751) (p1 := 760) (p2 := 769) (op_fifths (L, xs) b h _) (by decide +kernel) (by decide +kernel) (b185_751 _ _ _ _ _ g1) (fun s0 i b l => b185_760 _ _ _ _ _ _ g1) (fun s0 i b l => (b185_769 _ _ _ _ _ _ _).trans (if_pos rfl))
  · exact law_op (pc := 774) (p1 := 783) (p2 := 792) (op_herd (L, xs) b h _) (by decide +kernel) (by decide +kernel) (b185_774 _ _ _ _ _ g1) (fun s0 i b l => b185_783 _ _ _ _ _ _ g1) (fun s0 i b l => (b185_792 _ _ _ _ _ _ _).trans (if_pos rfl))
  · exact law_op (pc := 797) (p1 := 832) (p2 := 867) (op_frost (L, xs) b h _ _ _ _ _ _) (by decide +kernel) (by decide +kernel) (b185_797 _ _ _ _ _ g1 g2 g3 g4 g5 g6) (fun s0 i b l => b185_832 _ _ _ _ _ _ g1 g2 g3 g4 g5 g6) (fun s0 i b l => (b185_867 _ _ _ _ _ _ _).trans (if_pos rfl))
  · exact law_op (pc := 872) (p1 := 886) (p2 := 900) (op_mark (L, xs) b h _ _) (by decide +kernel) (by decide +kernel) (b185_872 _ _ _ _ _ g1 g2) (fun s0 i b l => b185_886 _ _ _ _ _ _ g1 g2) (fun s0 i b l => (b185_900 _ _ _ _ _ _ _).trans (if_pos rfl))
  · exact law_op (pc := 905) (p1 := 914) (p2 := 923) (op_keep (L, xs) b h _) (by decide +kernel) (by decide +kernel) (b185_905 _ _ _ _ _ g1) (fun s0 i b l => b185_914 _ _ _ _ _ _ g1) (fun s0 i b l => (b185_923 _ _ _ _ _ _ _).trans (if_pos rfl))
  · exact law_op (pc := 928) (p1 := 937) (p2 := 946) (op_back (L, xs) b h _) (by decide +kernel) (by decide +kernel) (b185_928 _ _ _ _ _ g1) (fun s0 i b l => b185_937 _ _ _ _ _ _ g1) (fun s0 i b l => (b185_946 _ _ _ _ _ _ _).trans (if_pos rfl))
  · exact law_op (pc := 951) (p1 := 960) (p2 := 969) (op_count (L, xs) b h _) (by decide +kernel) (by decide +kernel) (b185_951 _ _ _ _ _ g1) (fun s0 i b l => b185_960 _ _ _ _ _ _ g1) (fun s0 i b l => (b185_969 _ _ _ _ _ _ _).trans (if_pos rfl))
  · refine ⟨S, i, b, l, h, ?_⟩
    show zev (L, xs) (185, 974, _, _, _) = _
    rw [zLl, b185_974, b104_0, Option.bind_some]
    dsimp only
    rw [b185_978, b180_0, Option.bind_some]
    dsimp only
    rw [b185_982, h.2.2.2, if_pos (zlg _)]
  · exact ⟨S, i, b, l, h, rfl⟩
theorem law_step {L : Nat} {xs : Nat → Int32} (hL : L ≤ 3584) {v : Nat} (hv : v + 7 ≤ L) {S : zS} {i : Nat → Nat → Int32} (b : Bool) {l : Nat → Nat → Int64} (h : Rl S i l) : ∃ (S' : zS) (i' : Nat → Nat → Int32) (b' : Bool) (l' : Nat → Nat → Int64), Rl S' i' l' ∧ zev (L, xs) (185, 18, zLl v, [], (197, i, zRF b, l)) = zev (L, xs) (185, 18, zLl (v + 7), [], (197, i', zRF b', l')) := by
  obtain ⟨j, hj, ej⟩ := pk_andE (xs (nI v).toNatClampNeg) (m := 31) 5 rfl
  obtain ⟨S', i', b', l', h1, h2⟩ := law_key (xs := xs) hL hv b h j hj
  refine ⟨S', i', b', l', h1, ?_⟩
  have h18 : ¬ (Int32.ofNat L - 7 < nI v) := by
    intro z
    have := Int32.lt_iff_toInt_lt.mp z
    rw [show Int32.ofNat L - 7 = nI L - nI 7 from rfl, pk_sub_toInt (by omega) (by decide), nI_toInt (by omega)] at this
    omega
  rw [zLl, b185_18, if_neg h18, b185_27 _ _ _ _ _ (vp_in_nI (by omega) (by omega))]
  show zev (L, xs) (185, zcs (xs (nI v).toNatClampNeg &&& 31) 988 [((0 : Int32), 172), ((1 : Int32), 195), ((2 : Int32), 208), ((3 : Int32), 221), ((4 : Int32), 254), ((5 : Int32), 287), ((6 : Int32), 320), ((7 : Int32), 353), ((8 : Int32), 386), ((9 : Int32), 419), ((10 : Int32), 452), ((11 : Int32), 475), ((12 : Int32), 498), ((13 : Int32), 511), ((14 : Int32), 534), ((15 : Int32), 557), ((16 : Int32), 580), ((17 : Int32), 603), ((18 : Int32), 616), ((19 : Int32), 649), ((20 : Int32), 672), ((21 : Int32), 685), ((22 : Int32), 698), ((23 : Int32), 751), ((24 : Int32), 774), ((25 : Int32), 797), ((26 : Int32), 872), ((27 : Int32), 905), ((28 : Int32), 928), ((29 : Int32), 951), ((30 : Int32), 974)], _, _, _) = _
  rw [ej, zcs_law j hj, h2, zLl, b185_988, show nI v + 7 = nI (v + 7) from nI_add v 7]
theorem law_loop {L : Nat} {xs : Nat → Int32} (hL : L ≤ 3584) : ∀ (n v : Nat) (S : zS) (i : Nat → Nat → Int32) (b : Bool) (l : Nat → Nat → Int64), L < v + n → v ≤ 3600 → Rl S i l → ∃ h' : zHp, zev (L, xs) (185, 18, zLl v, [], (197, i, zRF b, l)) = some (.int 1, h') ∧ h'.1 = 197 := by
  have stop : ∀ (v : Nat) (i : Nat → Nat → Int32) (b : Bool) (l : Nat → Nat → Int64), ¬ v + 7 ≤ L → v ≤ 3600 → ∃ h' : zHp, zev (L, xs) (185, 18, zLl v, [], (197, i, zRF b, l)) = some (.int 1, h') ∧ h'.1 = 197 := by
    intro v i b l hv h36
    refine ⟨(197, i, zRF b, l), ?_, rfl⟩
    have h18 : Int32.ofNat L - 7 < nI v := by
      refine Int32.lt_iff_toInt_lt.mpr ?_
      rw [show Int32.ofNat L - 7 = nI L - nI 7 from rfl, pk_sub_toInt (by omega) (by decide), nI_toInt (by omega)]
      omega
    rw [zLl, b185_18, if_pos h18, b185_994]
  intro n
  induction n with
  | zero =>
    intro v S i b l hn h36 h
    exact stop v i b l (by omega) h36
  | succ n ih =>
    intro v S i b l hn h36 h
    by_cases hv : v + 7 ≤ L
    · obtain ⟨S', i', b', l', h1, h2⟩ := law_step (xs := xs) hL hv b h
      rw [h2]
      exact ih (v + 7) S' i' b' l' (by omega) (by omega) h1
    · exact stop v i b l hv h36
