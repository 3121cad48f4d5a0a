section ZSZ
variable {p : Program} {l : Launch} {e : Env} {R : Room} {s : State} {m : MethodId} {args : Array Value} {below : List Frame} {meth : Method} {c : Code} {locs : List Loc} {cells slots : Nat} {Q : State → Prop}
/-- a write leaves the heap as large as it was -/
theorem zsz {g : zG} {h h' : zHp} {a : Nat} {H1 : Heap} {g2 : JFrame} (hcz : zs g + h.1 = s.heap.size + cells) (ha : a < h.1) (hn : h'.1 = h.1) (hP1 : va_P g.1 zCl (zW g h') H1) (k : H1.size = zs g + h'.1 → W p l e R s m args below meth c H1 locs cells slots Q g2) : W p l e R s m args below meth c H1 locs cells slots Q g2 := by
  intro T hT X
  refine k ?_ T hT X
  have h1 : T.heap.size ≤ s.heap.size + cells := X.same.2.2.1
  rw [hT] at h1
  have h2 := (hP1 (h.1 - 1) _ (zW_get (by omega))).lt
  dsimp only at h2
  omega
end ZSZ
set_option maxHeartbeats 8000000 in
/-- a run of the interpreter is a run of the machine -/
theorem zsnd (l0 : Launch) (sc : zScr) : ∀ (n : Nat) (s : zSt) (x : zRs), zrun sc n s = some x → zSnd l0 sc s x
  | 0, _, _, h => by cases h
  | n + 1, (k, pc, ls, st, h), x, hrun0 => by
    intro M g p e R sS m args below meth c H locs cells slots Q la hM hC hRep hS hL hcz hc1 hc2 hret
    dsimp only at hM hRep hL hcz hc1 hc2 hret ⊢
    have hrun : zstp (zrun sc n) (zact sc (k, pc, ls, st, h)) = some x := hrun0
    have hxn : h.1 ≤ x.2.1 := zrun_n sc (n + 1) _ x hrun0
    unfold zact at hrun
    dsimp only at hrun
    rw [hM] at hrun
    dsimp only at hrun
    obtain ⟨hx, hb, hml, hown, hts, hK, hN, hX, hsz, hnm, hfr, hlo⟩ := id hC
    have ih := zsnd l0 sc n
    have hbs : zb g < sS.heap.size := Nat.lt_of_lt_of_le hX.2 hsz
    have hbA : ¬ zA g (zb g) := Nat.not_le.mpr hX.2
    have nn : zstp (zrun sc n) none = some x → False := fun e => by cases e
    split at hrun
    · exact (nn hrun).elim
    rename_i y hd
    by_cases hlen : y.2 = zlen y.1 y.2
    case neg => rw [if_neg hlen] at hrun; exact (nn hrun).elim
    rw [if_pos hlen] at hrun
    obtain ⟨ins, len⟩ := y
    dsimp only at hlen hrun
    have goL : ∀ (pc' : Nat) (ls' : List (Option Value)) (st' : List Value) (la' : Array Slot), zstp (zrun sc n) (zgo k pc' ls' st' h) = some x → zLs g M.2.2.1 k ls' la' → W p l0 e R sS m args below meth c H locs cells slots Q (F0 m pc' la' (st'.map (zv g))) := fun pc' ls' st' la' e hL' => ih (k, pc', ls', st', h) x e M g H locs cells slots Q la' hM hC hRep hS hL' hcz hc1 hc2 hret
    have go : ∀ (pc' : Nat) (st' : List Value), zstp (zrun sc n) (zgo k pc' ls st' h) = some x → W p l0 e R sS m args below meth c H locs cells slots Q (F0 m pc' la (st'.map (zv g))) := fun pc' st' e => goL pc' ls st' la e hL
    have jp : ∀ (t : Option Nat) (st' : List Value), zstp (zrun sc n) (zjp k t ls st' h) = some x → (∀ t', t = some t' → W p l0 e R sS m args below meth c H locs cells slots Q (F0 m t' la (st'.map (zv g))) → W p l0 e R sS m args below meth c H locs cells slots Q (F0 m pc la (st.map (zv g)))) → W p l0 e R sS m args below meth c H locs cells slots Q (F0 m pc la (st.map (zv g))) := by
      intro t st' e kk
      cases t with
      | none => cases e
      | some t => exact kk t rfl (go t st' e)
    have goH : ∀ (pc' : Nat) (st' : List Value) (i' : Nat → Nat → Int32) (r' : Nat → Nat → Option Nat) (l' : Nat → Nat → Int64) (H' : Heap) (locs' : List Loc), zstp (zrun sc n) (zgo k pc' ls st' (h.1, i', r', l')) = some x → zRep g (h.1, i', r', l') H' → va_S (zA g) sS.heap H' locs' → W p l0 e R sS m args below meth c H' locs' cells slots Q (F0 m pc' la (st'.map (zv g))) := fun pc' st' i' r' l' H' locs' e hR' hS' => ih (k, pc', ls, st', (h.1, i', r', l')) x e M g H' locs' cells slots Q la hM hC hR' hS' hL hcz hc1 hc2 hret
    have goN : ∀ (pc' : Nat) (st' : List Value) (i' : Nat → Nat → Int32) (r' : Nat → Nat → Option Nat) (l' : Nat → Nat → Int64) (H' : Heap), zstp (zrun sc n) (zgo k pc' ls st' (h.1 + 1, i', r', l')) = some x → (h.1 + 1 ≤ x.2.1 → zSL (h.1 + 1) ≤ zSL x.2.1 → zRep g (h.1 + 1, i', r', l') H') → va_S (zA g) sS.heap H' locs → W p l0 e R sS m args below meth c H' locs (cells + 1) (slots + (zK h.1).2) Q (F0 m pc' la (st'.map (zv g))) := by
      intro pc' st' i' r' l' H' e hR' hS'
      have h1 : h.1 + 1 ≤ x.2.1 := zrun_n sc n _ x e
      have h2 : zSL (h.1 + 1) ≤ zSL x.2.1 := zSL_mono h1
      have h3 := zSL_succ h.1
      refine ih (k, pc', ls, st', (h.1 + 1, i', r', l')) x e M g H' locs _ _ Q la hM hC (hR' h1 h2) hS' hL (by dsimp only; omega) (by dsimp only; omega) (by dsimp only; omega) (fun pcR lsR H2 locs2 q1 q2 q3 => W.cs ?_ ?_ (hret pcR lsR H2 locs2 q1 q2 q3))
      · dsimp only; omega
      · dsimp only; omega
    cases ins with
    | iadd =>
      have hl : len = 1 := hlen
      subst hl
      simp only [zins] at hrun
      split at hrun
      · exact lv_iadd hx hb hd (go _ _ hrun)
      · exact (nn hrun).elim
    | isub =>
      have hl : len = 1 := hlen
      subst hl
      simp only [zins] at hrun
      split at hrun
      · exact lv_isub hx hb hd (go _ _ hrun)
      · exact (nn hrun).elim
    | imul =>
      have hl : len = 1 := hlen
      subst hl
      simp only [zins] at hrun
      split at hrun
      · exact lv_imul hx hb hd (go _ _ hrun)
      · exact (nn hrun).elim
    | ishl =>
      have hl : len = 1 := hlen
      subst hl
      simp only [zins] at hrun
      split at hrun
      · exact lv_ishl hx hb hd (go _ _ hrun)
      · exact (nn hrun).elim
    | ishr =>
      have hl : len = 1 := hlen
      subst hl
      simp only [zins] at hrun
      split at hrun
      · exact lv_ishr hx hb hd (go _ _ hrun)
      · exact (nn hrun).elim
    | iand =>
      have hl : len = 1 := hlen
      subst hl
      simp only [zins] at hrun
      split at hrun
      · exact lv_iand hx hb hd (go _ _ hrun)
      · exact (nn hrun).elim
    | ior =>
      have hl : len = 1 := hlen
      subst hl
      simp only [zins] at hrun
      split at hrun
      · exact lv_ior hx hb hd (go _ _ hrun)
      · exact (nn hrun).elim
    | ixor =>
      have hl : len = 1 := hlen
      subst hl
      simp only [zins] at hrun
      split at hrun
      · exact lv_ixor hx hb hd (go _ _ hrun)
      · exact (nn hrun).elim
    | ladd =>
      have hl : len = 1 := hlen
      subst hl
      simp only [zins] at hrun
      split at hrun
      · exact lv_ladd hx hb hd (go _ _ hrun)
      · exact (nn hrun).elim
    | lmul =>
      have hl : len = 1 := hlen
      subst hl
      simp only [zins] at hrun
      split at hrun
      · exact lv_lmul hx hb hd (go _ _ hrun)
      · exact (nn hrun).elim
    | lcmp =>
      have hl : len = 1 := hlen
      subst hl
      simp only [zins] at hrun
      split at hrun
      · exact W.lcmp hx hb hd (go _ _ hrun)
      · exact (nn hrun).elim
    | iushr =>
      have hl : len = 1 := hlen
      subst hl
      simp only [zins] at hrun
      split at hrun
      · exact lv_iushr hx hb hd rfl (go _ _ hrun)
      · exact (nn hrun).elim
    | i2b =>
      have hl : len = 1 := hlen
      subst hl
      simp only [zins] at hrun
      split at hrun
      · exact lv_i2b hx hb hd rfl (go _ _ hrun)
      · exact (nn hrun).elim
    | idiv =>
      have hl : len = 1 := hlen
      subst hl
      simp only [zins] at hrun
      split at hrun
      · split at hrun
        · exact (nn hrun).elim
        · rename_i hne
          exact lv_idiv hx hb hd hne (go _ _ hrun)
      · exact (nn hrun).elim
    | irem =>
      have hl : len = 1 := hlen
      subst hl
      simp only [zins] at hrun
      split at hrun
      · split at hrun
        · exact (nn hrun).elim
        · rename_i hne
          exact lv_irem hx hb hd hne (go _ _ hrun)
      · exact (nn hrun).elim
    | dup =>
      have hl : len = 1 := hlen
      subst hl
      simp only [zins] at hrun
      split at hrun
      · split at hrun
        · rename_i hc
          exact lv_dup hx hb hd ((zv_cat g _).trans hc) (go _ _ hrun)
        · exact (nn hrun).elim
      · exact (nn hrun).elim
    | dup2 =>
      have hl : len = 1 := hlen
      subst hl
      simp only [zins] at hrun
      split at hrun
      · split at hrun
        · rename_i hc
          exact lv_dup2_11 hx hb hd ((zv_cat g _).trans hc.1) ((zv_cat g _).trans hc.2) (go _ _ hrun)
        · exact (nn hrun).elim
      · exact (nn hrun).elim
    | iconst n =>
      have hl : len = 1 := hlen
      subst hl
      simp only [zins] at hrun
      exact lv_iconst hx hb hd rfl (go _ _ hrun)
    | bipush n =>
      have hl : len = 2 := hlen
      subst hl
      simp only [zins] at hrun
      exact lv_bipush hx hb hd rfl (go _ _ hrun)
    | sipush n =>
      have hl : len = 3 := hlen
      subst hl
      simp only [zins] at hrun
      exact lv_sipush hx hb hd rfl (go _ _ hrun)
    | lconst n =>
      have hl : len = 1 := hlen
      subst hl
      simp only [zins] at hrun
      exact lv_lconst hx hb hd rfl (go _ _ hrun)
    | ldc i =>
      have hl : len = 2 := hlen
      subst hl
      simp only [zins] at hrun
      split at hrun
      · rename_i v hv
        exact lv_ldc hx hb hown (hts _ (zI_spec hv)) hd (go _ _ hrun)
      · exact (nn hrun).elim
    | ldc_w i =>
      have hl : len = 3 := hlen
      subst hl
      simp only [zins] at hrun
      split at hrun
      · rename_i v hv
        exact lv_ldcw hx hb hown (hts _ (zI_spec hv)) hd (go _ _ hrun)
      · exact (nn hrun).elim
    | ldc2_w i =>
      have hl : len = 3 := hlen
      subst hl
      simp only [zins] at hrun
      split at hrun
      · rename_i v hv
        exact lv_ldc2 hx hb hown (hts _ (zL_spec hv)) hd (go _ _ hrun)
      · exact (nn hrun).elim
    | aload_n j =>
      have hl : len = 1 := hlen
      subst hl
      simp only [zins] at hrun
      split at hrun
      · rename_i a ha
        exact lv_aload_n hx hb hd rfl (hL.2.2.1 _ _ ha) (go _ _ hrun)
      · rename_i a ha
        exact lv_aload_n hx hb hd rfl (hL.2.2.1 _ _ ha) (go _ _ hrun)
      · exact (nn hrun).elim
    | iload_n j =>
      have hl : len = 1 := hlen
      subst hl
      simp only [zins] at hrun
      split at hrun
      · rename_i a ha
        exact lv_iload_n hx hb hd rfl (hL.2.2.1 _ _ ha) (go _ _ hrun)
      · exact (nn hrun).elim
    | lload_n j =>
      have hl : len = 1 := hlen
      subst hl
      simp only [zins] at hrun
      split at hrun
      · rename_i a ha
        exact lv_lload_n hx hb hd rfl (hL.2.2.1 _ _ ha) (go _ _ hrun)
      · exact (nn hrun).elim
    | aload j =>
      have hl : len = 2 := hlen
      subst hl
      simp only [zins] at hrun
      split at hrun
      · rename_i a ha
        exact lv_aload hx hb hd (hL.2.2.1 _ _ ha) (go _ _ hrun)
      · exact (nn hrun).elim
    | iload j =>
      have hl : len = 2 := hlen
      subst hl
      simp only [zins] at hrun
      split at hrun
      · rename_i a ha
        exact lv_iload hx hb hd (hL.2.2.1 _ _ ha) (go _ _ hrun)
      · exact (nn hrun).elim
    | lload j =>
      have hl : len = 2 := hlen
      subst hl
      simp only [zins] at hrun
      split at hrun
      · rename_i a ha
        exact lv_lload hx hb hd (hL.2.2.1 _ _ ha) (go _ _ hrun)
      · exact (nn hrun).elim
    | istore_n j =>
      have hl : len = 1 := hlen
      subst hl
      simp only [zins] at hrun
      split at hrun
      · split at hrun
        · rename_i ls' hs'
          exact lv_istore_n hx hb hd rfl (zLs_has hL) (Nat.lt_of_lt_of_le (zset_lt hs') hL.2.2.2.2) rfl (fun la' hla' => goL _ _ _ _ hrun (zLs_set hL hs' rfl hla'))
        · exact (nn hrun).elim
      · exact (nn hrun).elim
    | istore j =>
      have hl : len = 2 := hlen
      subst hl
      simp only [zins] at hrun
      split at hrun
      · split at hrun
        · rename_i ls' hs'
          exact lv_istore hx hb hd (zLs_has hL) (Nat.lt_of_lt_of_le (zset_lt hs') hL.2.2.2.2) rfl (fun la' hla' => goL _ _ _ _ hrun (zLs_set hL hs' rfl hla'))
        · exact (nn hrun).elim
      · exact (nn hrun).elim
    | astore_n j =>
      have hl : len = 1 := hlen
      subst hl
      simp only [zins] at hrun
      split at hrun
      · split at hrun
        · rename_i ls' hs'
          exact lv_astore_n hx hb hd rfl (zLs_has hL) (Nat.lt_of_lt_of_le (zset_lt hs') hL.2.2.2.2) rfl (fun la' hla' => goL _ _ _ _ hrun (zLs_set hL hs' rfl hla'))
        · exact (nn hrun).elim
      · exact (nn hrun).elim
    | astore j =>
      have hl : len = 2 := hlen
      subst hl
      simp only [zins] at hrun
      split at hrun
      · split at hrun
        · rename_i ls' hs'
          exact lv_astore hx hb hd (zLs_has hL) (Nat.lt_of_lt_of_le (zset_lt hs') hL.2.2.2.2) rfl (fun la' hla' => goL _ _ _ _ hrun (zLs_set hL hs' rfl hla'))
        · exact (nn hrun).elim
      · exact (nn hrun).elim
    | lstore_n j =>
      have hl : len = 1 := hlen
      subst hl
      simp only [zins] at hrun
      split at hrun
      · split at hrun
        · rename_i hj
          exact lv_lstore_n hx hb hd rfl (zLs_has hL) hj.2 rfl (fun la' hla' => goL _ _ _ _ hrun (zLs_set2 hL hj.1 hla'))
        · exact (nn hrun).elim
      · exact (nn hrun).elim
    | lstore j =>
      have hl : len = 2 := hlen
      subst hl
      simp only [zins] at hrun
      split at hrun
      · split at hrun
        · rename_i hj
          exact lv_lstore hx hb hd (zLs_has hL) hj.2 rfl (fun la' hla' => goL _ _ _ _ hrun (zLs_set2 hL hj.1 hla'))
        · exact (nn hrun).elim
      · exact (nn hrun).elim
    | iinc j n =>
      have hl : len = 3 := hlen
      subst hl
      simp only [zins] at hrun
      split at hrun
      · rename_i y hy
        split at hrun
        · rename_i ls' hs'
          obtain ⟨q, hq⟩ := List.getElem?_of_mem (zLs_mem (g := g) hy)
          exact lv_iinc hx hb hd (zLs_has hL) hq rfl (Nat.lt_of_lt_of_le (zset_lt hs') hL.2.2.2.2) rfl (fun la' hla' => goL _ _ _ _ hrun (zLs_set hL hs' rfl hla'))
        · exact (nn hrun).elim
      · exact (nn hrun).elim
    | goto off =>
      have hl : len = 3 := hlen
      subst hl
      simp only [zins] at hrun
      exact jp _ _ hrun (fun t ht k => lv_goto hx hb hd (zTg_spec ht) k)
    | ifCond cnd off =>
      have hl : len = 3 := hlen
      subst hl
      simp only [zins] at hrun
      split at hrun
      · split at hrun
        · rename_i t ht
          cases cnd
          · exact lv_if_eq hx hb hd (zTg_spec ht) (fun hq => go _ _ (by rw [if_pos (by simp [zcmp, hq])] at hrun; exact hrun)) (fun hq => go _ _ (by rw [if_neg (by simp [zcmp, hq])] at hrun; exact hrun))
          · exact lv_if_ne hx hb hd (zTg_spec ht) (fun hq => go _ _ (by rw [if_pos (by simp [zcmp, hq])] at hrun; exact hrun)) (fun hq => go _ _ (by rw [if_neg (by simp [zcmp, hq])] at hrun; exact hrun))
          · exact lv_if_lt hx hb hd (zTg_spec ht) (fun hq => go _ _ (by rw [if_pos (by simp [zcmp, hq])] at hrun; exact hrun)) (fun hq => go _ _ (by rw [if_neg (by simp [zcmp, hq])] at hrun; exact hrun))
          · exact lv_if_ge hx hb hd (zTg_spec ht) (fun hq => go _ _ (by rw [if_pos (by simp [zcmp, hq])] at hrun; exact hrun)) (fun hq => go _ _ (by rw [if_neg (by simp [zcmp, hq])] at hrun; exact hrun))
          · exact lv_if_gt hx hb hd (zTg_spec ht) (fun hq => go _ _ (by rw [if_pos (by simp [zcmp, hq])] at hrun; exact hrun)) (fun hq => go _ _ (by rw [if_neg (by simp [zcmp, hq])] at hrun; exact hrun))
          · exact lv_if_le hx hb hd (zTg_spec ht) (fun hq => go _ _ (by rw [if_pos (by simp [zcmp, hq])] at hrun; exact hrun)) (fun hq => go _ _ (by rw [if_neg (by simp [zcmp, hq])] at hrun; exact hrun))
        · exact (nn hrun).elim
      · exact (nn hrun).elim
    | if_icmp cnd off =>
      have hl : len = 3 := hlen
      subst hl
      simp only [zins] at hrun
      split at hrun
      · split at hrun
        · rename_i t ht
          cases cnd
          · exact lv_icmp_eq hx hb hd (zTg_spec ht) (fun hq => go _ _ (by rw [if_pos (by simp [zcmp, hq])] at hrun; exact hrun)) (fun hq => go _ _ (by rw [if_neg (by simp [zcmp, hq])] at hrun; exact hrun))
          · exact lv_icmp_ne hx hb hd (zTg_spec ht) (fun hq => go _ _ (by rw [if_pos (by simp [zcmp, hq])] at hrun; exact hrun)) (fun hq => go _ _ (by rw [if_neg (by simp [zcmp, hq])] at hrun; exact hrun))
          · exact lv_icmp_lt hx hb hd (zTg_spec ht) (fun hq => go _ _ (by rw [if_pos (by simp [zcmp, hq])] at hrun; exact hrun)) (fun hq => go _ _ (by rw [if_neg (by simp [zcmp, hq])] at hrun; exact hrun))
          · exact lv_icmp_ge hx hb hd (zTg_spec ht) (fun hq => go _ _ (by rw [if_pos (by simp [zcmp, hq])] at hrun; exact hrun)) (fun hq => go _ _ (by rw [if_neg (by simp [zcmp, hq])] at hrun; exact hrun))
          · exact lv_icmp_gt hx hb hd (zTg_spec ht) (fun hq => go _ _ (by rw [if_pos (by simp [zcmp, hq])] at hrun; exact hrun)) (fun hq => go _ _ (by rw [if_neg (by simp [zcmp, hq])] at hrun; exact hrun))
          · exact lv_icmp_le hx hb hd (zTg_spec ht) (fun hq => go _ _ (by rw [if_pos (by simp [zcmp, hq])] at hrun; exact hrun)) (fun hq => go _ _ (by rw [if_neg (by simp [zcmp, hq])] at hrun; exact hrun))
        · exact (nn hrun).elim
      · exact (nn hrun).elim
    | tableswitch d lo hi offs =>
      simp only [zins] at hrun
      split at hrun
      · refine jp _ _ hrun (fun t ht k => ?_)
        unfold zsw at ht
        split at ht
        · rename_i hq
          exact lv_tableOut hx hb hd hq (zTg_spec ht) k
        · rename_i hq
          split at ht
          · rename_i off ho
            exact lv_tableIn hx hb hd (fun z => hq (Or.inl z)) (fun z => hq (Or.inr z)) ho (zTg_spec ht) k
          · cases ht
      · exact (nn hrun).elim
    | lookupswitch d ps =>
      simp only [zins] at hrun
      split at hrun
      · split at hrun
        · rename_i hp
          exact jp _ _ hrun (fun t ht k => lv_lookup hx hb hd hp rfl (zTg_spec ht) k)
        · exact (nn hrun).elim
      · exact (nn hrun).elim
    | getfield i =>
      have hl : len = 3 := hlen
      subst hl
      simp only [zins] at hrun
      split at hrun
      · rename_i ci j a st' hF
        split at hrun
        · rename_i hok
          obtain ⟨ha, hka⟩ := zok_iff.mp hok
          obtain ⟨C, T, N, hcl, hj, hlk, hT⟩ := zF_spec hF
          obtain ⟨h11, hck⟩ := zCK_of hcl
          have hN' := zK_obj hka hcl
          have he : (zW g h)[a]? = some (zs g + a, .inr (ci, (List.range (zK a).2).map (zfv g h ci a))) := by rw [zW_get ha, zE_obj hka h11]
          have hv : ((List.range (zK a).2).map (zfv g h ci a))[j]? = some (zfv g h ci a j) := by
            have : j < (zK a).2 := by rw [← hN']; exact hj
            simp [this]
          refine va_get (D := g.1) (ci := ci) (C := C) (T := T) (N := N) hx hb hts hck.1 hown hK hRep.2 a he hcl j hj (hts _ hlk) (fun z h9 => by rw [hT] at h9; exact h9) hv hd ?_
          split at hrun
          · rename_i h0
            rw [show zfv g h ci a j = .int (h.2.1 a j) by unfold zfv; rw [h0]; rfl]
            exact go _ _ hrun
          · rename_i h0
            rw [show zfv g h ci a j = .int (h.2.1 a j) by unfold zfv; rw [h0]; rfl]
            exact go _ _ hrun
          · rename_i h0
            rw [show zfv g h ci a j = .long (h.2.2.2 a j) by unfold zfv; rw [h0]; rfl]
            exact go _ _ hrun
          · rename_i h0
            rw [show zfv g h ci a j = zv g (va_rf (h.2.2.1 a j)) by unfold zfv; rw [h0, zv_rf]; rfl]
            exact go _ _ hrun
          · exact (nn hrun).elim
        · exact (nn hrun).elim
      · exact (nn hrun).elim
    | putfield i =>
      have hl : len = 3 := hlen
      subst hl
      simp only [zins] at hrun
      split at hrun
      · rename_i ci j v a st' hF
        split at hrun
        · rename_i hok
          obtain ⟨hok, hfin⟩ := hok
          obtain ⟨ha, hka⟩ := zok_iff.mp hok
          obtain ⟨C, T, N, hcl, hj, hlk, hT⟩ := zF_spec hF
          obtain ⟨h11, hck⟩ := zCK_of hcl
          have hN' := zK_obj hka hcl
          have hjl : j < (zK a).2 := by rw [← hN']; exact hj
          have he : (zW g h)[a]? = some (zs g + a, .inr (ci, (List.range (zK a).2).map (zfv g h ci a))) := by rw [zW_get ha, zE_obj hka h11]
          have put : ∀ (i' : Nat → Nat → Int32) (r' : Nat → Nat → Option Nat) (l' : Nat → Nat → Int64), narrow (zTy ci j) (zv g v) = zv g v → fits (zTy ci j) (zv g v) = true → zfv g (h.1, i', r', l') ci a j = zv g v → (∀ t, t ≠ j → zfv g (h.1, i', r', l') ci a t = zfv g h ci a t) → (∀ q, q ≠ a → i' q = h.2.1 q ∧ r' q = h.2.2.1 q ∧ l' q = h.2.2.2 q) → zstp (zrun sc n) (zgo k (pc + 3) ls st' (h.1, i', r', l')) = some x → W p l0 e R sS m args below meth c H locs cells slots Q (F0 m pc la ((v :: Value.ref a :: st').map (zv g))) := by
            intro i' r' l' hnw hft h1 h2 h3 hrun'
            have hset : (zW g h).set a (zs g + a, .inr (ci, ((List.range (zK a).2).map (zfv g h ci a)).set j (zv g v))) = zW g (h.1, i', r', l') := by
              rw [zset_obj h1 h2]
              have hE : zE g (h.1, i', r', l') a = .inr (ci, (List.range (zK a).2).map (zfv g (h.1, i', r', l') ci a)) := zE_obj hka h11
              rw [← hE]
              exact zW_set ha rfl (fun q hq => zE_congr (h3 q hq).1 (h3 q hq).2.1 (h3 q hq).2.2)
            rw [hcl] at hfin
            simp only [Option.map_some, Option.some.injEq] at hfin
            rcases hfin with hf | ⟨hf, hnm0, hdecl⟩
            · refine va_put (D := g.1) (ci := ci) (C := C) (T := T) (N := N) hx hb hts hck.1 (zTy ci) hck.2.1 hck.2.2.1 hown hK hRep.2 (zD g h) hS a he hcl j hj (hts _ hlk) (fun z h9 => by rw [hT] at h9; exact h9) hf (hck.2.1 j hj) hnw hft (by simpa using hjl) hd (fun H1 locs1 hP1 _ hS1 => ?_)
              rw [hset] at hP1
              exact zsz (h' := (h.1, i', r', l')) hcz ha rfl hP1 (fun hz1 => goH _ _ _ _ _ _ _ hrun' ⟨hz1, hP1⟩ hS1)
            · refine va_putF (D := g.1) (ci := ci) (C := C) (T := T) (N := N) hx hb hts hck.1 (zTy ci) hck.2.1 hck.2.2.1 hown hK hRep.2 (zD g h) hS a he hcl j hj (hts _ hlk) (fun z h9 => by rw [hT] at h9; exact h9) hf (hnm hnm0) hdecl (hck.2.1 j hj) hnw hft (by simpa using hjl) hd (fun H1 locs1 hP1 _ hS1 => ?_)
              rw [hset] at hP1
              exact zsz (h' := (h.1, i', r', l')) hcz ha rfl hP1 (fun hz1 => goH _ _ _ _ _ _ _ hrun' ⟨hz1, hP1⟩ hS1)
          have same : ∀ t, t ≠ j → ∀ (f : Nat → Nat → Int32) (y : Int32), zU f a j y a t = f a t := fun t ht f y => by simp [zU, ht]
          split at hrun
          · rename_i y h0
            refine put _ _ _ ?_ ?_ ?_ ?_ ?_ hrun
            · rw [zcl_0 h0]; rfl
            · rw [zcl_0 h0]; rfl
            · unfold zfv; rw [h0]; simp [zU, zv]
            · intro t ht; unfold zfv; simp [zU, ht]
            · intro q hq; exact ⟨zU_ne hq, rfl, rfl⟩
          · rename_i y h0
            split at hrun
            · rename_i hy
              refine put _ _ _ ?_ ?_ ?_ ?_ ?_ hrun
              · rw [zcl_3 h0]; rcases hy with rfl | rfl <;> rfl
              · rw [zcl_3 h0]; rcases hy with rfl | rfl <;> rfl
              · unfold zfv; rw [h0]; simp [zU, zv]
              · intro t ht; unfold zfv; simp [zU, ht]
              · intro q hq; exact ⟨zU_ne hq, rfl, rfl⟩
            · exact (nn hrun).elim
          · rename_i y h0
            refine put _ _ _ ?_ ?_ ?_ ?_ ?_ hrun
            · rw [zcl_1 h0]; rfl
            · rw [zcl_1 h0]; rfl
            · unfold zfv; rw [h0]; simp [zU, zv]
            · intro t ht; unfold zfv; simp [zU, ht]
            · intro q hq; exact ⟨rfl, rfl, zU_ne hq⟩
          · rename_i y h0
            refine put _ _ _ ?_ ?_ ?_ ?_ ?_ hrun
            · exact (zcl_2 h0 _).1
            · exact (zcl_2 h0 _).2
            · unfold zfv; rw [h0]; simp [zU, zv, va_rf]
            · intro t ht; unfold zfv; simp [zU, ht]
            · intro q hq; exact ⟨rfl, zU_ne hq, rfl⟩
          · exact (nn hrun).elim
        · exact (nn hrun).elim
      · exact (nn hrun).elim
    | ireturn =>
      have hl : len = 1 := hlen
      subst hl
      simp only [zins] at hrun
      split at hrun
      · split at hrun
        · rename_i hty
          simp only [zstp, Option.some.injEq] at hrun
          subst hrun
          exact W.cs (by simp) (by simp) (hret pc la H locs (Or.inl ⟨_, rfl, hd, hty⟩) hRep hS)
        · exact (nn hrun).elim
      · exact (nn hrun).elim
    | lreturn =>
      have hl : len = 1 := hlen
      subst hl
      simp only [zins] at hrun
      split at hrun
      · split at hrun
        · rename_i hty
          simp only [zstp, Option.some.injEq] at hrun
          subst hrun
          exact W.cs (by simp) (by simp) (hret pc la H locs (Or.inr (Or.inl ⟨_, rfl, hd, hty⟩)) hRep hS)
        · exact (nn hrun).elim
      · exact (nn hrun).elim
    | return_ =>
      have hl : len = 1 := hlen
      subst hl
      simp only [zins] at hrun
      split at hrun
      · split at hrun
        · rename_i hty
          simp only [zstp, Option.some.injEq] at hrun
          subst hrun
          exact W.cs (by simp) (by simp) (hret pc la H locs (Or.inr (Or.inr ⟨rfl, hd, hty⟩)) hRep hS)
        · exact (nn hrun).elim
      · exact (nn hrun).elim
    | arraylength =>
      have hl : len = 1 := hlen
      subst hl
      simp only [zins] at hrun
      split at hrun
      · exact va_slen hx hb hX.1 hbs hbA hS hd (go _ _ hrun)
      · exact (nn hrun).elim
    | iaload =>
      have hl : len = 1 := hlen
      subst hl
      simp only [zins] at hrun
      split at hrun
      · split at hrun
        · rename_i hq
          obtain ⟨ha, hka⟩ := zok_iff.mp hq.1
          exact va_iald (D := g.1) (tys := ztys g) hx hb hK hRep.2 _ 0 (by rw [zW_get ha, zE_100 hka]) rfl hq.2 hd (go _ _ hrun)
        · exact (nn hrun).elim
      · split at hrun
        · rename_i hq
          exact va_sld hx hb hX.1 hbs hbA hS hq hd (go _ _ hrun)
        · exact (nn hrun).elim
      · exact (nn hrun).elim
    | baload =>
      have hl : len = 1 := hlen
      subst hl
      simp only [zins] at hrun
      split at hrun
      · split at hrun
        · rename_i hq
          rcases hq.1 with hq1 | hq1
          · obtain ⟨ha, hka⟩ := zok_iff.mp hq1
            exact va_bald (D := g.1) (tys := ztys g) hx hb hK hRep.2 _ 1 (by rw [zW_get ha, zE_101 hka]) rfl hq.2 hd (go _ _ hrun)
          · obtain ⟨ha, hka⟩ := zok_iff.mp hq1
            exact va_zald (D := g.1) (tys := ztys g) hx hb hK hRep.2 _ 2 (by rw [zW_get ha, zE_102 hka]) rfl hq.2 hd (go _ _ hrun)
        · exact (nn hrun).elim
      · exact (nn hrun).elim
    | aaload =>
      have hl : len = 1 := hlen
      subst hl
      simp only [zins] at hrun
      split at hrun
      · split at hrun
        · rename_i j a st' hq
          rcases hq.1 with hq1 | hq1
          · obtain ⟨ha, hka⟩ := zok_iff.mp hq1
            refine va_aldq (D := g.1) (tys := ztys g) hx hb hK hRep.2 a 3 (by rw [zW_get ha, zE_103 hka]) rfl hq.2 hd ?_
            rw [show va_rf (zqs g h a j.toNatClampNeg) = zv g (va_rf (h.2.2.1 a j.toNatClampNeg)) from (zv_rf g _).symm]
            exact go _ _ hrun
          · obtain ⟨ha, hka⟩ := zok_iff.mp hq1
            refine va_aldq (D := g.1) (tys := ztys g) hx hb hK hRep.2 a 4 (by rw [zW_get ha, zE_104 hka]) rfl hq.2 hd ?_
            rw [show va_rf (zqs g h a j.toNatClampNeg) = zv g (va_rf (h.2.2.1 a j.toNatClampNeg)) from (zv_rf g _).symm]
            exact go _ _ hrun
        · exact (nn hrun).elim
      · exact (nn hrun).elim
    | iastore =>
      have hl : len = 1 := hlen
      subst hl
      simp only [zins] at hrun
      split at hrun
      · split at hrun
        · rename_i y j a st' hq
          obtain ⟨ha, hka⟩ := zok_iff.mp hq.1
          refine va_iast (D := g.1) (tys := ztys g) hx hb hK hRep.2 (zD g h) hS a 0 (by rw [zW_get ha, zE_100 hka]) rfl hq.2 hd (fun H1 locs1 hP1 _ hS1 => ?_)
          have hE : zE g (h.1, zU h.2.1 a j.toNatClampNeg y, h.2.2.1, h.2.2.2) a = .inl (g.2.1, (zK a).2, .inl (upd (h.2.1 a) j.toNatClampNeg y)) := by rw [zE_100 hka, ← zU_upd]
          rw [← hE, zW_set (h := h) (h' := (h.1, zU h.2.1 a j.toNatClampNeg y, h.2.2.1, h.2.2.2)) ha rfl (fun q hq' => zE_congr (zU_ne hq') rfl rfl)] at hP1
          exact zsz (h' := (h.1, zU h.2.1 a j.toNatClampNeg y, h.2.2.1, h.2.2.2)) hcz ha rfl hP1 (fun hz1 => goH _ _ _ _ _ _ _ hrun ⟨hz1, hP1⟩ hS1)
        · exact (nn hrun).elim
      · exact (nn hrun).elim
    | bastore =>
      have hl : len = 1 := hlen
      subst hl
      simp only [zins] at hrun
      split at hrun
      · split at hrun
        · rename_i y j a st' hq
          split at hrun
          · rename_i hq1
            obtain ⟨ha, hka⟩ := zok_iff.mp hq1
            refine va_bast (D := g.1) (tys := ztys g) hx hb hK hRep.2 (zD g h) hS a 1 (by rw [zW_get ha, zE_101 hka]) rfl hq hd (fun H1 locs1 hP1 _ hS1 => ?_)
            have hE : zE g (h.1, zU h.2.1 a j.toNatClampNeg (vp_nar .byte y), h.2.2.1, h.2.2.2) a = .inl (g.2.2.1, (zK a).2, .inl (upd (h.2.1 a) j.toNatClampNeg (vp_nar .byte y))) := by rw [zE_101 hka, ← zU_upd]
            rw [← hE, zW_set (h := h) (h' := (h.1, zU h.2.1 a j.toNatClampNeg (vp_nar .byte y), h.2.2.1, h.2.2.2)) ha rfl (fun q hq' => zE_congr (zU_ne hq') rfl rfl)] at hP1
            exact zsz (h' := (h.1, zU h.2.1 a j.toNatClampNeg (vp_nar .byte y), h.2.2.1, h.2.2.2)) hcz ha rfl hP1 (fun hz1 => goH _ _ _ _ _ _ _ hrun ⟨hz1, hP1⟩ hS1)
          · split at hrun
            · rename_i hq1
              obtain ⟨ha, hka⟩ := zok_iff.mp hq1
              refine va_zast (D := g.1) (tys := ztys g) hx hb hK hRep.2 (zD g h) hS a 2 (by rw [zW_get ha, zE_102 hka]) rfl hq hd (fun H1 locs1 hP1 _ hS1 => ?_)
              have hE : zE g (h.1, zU h.2.1 a j.toNatClampNeg (vp_nar .boolean y), h.2.2.1, h.2.2.2) a = .inl (g.2.2.2.1, (zK a).2, .inl (upd (h.2.1 a) j.toNatClampNeg (vp_nar .boolean y))) := by rw [zE_102 hka, ← zU_upd]
              rw [← hE, zW_set (h := h) (h' := (h.1, zU h.2.1 a j.toNatClampNeg (vp_nar .boolean y), h.2.2.1, h.2.2.2)) ha rfl (fun q hq' => zE_congr (zU_ne hq') rfl rfl)] at hP1
              exact zsz (h' := (h.1, zU h.2.1 a j.toNatClampNeg (vp_nar .boolean y), h.2.2.1, h.2.2.2)) hcz ha rfl hP1 (fun hz1 => goH _ _ _ _ _ _ _ hrun ⟨hz1, hP1⟩ hS1)
            · exact (nn hrun).elim
        · exact (nn hrun).elim
      · exact (nn hrun).elim
    | aastore =>
      have hl : len = 1 := hlen
      subst hl
      simp only [zins] at hrun
      split at hrun
      · split at hrun
        · rename_i y j a st' hq
          have hqs : zqs g (h.1, h.2.1, zU h.2.2.1 a j.toNatClampNeg (some y), h.2.2.2) a = va_up (zqs g h a) j.toNatClampNeg (some (zs g + y)) := by
            funext t
            by_cases ht : t = j.toNatClampNeg <;> simp [zqs, zU, va_up, ht]
          rcases hq.1 with ⟨hq1, hq2⟩ | ⟨hq1, hq2⟩
          · obtain ⟨ha, hka⟩ := zok_iff.mp hq1
            obtain ⟨hy, hky⟩ := zok_iff.mp hq2
            refine va_astq (D := g.1) (tys := ztys g) hx hb hK hRep.2 (zD g h) hS a 3 y 7 (r := (RX7, TX7, 7)) (by rw [zW_get ha, zE_103 hka]) rfl (by rw [zW_get hy, zE_obj hky (by decide)]) rfl hq.2 hd (fun H1 locs1 hP1 _ hS1 => ?_)
            have hE : zE g (h.1, h.2.1, zU h.2.2.1 a j.toNatClampNeg (some y), h.2.2.2) a = .inl (g.2.2.2.2.1, (zK a).2, .inr (.inr (.inr (.inr (va_up (zqs g h a) j.toNatClampNeg (some (zs g + y))))))) := by rw [zE_103 hka, hqs]
            rw [← hE, zW_set (h := h) (h' := (h.1, h.2.1, zU h.2.2.1 a j.toNatClampNeg (some y), h.2.2.2)) ha rfl (fun q hq' => zE_congr rfl (zU_ne hq') rfl)] at hP1
            exact zsz (h' := (h.1, h.2.1, zU h.2.2.1 a j.toNatClampNeg (some y), h.2.2.2)) hcz ha rfl hP1 (fun hz1 => goH _ _ _ _ _ _ _ hrun ⟨hz1, hP1⟩ hS1)
          · obtain ⟨ha, hka⟩ := zok_iff.mp hq1
            obtain ⟨hy, hky⟩ := zok_iff.mp hq2
            refine va_astq (D := g.1) (tys := ztys g) hx hb hK hRep.2 (zD g h) hS a 4 y 3 (r := (RX3, TX3, 3)) (by rw [zW_get ha, zE_104 hka]) rfl (by rw [zW_get hy, zE_obj hky (by decide)]) rfl hq.2 hd (fun H1 locs1 hP1 _ hS1 => ?_)
            have hE : zE g (h.1, h.2.1, zU h.2.2.1 a j.toNatClampNeg (some y), h.2.2.2) a = .inl (g.2.2.2.2.2.1, (zK a).2, .inr (.inr (.inr (.inr (va_up (zqs g h a) j.toNatClampNeg (some (zs g + y))))))) := by rw [zE_104 hka, hqs]
            rw [← hE, zW_set (h := h) (h' := (h.1, h.2.1, zU h.2.2.1 a j.toNatClampNeg (some y), h.2.2.2)) ha rfl (fun q hq' => zE_congr rfl (zU_ne hq') rfl)] at hP1
            exact zsz (h' := (h.1, h.2.1, zU h.2.2.1 a j.toNatClampNeg (some y), h.2.2.2)) hcz ha rfl hP1 (fun hz1 => goH _ _ _ _ _ _ _ hrun ⟨hz1, hP1⟩ hS1)
        · exact (nn hrun).elim
      · exact (nn hrun).elim
    | new i =>
      have hl : len = 3 := hlen
      subst hl
      simp only [zins] at hrun
      split at hrun
      · rename_i ci hC'
        split at hrun
        · rename_i hq
          obtain ⟨r, hr, hlk⟩ := zC_spec hC'
          obtain ⟨h11, hck⟩ := zCK_of hr
          have hN' := zK_obj hq.2 hr
          have hn1 : h.1 + 1 ≤ x.2.1 := zrun_n sc n _ x hrun
          have hn2 := zSL_mono hn1
          have hn3 := zSL_succ h.1
          refine W.newcK hx hb hown (hts _ hlk) (hts _ hck.2.2.2.1) (hts _ hck.2.2.2.2) rfl hd (by omega) (by rw [hN']; omega) (hK.1 ci _ hr).2.1 rfl (fun H1 kC hkC e1 z1 o1 => ?_)
          have key : W p l0 e R sS m args below meth c H1 locs (cells + 1) (slots + (zK h.1).2) Q (F0 m (pc + 3) la ((Value.ref h.1 :: st).map (zv g))) := by
            refine goN _ _ _ _ _ _ hrun (fun _ _ => zRep_push (h := h) hRep rfl (fun q hq' => zE_congr (zCr_ne (by omega)) (zCr_ne (by omega)) (zCr_ne (by omega))) z1 o1 ?_) (zS_push hS z1 o1)
            have hE : zE g (h.1 + 1, zCr h.2.1 h.1 0, zCr h.2.2.1 h.1 none, zCr h.2.2.2 h.1 0) h.1 = .inr (ci, (List.range (zK h.1).2).map (zfv g (h.1 + 1, zCr h.2.1 h.1 0, zCr h.2.2.1 h.1 none, zCr h.2.2.2 h.1 0) ci h.1)) := zE_obj hq.2 h11
            rw [hE]
            refine ⟨_, hr, (u_born (zTy ci) hts hck.1 (hK.1 ci _ hr) hkC e1 hck.2.1).to (fun j hj => ?_)⟩
            rw [hN'] at hj
            rw [show vp_V ((List.range (zK h.1).2).map (zfv g (h.1 + 1, zCr h.2.1 h.1 0, zCr h.2.2.1 h.1 none, zCr h.2.2.2 h.1 0) ci h.1)) j = zfv g (h.1 + 1, zCr h.2.1 h.1 0, zCr h.2.2.1 h.1 none, zCr h.2.2.2 h.1 0) ci h.1 j by simp [vp_V, List.getD_eq_getElem?_getD, hj]]
            exact zdef rfl (zTy_ok ci h11 j) (by simp [zCr]) (by simp [zCr]) (by simp [zCr])
          rw [hN']
          have hsz' : H.size = zs g + h.1 := hRep.1
          rw [hsz']
          exact key
        · exact (nn hrun).elim
      · exact (nn hrun).elim
    | newarray t =>
      have hl : len = 2 := hlen
      subst hl
      simp only [zins] at hrun
      split at hrun
      · split at hrun
        · rename_i y st' hq
          obtain ⟨hy0, hy1, hy2, hq⟩ := hq
          have hn1 : h.1 + 1 ≤ x.2.1 := zrun_n sc n _ x hrun
          have hn2 := zSL_mono hn1
          have hn3 := zSL_succ h.1
          have arr : ∀ (ty : FieldType) (cA : ClassId) (t0 : Nat), newarray.typeOf t = ty → (ztys g)[t0]? = some (cA, ty) → (∀ U : State, ∀ c1, va_RA U c1 ty → U.vm.findClass ("[" ++ ty.toString) = some c1) → Cond.arrayClass ty ∈ zTB → componentBytes ty ≤ 8 → (fun _ : Nat => defaultValue ty) = (fun _ => .int 0) → zE g (h.1 + 1, zCr h.2.1 h.1 0, zCr h.2.2.1 h.1 none, zCr h.2.2.2 h.1 0) h.1 = .inl (cA, (zK h.1).2, .inl (fun _ => 0)) → W p l0 e R sS m args below meth c H locs cells slots Q (F0 m pc la ((Value.int y :: st').map (zv g))) := by
            intro ty cA t0 hty ht hRA hw hcb hdv hE
            subst hty
            refine va_newaK hx hb (hts _ hw) rfl hd rfl hy0 hy1 (by have := Nat.mul_le_mul hy2 hcb; omega) (by omega) (by omega) rfl (fun H1 cA' e1 z1 o1 hAr hNm => ?_)
            have hcA : cA' = cA := Option.some.inj (hNm.symm.trans (hRA sS _ (hK.2 t0 _ ht).2))
            subst hcA
            have key : W p l0 e R sS m args below meth c H1 locs (cells + 1) (slots + (zK h.1).2) Q (F0 m (pc + 2) la ((Value.ref h.1 :: st').map (zv g))) := by
              refine goN _ _ _ _ _ _ hrun (fun _ _ => zRep_push (h := h) hRep rfl (fun q hq' => zE_congr (zCr_ne (by omega)) (zCr_ne (by omega)) (zCr_ne (by omega))) z1 o1 ?_) (zS_push hS z1 o1)
              rw [hE]
              show H1[H.size]? = some (vp_cell _ _)
              rw [vp_cell_i]
              rw [hdv] at e1
              exact e1
            have hsz' : H.size = zs g + h.1 := hRep.1
            rw [hsz']
            exact key
          rcases hq with ⟨rfl, hk⟩ | ⟨rfl, hk⟩ | ⟨rfl, hk⟩
          · exact arr .int _ 0 rfl rfl (fun U c1 q => q) zaci (by decide) rfl (by rw [zE_100 hk]; simp only [zCr_eq])
          · exact arr .byte _ 1 rfl rfl (fun U c1 q => q) zacb (by decide) rfl (by rw [zE_101 hk]; simp only [zCr_eq])
          · exact arr .boolean _ 2 rfl rfl (fun U c1 q => q) zacz (by decide) rfl (by rw [zE_102 hk]; simp only [zCr_eq])
        · exact (nn hrun).elim
      · exact (nn hrun).elim
    | anewarray i =>
      have hl : len = 3 := hlen
      subst hl
      simp only [zins] at hrun
      split at hrun
      · rename_i ci y st' hC'
        split at hrun
        · rename_i hq
          obtain ⟨hy0, hy1, hy2, hq⟩ := hq
          obtain ⟨r, hr, hlk⟩ := zC_spec hC'
          have hn1 : h.1 + 1 ≤ x.2.1 := zrun_n sc n _ x hrun
          have hn2 := zSL_mono hn1
          have hn3 := zSL_succ h.1
          have arr : ∀ (C : String) (cA : ClassId) (t0 : Nat), r.1 = C → (ztys g)[t0]? = some (cA, .object C) → va_AO C sS → zE g (h.1 + 1, zCr h.2.1 h.1 0, zCr h.2.2.1 h.1 none, zCr h.2.2.2 h.1 0) h.1 = .inl (cA, (zK h.1).2, .inr (.inr (.inr (.inr (fun _ => none))))) → W p l0 e R sS m args below meth c H locs cells slots Q (F0 m pc la ((Value.int y :: st').map (zv g))) := by
            intro C cA t0 hC1 ht hAO hE
            subst hC1
            refine W.anew hx hb hown (hts _ hlk) (va_AO.use hAO) rfl hd rfl hy0 (by rw [hy1]; omega) (by omega) (by rw [hy1]; omega) (fun cA' kA comp f1 f2 f3 f4 => ?_)
            obtain ⟨kA2, comp2, g1, g2, g3, g4⟩ := (hK.2 t0 _ ht).2
            have hcA : cA' = cA := Option.some.inj (f1.symm.trans g4)
            subst hcA
            rw [hy1]
            have z1 : (H.push ({ cls := cA', slots := Array.replicate (zK h.1).2 .null, vm := .none } : Cell)).size = H.size + 1 := Array.size_push _
            have o1 : ∀ q : Nat, q < H.size → (H.push ({ cls := cA', slots := Array.replicate (zK h.1).2 .null, vm := .none } : Cell))[q]? = H[q]? := fun q hq => by rw [Array.getElem?_push, if_neg (Nat.ne_of_lt hq)]
            have e1 : (H.push ({ cls := cA', slots := Array.replicate (zK h.1).2 .null, vm := .none } : Cell))[H.size]? = some (arrV cA' (zK h.1).2 (fun _ => .null)) := by rw [Array.getElem?_push_size, ← arrV_new]
            generalize H.push ({ cls := cA', slots := Array.replicate (zK h.1).2 .null, vm := .none } : Cell) = H1 at z1 o1 e1 ⊢
            have key : W p l0 e R sS m args below meth c H1 locs (cells + 1) (slots + (zK h.1).2) Q (F0 m (pc + 3) la ((Value.ref h.1 :: st').map (zv g))) := by
              refine goN _ _ _ _ _ _ hrun (fun _ _ => zRep_push (h := h) hRep rfl (fun q hq' => zE_congr (zCr_ne (by omega)) (zCr_ne (by omega)) (zCr_ne (by omega))) z1 o1 ?_) (zS_push hS z1 o1)
              rw [hE]
              show H1[H.size]? = some (vp_cell _ _)
              rw [vp_cell_q]
              exact e1
            have hsz' : H.size = zs g + h.1 := hRep.1
            rw [hsz']
            exact key
          have hqs : zqs g (h.1 + 1, zCr h.2.1 h.1 0, zCr h.2.2.1 h.1 none, zCr h.2.2.2 h.1 0) h.1 = fun _ => none := by funext t; simp [zqs, zCr]
          rcases hq with ⟨rfl, hk⟩ | ⟨rfl, hk⟩
          · exact arr "HarpFences$Stand" _ 3 (by cases hr; rfl) rfl hN.2.1 (by rw [zE_103 hk, hqs])
          · exact arr "HarpFences$Image" _ 4 (by cases hr; rfl) rfl hN.2.2 (by rw [zE_104 hk, hqs])
        · exact (nn hrun).elim
      · exact (nn hrun).elim
    | invokevirtual i =>
      have hl : len = 3 := hlen
      subst hl
      simp only [zins] at hrun
      split at hrun
      · rename_i k' na hmr
        obtain ⟨N, hNS, hlk, hinst, hsel, h11⟩ := zM0 hmr
        split at hrun
        · rename_i a rest hdr
          split at hrun
          case isFalse => exact (nn hrun).elim
          rename_i hq
          obtain ⟨hq, hlen0⟩ := hq
          have hlen' : ((st.take na).reverse.map (zv g)).length = na := by rw [List.length_map, List.length_reverse]; exact hlen0
          rw [hNS.1] at hq
          simp only [Option.map_some, Option.some.injEq] at hq
          obtain ⟨ha, hka⟩ := zok_iff.mp hq
          have hrecv : ∃ cellB : Cell, H[zs g + a]? = some cellB ∧ cellB.vm.isStatics = false ∧ sS.vm.findClass N.1.cls = some cellB.cls := by
            obtain ⟨r, hr, hrn⟩ := zCl_nm h11
            have := va_recv hK hRep.2 (q0 := a) hr (by rw [zW_get ha, zE_obj hka h11])
            rw [hrn, ← hNS.2.2.2.2.2.2.2] at this
            exact this
          obtain ⟨hzM, hk185, hcd, hini, hpl, hne, hpar, hcls⟩ := hNS
          unfold zcall at hrun
          rw [hzM] at hrun
          dsimp only at hrun
          split at hrun
          case isFalse => exact (nn hrun).elim
          rename_i hq
          obtain ⟨hq1, hq2, hq3, hq4, hq5⟩ := hq
          simp only [zstp] at hrun
          obtain ⟨y1, h1, h2⟩ := Option.bind_eq_some_iff.mp hrun
          have hmet := zmet (l0 := l0) g hk185 hzM hpl hcls hq5 hq4 (ih _ _ h1)
          have hn1 : h.1 ≤ y1.2.1 := zrun_n sc n _ _ h1
          have hn2 : y1.2.1 ≤ x.2.1 := zrun_n sc n _ _ h2
          have hs1 := zSL_mono hn1
          have hs2 := zSL_mono hn2
          have hrk := zrun_k sc n _ _ N h1 hzM
          have hfb : FrameBlind (zPc g sc (Value.ref a :: (st.take na).reverse) h) := fun a U gg mk q => ⟨q.1, q.2.1, va_K.moved (u := U) (U := U.calling gg mk a) (Vm.Alike.refl U.vm) q.2.2.1, zNw_vm (s := U) (U := U.calling gg mk a) rfl q.2.2.2.1, va_X.moved (u := U) (U := U.calling gg mk a) (Vm.Alike.refl U.vm) q.2.2.2.2.1, q.2.2.2.2.2⟩
          have hpre : ∀ U : State, U.heap = H → sS.WarmedH U.vm → zPc g sc (Value.ref a :: (st.take na).reverse) h ((Value.ref a :: (st.take na).reverse).map (zv g)).toArray U := fun U hU hW => ⟨rfl, by rw [hU]; exact hRep, va_K.moved hW.alike hK, zNw_warm hW hN, by rw [hU]; exact (va_X.moved hW.alike hX.1).kept (hS.2.1 _ hbs hbA), hX.2⟩
          have hroom : (zrm N (y1.2.1 - h.1) (zSL y1.2.1 - zSL h.1)).frames + 1 ≤ R.frames ∧ 8 + (N.2.2.1 + 11) + (zrm N (y1.2.1 - h.1) (zSL y1.2.1 - zSL h.1)).locals ≤ R.locals := ⟨Nat.le_trans hq1 hfr, Nat.le_trans hq2 hlo⟩
          have hW8 : 2 * (F0 m pc la (st.map (zv g))).monitorRoom + ((rest.map (zv g)).map fun v => v.category).sum ≤ 8 := by
            rw [zcat_map]
            show 2 * 0 + _ ≤ 8
            omega
          have hfit : cells + (y1.2.1 - h.1) ≤ R.cells ∧ slots + (zSL y1.2.1 - zSL h.1) ≤ R.slots := ⟨by omega, by omega⟩
          have after : ∀ (t : State) (H1 : Heap) (locs1 : List Loc), t.heap = H1 → zB g y1.2 () t → va_S (zA g) sS.heap H1 locs1 → W p l0 e R sS m args below meth c H1 locs1 (cells + (y1.2.1 - h.1)) (slots + (zSL y1.2.1 - zSL h.1)) Q (F0 m (pc + 3) la ((if N.2.2.2.1 = none then rest else y1.1 :: rest).map (zv g))) := by
            intro t H1 locs1 ht hB hS1
            have hB : zRep g y1.2 t.heap := hB
            rw [ht] at hB
            refine ih _ _ h2 M g H1 locs1 (cells + (y1.2.1 - h.1)) (slots + (zSL y1.2.1 - zSL h.1)) Q la hM hC hB hS1 hL (by dsimp only; omega) (by dsimp only; omega) (by dsimp only; omega) (fun pcR lsR H2 locs2 q1 q2 q3 => W.cs ?_ ?_ (hret pcR lsR H2 locs2 q1 q2 q3))
            · dsimp only; omega
            · dsimp only; omega
          have hrun2 : va_Run p l0 e R sS m args below meth c H locs cells slots (y1.2.1 - h.1) (zSL y1.2.1 - zSL h.1) (F0 m pc la (st.map (zv g))) (rest.map (zv g)) (zQc g y1 (Value.ref (zs g + a) :: (st.take na).reverse.map (zv g)).toArray) (zA g) :=
            va_runV (C := N.1.cls) ⟨hx, hb, hml, hown, hts⟩ hmet (cwV na hts (fun w hw => by
              rcases List.mem_append.mp hw with hw | hw
              · refine ⟨?_, ?_⟩
                · simp only [List.mem_cons, List.not_mem_nil, or_false] at hw
                  rcases hw with rfl | rfl | rfl | rfl
                  · exact hlk
                  · exact hinst
                  · exact hsel
                  · exact hini
                · simp only [List.mem_cons, List.not_mem_nil, or_false] at hw
                  rcases hw with rfl | rfl | rfl | rfl
                  · exact good_of_word (zgood _ hlk)
                  · exact good_of_word (zgood _ hinst)
                  · exact good_of_word (zgood _ hsel)
                  · exact good_of_word (zgood _ hini)
              · exact zgoodIn hcd w hw) rfl rfl rfl ⟨rfl, hne.1, hne.2, hpar⟩ hroom) ⟨hfb, hrecv, hpre⟩ rfl hlen' hL.1 (zSpl g hdr) hW8 hd hfit
          obtain ⟨v, hy⟩ := y1
          rcases hrk with ⟨r, hr1, hr2⟩ | ⟨r, hr1, hr2⟩ | ⟨hr1, hr2⟩
          · dsimp only at hr1
            subst hr1
            refine va_calli (a := #[]) (post := fun r' (_ : Unit) => r' = r) hrun2 hS (fun q _ h => h) (fun q h => h) (fun r' u t H1 locs1 ht hvm hw hB hz1 hk1 hS1 => ?_)
            subst hw
            have := after t H1 locs1 ht hB hS1
            rw [if_neg hr2] at this
            exact this
          · dsimp only at hr1
            subst hr1
            refine va_calll (a := #[]) (post := fun r' (_ : Unit) => r' = r) hrun2 hS (fun q _ h => h) (fun q h => h) (fun r' u t H1 locs1 ht hvm hw hB hz1 hk1 hS1 => ?_)
            subst hw
            have := after t H1 locs1 ht hB hS1
            rw [if_neg hr2] at this
            exact this
          · dsimp only at hr1
            subst hr1
            refine va_callv (a := #[]) (post := fun (_ : Unit) => True) hrun2 hS (fun q _ h => h) (fun q h => h) (fun u t H1 locs1 ht hvm hw hB hz1 hk1 hS1 => ?_)
            have := after t H1 locs1 ht hB hS1
            rw [if_pos hr2] at this
            exact this
        · exact (nn hrun).elim
      · exact (nn hrun).elim
    | invokespecial i =>
      have hl : len = 3 := hlen
      subst hl
      simp only [zins] at hrun
      split at hrun
      · rename_i k' na hmr
        split at hrun
        · split at hrun
          · rename_i a rest hq
            refine W.objInit hx hb hown (hts _ (zMk hmr (fun q hq => hq))) (hts _ zoi1) (hts _ zoi2) rfl (hL.1.trans hml.symm) rfl hd (by omega) ?_ (go _ _ hrun)
            rw [zcat_map]
            show 2 * 0 + _ + 12 ≤ _
            omega
          · exact (nn hrun).elim
        · exact (nn hrun).elim
      · rename_i k' na hmr
        obtain ⟨N, hNS, hlk, hinst, hinn⟩ := zM2 hmr
        split at hrun
        · rename_i a rest hdr
          split at hrun
          case isFalse => exact (nn hrun).elim
          rename_i hlen0
          have hlen' : ((st.take na).reverse.map (zv g)).length = na := by rw [List.length_map, List.length_reverse]; exact hlen0
          obtain ⟨hzM, hk185, hcd, hini, hpl, hne, hpar, hcls⟩ := hNS
          unfold zcall at hrun
          rw [hzM] at hrun
          dsimp only at hrun
          split at hrun
          case isFalse => exact (nn hrun).elim
          rename_i hq
          obtain ⟨hq1, hq2, hq3, hq4, hq5⟩ := hq
          simp only [zstp] at hrun
          obtain ⟨y1, h1, h2⟩ := Option.bind_eq_some_iff.mp hrun
          have hmet := zmet (l0 := l0) g hk185 hzM hpl hcls hq5 hq4 (ih _ _ h1)
          have hn1 : h.1 ≤ y1.2.1 := zrun_n sc n _ _ h1
          have hn2 : y1.2.1 ≤ x.2.1 := zrun_n sc n _ _ h2
          have hs1 := zSL_mono hn1
          have hs2 := zSL_mono hn2
          have hrk := zrun_k sc n _ _ N h1 hzM
          have hfb : FrameBlind (zPc g sc (Value.ref a :: (st.take na).reverse) h) := fun a U gg mk q => ⟨q.1, q.2.1, va_K.moved (u := U) (U := U.calling gg mk a) (Vm.Alike.refl U.vm) q.2.2.1, zNw_vm (s := U) (U := U.calling gg mk a) rfl q.2.2.2.1, va_X.moved (u := U) (U := U.calling gg mk a) (Vm.Alike.refl U.vm) q.2.2.2.2.1, q.2.2.2.2.2⟩
          have hpre : ∀ U : State, U.heap = H → sS.WarmedH U.vm → zPc g sc (Value.ref a :: (st.take na).reverse) h ((Value.ref a :: (st.take na).reverse).map (zv g)).toArray U := fun U hU hW => ⟨rfl, by rw [hU]; exact hRep, va_K.moved hW.alike hK, zNw_warm hW hN, by rw [hU]; exact (va_X.moved hW.alike hX.1).kept (hS.2.1 _ hbs hbA), hX.2⟩
          have hroom : (zrm N (y1.2.1 - h.1) (zSL y1.2.1 - zSL h.1)).frames + 1 ≤ R.frames ∧ 8 + (N.2.2.1 + 11) + (zrm N (y1.2.1 - h.1) (zSL y1.2.1 - zSL h.1)).locals ≤ R.locals := ⟨Nat.le_trans hq1 hfr, Nat.le_trans hq2 hlo⟩
          have hW8 : 2 * (F0 m pc la (st.map (zv g))).monitorRoom + ((rest.map (zv g)).map fun v => v.category).sum ≤ 8 := by
            rw [zcat_map]
            show 2 * 0 + _ ≤ 8
            omega
          have hfit : cells + (y1.2.1 - h.1) ≤ R.cells ∧ slots + (zSL y1.2.1 - zSL h.1) ≤ R.slots := ⟨by omega, by omega⟩
          have after : ∀ (t : State) (H1 : Heap) (locs1 : List Loc), t.heap = H1 → zB g y1.2 () t → va_S (zA g) sS.heap H1 locs1 → W p l0 e R sS m args below meth c H1 locs1 (cells + (y1.2.1 - h.1)) (slots + (zSL y1.2.1 - zSL h.1)) Q (F0 m (pc + 3) la ((if N.2.2.2.1 = none then rest else y1.1 :: rest).map (zv g))) := by
            intro t H1 locs1 ht hB hS1
            have hB : zRep g y1.2 t.heap := hB
            rw [ht] at hB
            refine ih _ _ h2 M g H1 locs1 (cells + (y1.2.1 - h.1)) (slots + (zSL y1.2.1 - zSL h.1)) Q la hM hC hB hS1 hL (by dsimp only; omega) (by dsimp only; omega) (by dsimp only; omega) (fun pcR lsR H2 locs2 q1 q2 q3 => W.cs ?_ ?_ (hret pcR lsR H2 locs2 q1 q2 q3))
            · dsimp only; omega
            · dsimp only; omega
          obtain ⟨hinit, hnone⟩ := hinn
          have hrun2 : va_Run p l0 e R sS m args below meth c H locs cells slots (y1.2.1 - h.1) (zSL y1.2.1 - zSL h.1) (F0 m pc la (st.map (zv g))) (rest.map (zv g)) (zQc g y1 (Value.ref (zs g + a) :: (st.take na).reverse.map (zv g)).toArray) (zA g) :=
            va_runI ⟨hx, hb, hml, hown, hts⟩ hmet ⟨callB_of na hts (zgoodIn hcd) (by unfold zws; rw [hnone]) rfl rfl (hts _ hini) (hts _ hlk) ⟨hne.1, hne.2, hpar⟩ hroom, hinit, hts _ hinst⟩ ⟨hfb, hpre⟩ rfl hlen' hL.1 (zSpl g hdr) hW8 hd hfit
          obtain ⟨v, hy⟩ := y1
          rcases hrk with ⟨r, hr1, hr2⟩ | ⟨r, hr1, hr2⟩ | ⟨hr1, hr2⟩
          · dsimp only at hr1
            subst hr1
            refine va_calli (a := #[]) (post := fun r' (_ : Unit) => r' = r) hrun2 hS (fun q _ h => h) (fun q h => h) (fun r' u t H1 locs1 ht hvm hw hB hz1 hk1 hS1 => ?_)
            subst hw
            have := after t H1 locs1 ht hB hS1
            rw [if_neg hr2] at this
            exact this
          · dsimp only at hr1
            subst hr1
            refine va_calll (a := #[]) (post := fun r' (_ : Unit) => r' = r) hrun2 hS (fun q _ h => h) (fun q h => h) (fun r' u t H1 locs1 ht hvm hw hB hz1 hk1 hS1 => ?_)
            subst hw
            have := after t H1 locs1 ht hB hS1
            rw [if_neg hr2] at this
            exact this
          · dsimp only at hr1
            subst hr1
            refine va_callv (a := #[]) (post := fun (_ : Unit) => True) hrun2 hS (fun q _ h => h) (fun q h => h) (fun u t H1 locs1 ht hvm hw hB hz1 hk1 hS1 => ?_)
            have := after t H1 locs1 ht hB hS1
            rw [if_pos hr2] at this
            exact this
        · exact (nn hrun).elim
      · rename_i k' na hmr
        obtain ⟨N, hNS, hlk, hinst, hinn⟩ := zM3 hmr
        split at hrun
        · rename_i a rest hdr
          split at hrun
          case isFalse => exact (nn hrun).elim
          rename_i hlen0
          have hlen' : ((st.take na).reverse.map (zv g)).length = na := by rw [List.length_map, List.length_reverse]; exact hlen0
          obtain ⟨hzM, hk185, hcd, hini, hpl, hne, hpar, hcls⟩ := hNS
          unfold zcall at hrun
          rw [hzM] at hrun
          dsimp only at hrun
          split at hrun
          case isFalse => exact (nn hrun).elim
          rename_i hq
          obtain ⟨hq1, hq2, hq3, hq4, hq5⟩ := hq
          simp only [zstp] at hrun
          obtain ⟨y1, h1, h2⟩ := Option.bind_eq_some_iff.mp hrun
          have hmet := zmet (l0 := l0) g hk185 hzM hpl hcls hq5 hq4 (ih _ _ h1)
          have hn1 : h.1 ≤ y1.2.1 := zrun_n sc n _ _ h1
          have hn2 : y1.2.1 ≤ x.2.1 := zrun_n sc n _ _ h2
          have hs1 := zSL_mono hn1
          have hs2 := zSL_mono hn2
          have hrk := zrun_k sc n _ _ N h1 hzM
          have hfb : FrameBlind (zPc g sc (Value.ref a :: (st.take na).reverse) h) := fun a U gg mk q => ⟨q.1, q.2.1, va_K.moved (u := U) (U := U.calling gg mk a) (Vm.Alike.refl U.vm) q.2.2.1, zNw_vm (s := U) (U := U.calling gg mk a) rfl q.2.2.2.1, va_X.moved (u := U) (U := U.calling gg mk a) (Vm.Alike.refl U.vm) q.2.2.2.2.1, q.2.2.2.2.2⟩
          have hpre : ∀ U : State, U.heap = H → sS.WarmedH U.vm → zPc g sc (Value.ref a :: (st.take na).reverse) h ((Value.ref a :: (st.take na).reverse).map (zv g)).toArray U := fun U hU hW => ⟨rfl, by rw [hU]; exact hRep, va_K.moved hW.alike hK, zNw_warm hW hN, by rw [hU]; exact (va_X.moved hW.alike hX.1).kept (hS.2.1 _ hbs hbA), hX.2⟩
          have hroom : (zrm N (y1.2.1 - h.1) (zSL y1.2.1 - zSL h.1)).frames + 1 ≤ R.frames ∧ 8 + (N.2.2.1 + 11) + (zrm N (y1.2.1 - h.1) (zSL y1.2.1 - zSL h.1)).locals ≤ R.locals := ⟨Nat.le_trans hq1 hfr, Nat.le_trans hq2 hlo⟩
          have hW8 : 2 * (F0 m pc la (st.map (zv g))).monitorRoom + ((rest.map (zv g)).map fun v => v.category).sum ≤ 8 := by
            rw [zcat_map]
            show 2 * 0 + _ ≤ 8
            omega
          have hfit : cells + (y1.2.1 - h.1) ≤ R.cells ∧ slots + (zSL y1.2.1 - zSL h.1) ≤ R.slots := ⟨by omega, by omega⟩
          have after : ∀ (t : State) (H1 : Heap) (locs1 : List Loc), t.heap = H1 → zB g y1.2 () t → va_S (zA g) sS.heap H1 locs1 → W p l0 e R sS m args below meth c H1 locs1 (cells + (y1.2.1 - h.1)) (slots + (zSL y1.2.1 - zSL h.1)) Q (F0 m (pc + 3) la ((if N.2.2.2.1 = none then rest else y1.1 :: rest).map (zv g))) := by
            intro t H1 locs1 ht hB hS1
            have hB : zRep g y1.2 t.heap := hB
            rw [ht] at hB
            refine ih _ _ h2 M g H1 locs1 (cells + (y1.2.1 - h.1)) (slots + (zSL y1.2.1 - zSL h.1)) Q la hM hC hB hS1 hL (by dsimp only; omega) (by dsimp only; omega) (by dsimp only; omega) (fun pcR lsR H2 locs2 q1 q2 q3 => W.cs ?_ ?_ (hret pcR lsR H2 locs2 q1 q2 q3))
            · dsimp only; omega
            · dsimp only; omega
          obtain ⟨hinit, hnone⟩ := hinn
          have hrun2 : va_Run p l0 e R sS m args below meth c H locs cells slots (y1.2.1 - h.1) (zSL y1.2.1 - zSL h.1) (F0 m pc la (st.map (zv g))) (rest.map (zv g)) (zQc g y1 (Value.ref (zs g + a) :: (st.take na).reverse.map (zv g)).toArray) (zA g) :=
            va_runIN ⟨hx, hb, hml, hown, hts⟩ hmet ⟨va_cnB na hts (zgoodIn hcd) (by unfold zws; rw [hnone]) rfl rfl (hN.1 _ hlk) (hts _ hini) ⟨hne.1, hne.2, hpar⟩ hroom, hinit, hts _ hinst⟩ ⟨hfb, hpre⟩ rfl hlen' hL.1 (zSpl g hdr) hW8 hd hfit
          obtain ⟨v, hy⟩ := y1
          rcases hrk with ⟨r, hr1, hr2⟩ | ⟨r, hr1, hr2⟩ | ⟨hr1, hr2⟩
          · dsimp only at hr1
            subst hr1
            refine va_calli (a := #[]) (post := fun r' (_ : Unit) => r' = r) hrun2 hS (fun q _ h => h) (fun q h => h) (fun r' u t H1 locs1 ht hvm hw hB hz1 hk1 hS1 => ?_)
            subst hw
            have := after t H1 locs1 ht hB hS1
            rw [if_neg hr2] at this
            exact this
          · dsimp only at hr1
            subst hr1
            refine va_calll (a := #[]) (post := fun r' (_ : Unit) => r' = r) hrun2 hS (fun q _ h => h) (fun q h => h) (fun r' u t H1 locs1 ht hvm hw hB hz1 hk1 hS1 => ?_)
            subst hw
            have := after t H1 locs1 ht hB hS1
            rw [if_neg hr2] at this
            exact this
          · dsimp only at hr1
            subst hr1
            refine va_callv (a := #[]) (post := fun (_ : Unit) => True) hrun2 hS (fun q _ h => h) (fun q h => h) (fun u t H1 locs1 ht hvm hw hB hz1 hk1 hS1 => ?_)
            have := after t H1 locs1 ht hB hS1
            rw [if_pos hr2] at this
            exact this
        · exact (nn hrun).elim
      · exact (nn hrun).elim
    | invokestatic i =>
      have hl : len = 3 := hlen
      subst hl
      simp only [zins] at hrun
      split at hrun
      · rename_i k' na hmr
        split at hrun
        · split at hrun
          · rename_i hq
            exact va_mmax hx hb (hml.trans hL.1.symm) hown (hts _ (zMk hmr (fun q hq => hq))) (hts _ zmx1) (hts _ zmi) (hts _ zmx2) (by omega) (by rw [zcat_map]; omega) (by omega) (by omega) hd (go _ _ hrun)
          · exact (nn hrun).elim
        · exact (nn hrun).elim
      · rename_i k' na hmr
        split at hrun
        · split at hrun
          · rename_i hq
            exact va_mmin hx hb (hml.trans hL.1.symm) hown (hts _ (zMk hmr (fun q hq => hq))) (hts _ zmn1) (hts _ zmi) (hts _ zmn2) (by omega) (by rw [zcat_map]; omega) (by omega) (by omega) hd (go _ _ hrun)
          · exact (nn hrun).elim
        · exact (nn hrun).elim
      · rename_i k' na hmr
        split at hrun
        · split at hrun
          · rename_i hq
            exact va_mabs hx hb (hml.trans hL.1.symm) hown (hts _ (zMk hmr (fun q hq => hq))) (hts _ zma1) (hts _ zmi) (hts _ zma2) (by omega) (by rw [zcat_map]; omega) (by omega) (by omega) hd (go _ _ hrun)
          · exact (nn hrun).elim
        · exact (nn hrun).elim
      · rename_i k' na hmr
        split at hrun
        · split at hrun
          · rename_i cn dp a sp a0 rest hq
            obtain ⟨⟨hq1, hq2, hq3⟩, ho1, ho0, g1, g2, g3, g4, g5⟩ := hq
            obtain ⟨ha, hka⟩ := zok_iff.mp ho1
            obtain ⟨ha0, hka0⟩ := zok_iff.mp ho0
            refine va_copyi (D := g.1) (tys := ztys g) hx hb (hml.trans hL.1.symm) hown (hts _ (zMk hmr (fun q hq => hq))) (hts _ zac1) (hts _ zac2) (hts _ zac3) hK hRep.2 (zD g h) hS a0 a 0 0 (by rw [zW_get ha0, zE_100 hka0]) (by rw [zW_get ha, zE_100 hka]) rfl rfl rfl g1 g2 g3 g4 g5 (fun _ _ => rfl) (by omega) ?_ hd (fun H1 locs1 hP1 _ hS1 => ?_)
            · rw [zcat_map, show nativeFrameWords "java/lang/System" "arraycopy" 5 + 11 = 18 from by decide +kernel]
              omega
            · have hE : zE g (h.1, zCp h.2.1 a0 a sp.toNatClampNeg dp.toNatClampNeg cn.toNatClampNeg, h.2.2.1, h.2.2.2) a = .inl (g.2.1, (zK a).2, .inl (va_cpy (h.2.1 a0) (h.2.1 a) sp.toNatClampNeg dp.toNatClampNeg cn.toNatClampNeg)) := by rw [zE_100 hka]; dsimp only; rw [zCp_eq]
              rw [← hE, zW_set (h := h) (h' := (h.1, zCp h.2.1 a0 a sp.toNatClampNeg dp.toNatClampNeg cn.toNatClampNeg, h.2.2.1, h.2.2.2)) ha rfl (fun q hq' => zE_congr (zCp_ne hq') rfl rfl)] at hP1
              exact zsz (h' := (h.1, zCp h.2.1 a0 a sp.toNatClampNeg dp.toNatClampNeg cn.toNatClampNeg, h.2.2.1, h.2.2.2)) hcz ha rfl hP1 (fun hz1 => goH _ _ _ _ _ _ _ hrun ⟨hz1, hP1⟩ hS1)
          · exact (nn hrun).elim
        · exact (nn hrun).elim
      · rename_i k' na hmr
        obtain ⟨N, hNS, hlk, hstt⟩ := zM1 hmr
        split at hrun
        · rename_i hlen0
          have hlen' : ((st.take na).reverse.map (zv g)).length = na := by rw [List.length_map, List.length_reverse]; exact hlen0
          have hspl : st.map (zv g) = ((st.take na).reverse.map (zv g)).reverse ++ (st.drop na).map (zv g) := by
            rw [← List.map_reverse, List.reverse_reverse, ← List.map_append, List.take_append_drop]
          obtain ⟨hzM, hk185, hcd, hini, hpl, hne, hpar, hcls⟩ := hNS
          unfold zcall at hrun
          rw [hzM] at hrun
          dsimp only at hrun
          split at hrun
          case isFalse => exact (nn hrun).elim
          rename_i hq
          obtain ⟨hq1, hq2, hq3, hq4, hq5⟩ := hq
          simp only [zstp] at hrun
          obtain ⟨y1, h1, h2⟩ := Option.bind_eq_some_iff.mp hrun
          have hmet := zmet (l0 := l0) g hk185 hzM hpl hcls hq5 hq4 (ih _ _ h1)
          have hn1 : h.1 ≤ y1.2.1 := zrun_n sc n _ _ h1
          have hn2 : y1.2.1 ≤ x.2.1 := zrun_n sc n _ _ h2
          have hs1 := zSL_mono hn1
          have hs2 := zSL_mono hn2
          have hrk := zrun_k sc n _ _ N h1 hzM
          have hfb : FrameBlind (zPc g sc ((st.take na).reverse) h) := fun a U gg mk q => ⟨q.1, q.2.1, va_K.moved (u := U) (U := U.calling gg mk a) (Vm.Alike.refl U.vm) q.2.2.1, zNw_vm (s := U) (U := U.calling gg mk a) rfl q.2.2.2.1, va_X.moved (u := U) (U := U.calling gg mk a) (Vm.Alike.refl U.vm) q.2.2.2.2.1, q.2.2.2.2.2⟩
          have hpre : ∀ U : State, U.heap = H → sS.WarmedH U.vm → zPc g sc ((st.take na).reverse) h (((st.take na).reverse).map (zv g)).toArray U := fun U hU hW => ⟨rfl, by rw [hU]; exact hRep, va_K.moved hW.alike hK, zNw_warm hW hN, by rw [hU]; exact (va_X.moved hW.alike hX.1).kept (hS.2.1 _ hbs hbA), hX.2⟩
          have hroom : (zrm N (y1.2.1 - h.1) (zSL y1.2.1 - zSL h.1)).frames + 1 ≤ R.frames ∧ 8 + (N.2.2.1 + 11) + (zrm N (y1.2.1 - h.1) (zSL y1.2.1 - zSL h.1)).locals ≤ R.locals := ⟨Nat.le_trans hq1 hfr, Nat.le_trans hq2 hlo⟩
          have hW8 : 2 * (F0 m pc la (st.map (zv g))).monitorRoom + (((st.drop na).map (zv g)).map fun v => v.category).sum ≤ 8 := by
            rw [zcat_map]
            show 2 * 0 + _ ≤ 8
            omega
          have hfit : cells + (y1.2.1 - h.1) ≤ R.cells ∧ slots + (zSL y1.2.1 - zSL h.1) ≤ R.slots := ⟨by omega, by omega⟩
          have after : ∀ (t : State) (H1 : Heap) (locs1 : List Loc), t.heap = H1 → zB g y1.2 () t → va_S (zA g) sS.heap H1 locs1 → W p l0 e R sS m args below meth c H1 locs1 (cells + (y1.2.1 - h.1)) (slots + (zSL y1.2.1 - zSL h.1)) Q (F0 m (pc + 3) la ((if N.2.2.2.1 = none then (st.drop na) else y1.1 :: (st.drop na)).map (zv g))) := by
            intro t H1 locs1 ht hB hS1
            have hB : zRep g y1.2 t.heap := hB
            rw [ht] at hB
            refine ih _ _ h2 M g H1 locs1 (cells + (y1.2.1 - h.1)) (slots + (zSL y1.2.1 - zSL h.1)) Q la hM hC hB hS1 hL (by dsimp only; omega) (by dsimp only; omega) (by dsimp only; omega) (fun pcR lsR H2 locs2 q1 q2 q3 => W.cs ?_ ?_ (hret pcR lsR H2 locs2 q1 q2 q3))
            · dsimp only; omega
            · dsimp only; omega
          have hrun2 : va_Run p l0 e R sS m args below meth c H locs cells slots (y1.2.1 - h.1) (zSL y1.2.1 - zSL h.1) (F0 m pc la (st.map (zv g))) ((st.drop na).map (zv g)) (zQc g y1 (((st.take na).reverse.map (zv g)).toArray)) (zA g) :=
            va_runS ⟨hx, hb, hml, hown, hts⟩ hmet ⟨callB_of na hts (zgoodIn hcd) rfl rfl rfl (hts _ hini) (hts _ hlk) ⟨hne.1, hne.2, hpar⟩ hroom, hts _ hstt⟩ ⟨hfb, hpre⟩ rfl hlen' hL.1 hspl hW8 hd hfit
          obtain ⟨v, hy⟩ := y1
          rcases hrk with ⟨r, hr1, hr2⟩ | ⟨r, hr1, hr2⟩ | ⟨hr1, hr2⟩
          · dsimp only at hr1
            subst hr1
            refine va_calli (a := #[]) (post := fun r' (_ : Unit) => r' = r) hrun2 hS (fun q _ h => h) (fun q h => h) (fun r' u t H1 locs1 ht hvm hw hB hz1 hk1 hS1 => ?_)
            subst hw
            have := after t H1 locs1 ht hB hS1
            rw [if_neg hr2] at this
            exact this
          · dsimp only at hr1
            subst hr1
            refine va_calll (a := #[]) (post := fun r' (_ : Unit) => r' = r) hrun2 hS (fun q _ h => h) (fun q h => h) (fun r' u t H1 locs1 ht hvm hw hB hz1 hk1 hS1 => ?_)
            subst hw
            have := after t H1 locs1 ht hB hS1
            rw [if_neg hr2] at this
            exact this
          · dsimp only at hr1
            subst hr1
            refine va_callv (a := #[]) (post := fun (_ : Unit) => True) hrun2 hS (fun q _ h => h) (fun q h => h) (fun u t H1 locs1 ht hvm hw hB hz1 hk1 hS1 => ?_)
            have := after t H1 locs1 ht hB hS1
            rw [if_pos hr2] at this
            exact this
        · exact (nn hrun).elim
      · exact (nn hrun).elim
    | _ => exact (nn (by simpa only [zins] using hrun)).elim

