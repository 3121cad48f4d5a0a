/-! a run of the interpreter is a run of the machine -/
/-- the cells grow -/
theorem zins_n {rec : zSt → Option zRs} (hrec : ∀ s y, rec s = some y → s.2.2.2.2.1 ≤ y.2.1) {sc : zScr} {k : Nat} {M : zMe} {pc : Nat} {ls : List (Option Value)} {st : List Value} {h : zHp} {ins : Instr} {x : zRs} (hr : zstp rec (zins sc k M pc ls st h ins) = some x) : h.1 ≤ x.2.1 := by
  have go : ∀ (pc' : Nat) (ls' : List (Option Value)) (st' : List Value) (h' : zHp), h.1 ≤ h'.1 → zstp rec (zgo k pc' ls' st' h') = some x → h.1 ≤ x.2.1 := fun pc' ls' st' h' hl e => Nat.le_trans hl (hrec _ _ e)
  have go2 : ∀ (pc' : Nat) (ls' : List (Option Value)) (st' : List Value) (i' : Nat → Nat → Int32) (r' : Nat → Nat → Option Nat) (l' : Nat → Nat → Int64), zstp rec (zgo k pc' ls' st' (h.1, i', r', l')) = some x → h.1 ≤ x.2.1 := fun pc' ls' st' i' r' l' e => go pc' ls' st' (h.1, i', r', l') (Nat.le_refl h.1) e
  have go3 : ∀ (pc' : Nat) (ls' : List (Option Value)) (st' : List Value) (i' : Nat → Nat → Int32) (r' : Nat → Nat → Option Nat) (l' : Nat → Nat → Int64), zstp rec (zgo k pc' ls' st' (h.1 + 1, i', r', l')) = some x → h.1 ≤ x.2.1 := fun pc' ls' st' i' r' l' e => go pc' ls' st' (h.1 + 1, i', r', l') (Nat.le_succ h.1) e
  have jp : ∀ (t : Option Nat) (st' : List Value), zstp rec (zjp k t ls st' h) = some x → h.1 ≤ x.2.1 := by
    intro t st' e
    cases t with
    | none => cases e
    | some t => exact go _ _ _ _ (Nat.le_refl _) e
  have cl : ∀ (as rest : List Value) (k' : Nat), zstp rec (zcall k M pc ls as rest h k') = some x → h.1 ≤ x.2.1 := by
    intro as rest k' e
    unfold zcall at e
    split at e
    · cases e
    · split at e
      · simp only [zstp] at e
        obtain ⟨y, h1, h2⟩ := Option.bind_eq_some_iff.mp e
        exact Nat.le_trans (hrec _ _ h1) (hrec _ _ h2)
      · cases e
  have nn : zstp rec none = some x → h.1 ≤ x.2.1 := fun e => by cases e
  cases ins <;> simp only [zins] at hr <;> first | (exact nn hr; done) | ((repeat' split at hr) <;> first | exact nn hr | exact go _ _ _ h (Nat.le_refl _) hr | exact go2 _ _ _ _ _ _ hr | exact go3 _ _ _ _ _ _ hr | exact jp _ _ hr | exact cl _ _ _ hr | (simp only [zstp, Option.some.injEq] at hr; subst hr; exact Nat.le_refl _))
theorem zrun_n (sc : zScr) : ∀ (n : Nat) (s : zSt) (x : zRs), zrun sc n s = some x → s.2.2.2.2.1 ≤ x.2.1
  | 0, _, _, h => by cases h
  | n + 1, s, x, h => by
    have h : zstp (zrun sc n) (zact sc s) = some x := h
    unfold zact at h
    split at h
    · cases h
    · split at h
      · cases h
      · split at h
        · exact zins_n (zrun_n sc n) h
        · cases h
/-- what a method's contract says -/
def zws (N : zMe) : List Cond := Cond.code N.1 N.2.1 N.2.2.1 N.2.2.2.1 :: zTB
def zrm (N : zMe) (mc ms : Nat) : Room := { frames := N.2.2.2.2.2.1, cells := mc, slots := ms, locals := N.2.2.2.2.2.2 }
def zPc (g : zG) (sc : zScr) (as : List Value) (h : zHp) : Array Value → State → Prop := va_Pc (as.map (zv g)) (fun U => zRep g h U.heap ∧ va_K g.1 zCl (ztys g) U ∧ zNw U ∧ va_X (zb g) sc.1 sc.2 U U.heap ∧ zb g < zs g)
def zB (g : zG) (h : zHp) (_ : Unit) (t : State) : Prop := zRep g h t.heap
def zQc (g : zG) (x : zRs) : Array Value → State → Outcome → State → Prop := fun a st o t => match x.1 with
  | .int v => va_Qi (fun r (_ : Unit) => r = v) (zB g x.2) (zA g) a st o t
  | .long v => va_Ql (fun r (_ : Unit) => r = v) (zB g x.2) (zA g) a st o t
  | _ => va_Qv (fun (_ : Unit) => True) (zB g x.2) (zA g) a st o t
def zRet (M : zMe) (pc : Nat) (v : Value) : Prop := (∃ r, v = .int r ∧ decode M.2.1 pc = .ok (.ireturn, 1) ∧ (M.2.2.2.1 = some .int ∨ (M.2.2.2.1 = some .boolean ∧ (r = 0 ∨ r = 1)))) ∨ (∃ r, v = .long r ∧ decode M.2.1 pc = .ok (.lreturn, 1) ∧ M.2.2.2.1 = some .long) ∨ (v = .null ∧ decode M.2.1 pc = .ok (.return_, 1) ∧ M.2.2.2.1 = none)
def zrst (v : Value) : List Value := match v with
  | .null => []
  | v => [v]
def zCx (M : zMe) (g : zG) (sc : zScr) (p : Program) (R : Room) (sS : State) (m : MethodId) (args : Array Value) (meth : Method) (c : Code) : Prop :=
  p.tables.exec = Jvm.exec ∧ c.code = M.2.1 ∧ c.maxLocals = M.2.2.1 ∧ sS.vm.findClass (zRN M.2.2.2.2.1) = some m.cls ∧ (∀ w ∈ zTB, w.before args sS = true) ∧ va_K g.1 zCl (ztys g) sS ∧ zNw sS ∧ (va_X (zb g) sc.1 sc.2 sS sS.heap ∧ zb g < zs g) ∧ zs g ≤ sS.heap.size ∧ (M.1.name = "<init>" → meth.name = "<init>") ∧ M.2.2.2.2.2.1 ≤ R.frames ∧ M.2.2.2.2.2.2 ≤ R.locals
def zSnd (l0 : Launch) (sc : zScr) (s : zSt) (x : zRs) : Prop :=
  ∀ (M : zMe) (g : zG) {p : Program} {e : Env} {R : Room} {sS : State} {m : MethodId} {args : Array Value} {below : List Frame} {meth : Method} {c : Code} (H : Heap) (locs : List Loc) (cells slots : Nat) (Q : State → Prop) (la : Array Slot),
    zM s.1 = some M → zCx M g sc p R sS m args meth c → zRep g s.2.2.2.2 H → va_S (zA g) sS.heap H locs → zLs g M.2.2.1 s.1 s.2.2.1 la →
    zs g + s.2.2.2.2.1 = sS.heap.size + cells → cells + (x.2.1 - s.2.2.2.2.1) ≤ R.cells → slots + (zSL x.2.1 - zSL s.2.2.2.2.1) ≤ R.slots →
    (∀ (pcR : Nat) (lsR : Array Slot) (H' : Heap) (locs' : List Loc), zRet M pcR x.1 → zRep g x.2 H' → va_S (zA g) sS.heap H' locs' → W p l0 e R sS m args below meth c H' locs' (cells + (x.2.1 - s.2.2.2.2.1)) (slots + (zSL x.2.1 - zSL s.2.2.2.2.1)) Q (F0 m pcR lsR (zrst x.1))) →
    W p l0 e R sS m args below meth c H locs cells slots Q (F0 m s.2.1 la (s.2.2.2.1.map (zv g)))
set_option maxHeartbeats 4000000 in
/-- the contract of a method out of the soundness of its runs -/
theorem zmet {l0 : Launch} {sc : zScr} {k : Nat} {N : zMe} {as : List Value} {h : zHp} {x : zRs} (g : zG) (hk : k < 185) (hM : zM k = some N) (hp : plainName N.1.cls = true) (hcls : N.1.cls = zRN N.2.2.2.2.1) (hc : zcat1 as = true) (hl : as.length ≤ N.2.2.1) (hS : zSnd l0 sc (k, 0, zent as N.2.2.1, [], h) x) :
    Met l0 N.1 (zws N) (zrm N (x.2.1 - h.1) (zSL x.2.1 - zSL h.1)) (zPc g sc as h) (zQc g x) (x.2.1 - h.1) (zSL x.2.1 - zSL h.1) (zA g) := by
  refine Met.ofW (cc := N.2.1) (maxL := N.2.2.1) (ret := N.2.2.2.1) hp rfl ?_
  intro p e s m args below meth c s₁ B hml hv
  obtain ⟨rfl, hRep, hK, hN, hX, hbs⟩ := hv
  have hx := B.exec
  have hb := B.bytes
  have hr := B.returns
  have hts0 := atoms_spec (ws := zws N) B.pre
  have hts : ∀ w ∈ zTB, w.before (as.map (zv g)).toArray s = true := fun w hw => hts0 w (List.mem_cons_of_mem _ hw)
  have hown : s.vm.findClass N.1.cls = some m.cls := findClass_of_methodNamed B.named
  rw [hcls] at hown
  have hlocks := B.notSynchronized
  have hin : meth.name = N.1.name := (name_of_methodNamed B.named B.method).1
  have hsz : zs g ≤ s.heap.size := by rw [hRep.1]; omega
  rw [lg_entry_eq]
  have hL := zLs_ent (g := g) (k := k) hc hl
  refine hS N g s.heap [] 0 0 _ _ hM ⟨hx, hb, hml, hown, hts, hK, hN, ⟨hX, hbs⟩, hsz, fun q => hin.trans q, Nat.le_refl _, Nat.le_refl _⟩ hRep va_S.rf hL (by rw [hRep.1]; rfl) (by rw [Nat.zero_add]; exact Nat.le_refl _) (by rw [Nat.zero_add]; exact Nat.le_refl _) ?_
  intro pcR lsR H' locs' hret hR' hS'
  refine W.cs (Nat.zero_add _) (Nat.zero_add _) ?_
  obtain ⟨v, h1⟩ := x
  dsimp only at hret hR' ⊢
  rcases hret with ⟨r, rfl, hd, hty | ⟨hty, hrb⟩⟩ | ⟨r, rfl, hd, hty⟩ | ⟨rfl, hd, hty⟩
  · exact W.iret (v := r) hx hb (hr.trans hty) (fun t ht hW => ⟨⟨r, (), rfl, rfl, by show zRep g _ t.heap; rw [ht]; exact hR'⟩, hS'.F ht⟩) hS'.2.2 hd
  · exact W.zret (v := r) (ty := .boolean) hx hb (hr.trans hty) (by rcases hrb with rfl | rfl <;> rfl) (fun t ht hW => ⟨⟨r, (), rfl, rfl, by show zRep g _ t.heap; rw [ht]; exact hR'⟩, hS'.F ht⟩) hS'.2.2 hd
  · exact W.lret (v := r) hx hb (hr.trans hty) (fun t ht hW => ⟨⟨r, (), rfl, rfl, by show zRep g _ t.heap; rw [ht]; exact hR'⟩, hS'.F ht⟩) hS'.2.2 hd
  · exact W.vret hx hb (hr.trans hty) (fun t ht hW => ⟨⟨(), rfl, trivial, by show zRep g _ t.heap; rw [ht]; exact hR'⟩, hS'.F ht⟩) hS'.2.2 hd
theorem zgoodIn {N : zMe} (h : Cond.code N.1 N.2.1 N.2.2.1 N.2.2.2.1 ∈ zTB) : GoodIn zTB (zws N) := by
  intro w hw
  rcases List.mem_cons.mp hw with rfl | hw
  · exact ⟨h, Or.inl rfl⟩
  · exact ⟨hw, good_of_word (zgood w hw)⟩
/-- what is known of a method that is called -/
theorem zMN_spec {k na : Nat} (h : zMNok k na = true) : ∃ (N : zMe) (P : Nat × Nat × Nat × Nat × Nat), zM k = some N ∧ zMP[k]? = some P ∧ k < 185 ∧ Cond.initialized N.1.cls ∈ zTB ∧ plainName N.1.cls = true ∧ (N.1.cls ≠ "java/lang/invoke/MethodHandle" ∧ N.1.cls ≠ "java/lang/invoke/VarHandle") ∧ (parseMethodDescriptor N.1.desc).map (fun d => d.parameters.length) = some na ∧ N.1.cls = zRN N.2.2.2.2.1 := by
  unfold zMNok at h
  split at h
  · rename_i N P hN hP
    simp only [Bool.and_eq_true, decide_eq_true_eq] at h
    exact ⟨N, P, hN, hP, h.1, zinT_mem h.2.1, h.2.2.1, h.2.2.2.1, h.2.2.2.2.1, h.2.2.2.2.2⟩
  · cases h
theorem zcases {x : zRs} {M : zMe} {pc : Nat} (h : zRet M pc x.1) : (∃ r, x.1 = .int r ∧ M.2.2.2.1 ≠ none) ∨ (∃ r, x.1 = .long r ∧ M.2.2.2.1 ≠ none) ∨ (x.1 = .null ∧ M.2.2.2.1 = none) := by
  rcases h with ⟨r, h1, -, h2 | ⟨h2, -⟩⟩ | ⟨r, h1, -, h2⟩ | ⟨h1, -, h2⟩
  · exact Or.inl ⟨r, h1, by rw [h2]; exact fun h => by cases h⟩
  · exact Or.inl ⟨r, h1, by rw [h2]; exact fun h => by cases h⟩
  · exact Or.inr (Or.inl ⟨r, h1, by rw [h2]; exact fun h => by cases h⟩)
  · exact Or.inr (Or.inr ⟨h1, h2⟩)
/-- the kind of what a method answers -/
def zRk (N : zMe) (v : Value) : Prop := (∃ r, v = .int r ∧ N.2.2.2.1 ≠ none) ∨ (∃ r, v = .long r ∧ N.2.2.2.1 ≠ none) ∨ (v = .null ∧ N.2.2.2.1 = none)
theorem zrun_k (sc : zScr) : ∀ (n : Nat) (s : zSt) (x : zRs) (N : zMe), zrun sc n s = some x → zM s.1 = some N → zRk N x.1
  | 0, _, _, _, h, _ => by cases h
  | n + 1, s, x, N, h, hN => by
    have h : zstp (zrun sc n) (zact sc s) = some x := h
    unfold zact at h
    rw [hN] at h
    dsimp only at h
    split at h
    · cases h
    rename_i y hd
    by_cases hlen : y.2 = zlen y.1 y.2
    case neg => rw [if_neg hlen] at h; cases h
    rw [if_pos hlen] at h
    have go : ∀ (pc' : Nat) (ls' : List (Option Value)) (st' : List Value) (h' : zHp), zstp (zrun sc n) (zgo s.1 pc' ls' st' h') = some x → zRk N x.1 := fun pc' ls' st' h' e => zrun_k sc n _ x N e hN
    have jp : ∀ (t : Option Nat) (ls : List (Option Value)) (st' : List Value) (h' : zHp), zstp (zrun sc n) (zjp s.1 t ls st' h') = some x → zRk N x.1 := by
      intro t ls st' h' e
      cases t with
      | none => cases e
      | some t => exact go _ _ _ _ e
    have cl : ∀ (pc : Nat) (ls : List (Option Value)) (as rest : List Value) (h' : zHp) (k' : Nat), zstp (zrun sc n) (zcall s.1 N pc ls as rest h' k') = some x → zRk N x.1 := by
      intro pc ls as rest h' k' e
      unfold zcall at e
      split at e
      · cases e
      · split at e
        · simp only [zstp] at e
          obtain ⟨y, h1, h2⟩ := Option.bind_eq_some_iff.mp e
          exact zrun_k sc n _ x N h2 hN
        · cases e
    have nn : zstp (zrun sc n) none = some x → zRk N x.1 := fun e => by cases e
    generalize y.1 = ins at h
    cases ins <;> simp only [zins] at h <;> first
      | (exact nn h; done)
      | ((repeat' split at h) <;> first | exact nn h | exact go _ _ _ _ h | exact jp _ _ _ _ h | exact cl _ _ _ _ _ _ h | (rename_i hty; simp only [zstp, Option.some.injEq] at h; subst h; rcases hty with hty | ⟨hty, -⟩ <;> exact Or.inl ⟨_, rfl, by rw [hty]; exact fun h => by cases h⟩) | (rename_i hty; simp only [zstp, Option.some.injEq] at h; subst h; exact Or.inr (Or.inl ⟨_, rfl, by rw [hty]; exact fun h => by cases h⟩)) | (rename_i hty; simp only [zstp, Option.some.injEq] at h; subst h; exact Or.inr (Or.inr ⟨rfl, hty⟩)))

