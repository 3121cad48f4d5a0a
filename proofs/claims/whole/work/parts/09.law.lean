/-! the law's start out of the interpreter's run of the law -/
def R_law : String := "HarpFencesLaw"
def lw_P (b : Addr) (xs : List Int32) (args : Array Value) (s : State) : Prop := args = #[.ref b] ∧ s.IntsAt b xs ∧ xs.length ≤ 3584 ∧ (Jvm.Cond.and given_1 narrow_1).before args s = true
def lw_Q (_ : Array Value) (s : State) (o : Outcome) (t : State) : Prop := o = .returned (some (.int 1)) ∧ Framed s o t [] 600000 7302250
def lw_Z (below : List Frame) (a : Array Value) (s : State) : State → Prop := fun t => ∃ o, t.status = .running ∧ Ended t below o ∧ lw_Q a s o t
/-- the law's own end, with 1 on the stack, nothing written that was there before, its room as the claim has it -/
theorem lw_ret {p : Program} {l : Launch} {e : Env} {s : State} {m : MethodId} {below : List Frame} {meth : Method} {c : Code} {b : Nat} (hx : p.tables.exec = Jvm.exec) (hb : c.code = code) (hr : meth.sig.returnType = ret) (hlocks : meth.locks = false) {pc : Nat} {H : Heap} {ls : Array Slot} (hdg : decode code pc = .ok (.ireturn, 1)) : W p l e room_1 s m #[Value.ref b] below meth c H [] 600000 7302250 (lw_Z below #[Value.ref b] s) (F0 m pc ls [.int 1]) := by
  intro T hT X
  obtain ⟨fs, hret, hrun, hended, hW, hframe⟩ := X.leave (v := some (.int 1)) (hlocks := hlocks) (fun h => by rw [hr] at h; cases h)
  have hmeth' : T.vm.method? m = some meth := X.method'
  refine ⟨T.setFrames fs, ?_, .returned (some (.int 1)), hrun, hended, rfl, ⟨_, rfl⟩, hW, hframe⟩
  jvm_step X.here [X.here.top, hx, hb, hdg, hmeth', hr, ret, narrow_b1]
  (try refine ⟨rfl, ?_⟩); (try refine ⟨rfl, ?_⟩)
  first | (intro acts; rw [hret _ acts rfl rfl rfl]) | rw [hret _ _ rfl rfl rfl]
  exact Steps.refl _
/-- what holds at the law's entry: the machine, the code, the tables' words (any of lw_tbl by 'hts w (by decide +kernel)'), the script of L ints xs at the cell b, what the Statement gives of the start (any of its parts by flat_of_before) -/
def lw_At (p : Program) (s : State) (m : MethodId) (meth : Method) (c : Code) (b L : Nat) (xs : Nat → Int32) : Prop :=
  p.tables.exec = Jvm.exec ∧ c.code = code ∧ meth.sig.returnType = ret ∧ c.maxLocals = 4 ∧ s.vm.findClass R_law = some m.cls ∧ (∀ w ∈ lw_tbl, w.before #[Value.ref b] s = true) ∧ va_X b L xs s s.heap ∧ b < s.heap.size ∧ meth.locks = false ∧ (Jvm.Cond.and given_1 narrow_1).before #[Value.ref b] s = true
abbrev zh0 : zHp := (0, fun _ _ => 0, fun _ _ => none, fun _ _ => 0)
theorem zmem_tbl {w : Cond} (h : w ∈ zTB) : w ∈ lw_tbl := (List.mem_filter.mp h).1
set_option maxRecDepth 100000 in
theorem zSL_197 : zSL 197 = 4847 := by decide +kernel
theorem zAO1 : Cond.arrayOver (.object "HarpFences$Stand") ∈ lw_tbl := List.mem_of_getElem? (i := 273) (by decide +kernel)
theorem zAO2 : Cond.arrayOver (.object "HarpFences$Image") ∈ lw_tbl := List.mem_of_getElem? (i := 287) (by decide +kernel)
theorem zarrP {ty : FieldType} {s : State} {args : Array Value} (h : (Cond.arrayClass ty).before args s = true) (hr : ∀ c, s.vm.findClass ("[" ++ ty.toString) = some c → va_RA s c ty) : ∃ c : ClassId, ArrOfT s c ty ∧ va_RA s c ty := by
  obtain ⟨c, k, comp, h1, h2, h3⟩ := Cond.arrayClass_spec h
  exact ⟨c, fun n z => ⟨fun k h => (by cases h), k, h2, comp, h3⟩, hr c h1⟩
theorem zarrO {C : String} {s : State} {args : Array Value} (h : (Cond.arrayOver (.object C)).before args s = true) : ∃ c : ClassId, ArrOfT s c (.object C) ∧ va_RA s c (.object C) := by
  obtain ⟨comp, c, k, h1, h2, h3, h4, h5⟩ := Cond.arrayOver_spec h
  exact ⟨c, fun n z => ⟨fun k h => (by cases h), k, h3, comp, h4⟩, k, comp, h3, h4, h1, h5⟩
set_option maxHeartbeats 4000000 in
theorem zwhole (hz : ∀ (L : Nat) (xs : Nat → Int32), L ≤ 3584 → ∃ h' : zHp, zev (L, xs) (185, 0, zent [.retAddr 0] 4, [], zh0) = some (.int 1, h') ∧ h'.1 = 197)
    {p : Program} {e : Env} {s : State} {m : MethodId} {below : List Frame} {meth : Method} {c : Code} (l : Launch) {b L : Nat} {xs : Nat → Int32} (hL : L ≤ 3584) (C0 : lw_At p s m meth c b L xs) : W p l e room_1 s m #[Value.ref b] below meth c s.heap [] 0 0 (lw_Z below #[Value.ref b] s) (entryFrame m ([Value.ref b] : List Value).toArray 4) := by
  obtain ⟨hx, hb, hr, hml, hown, hts, hX, hbl, hlocks, hgv⟩ := id C0
  obtain ⟨h', hev, hn⟩ := hz L xs hL
  obtain ⟨n, hrun⟩ := zev_iff.mp hev
  have htz : ∀ w ∈ zTB, w.before #[Value.ref b] s = true := fun w h => hts w (zmem_tbl h)
  have hkn : ∀ (ci : Nat) (r : vw_C), zCl[ci]? = some r → ∃ (cC : ClassId) (iS : Nat → Nat), u_Kn s r.1 r.2.1 r.2.2 cC iS := by
    intro ci r hr
    obtain ⟨-, hck⟩ := zCK_of hr
    exact u_known (n := r.2.2) htz hck.1 (htz _ hck.2.2.2.1)
  obtain ⟨dC, dI, hKc⟩ : ∃ (dC : Nat → ClassId) (dI : Nat → Nat → Nat), ∀ (ci : Nat) (r : vw_C), zCl[ci]? = some r → u_Kn s r.1 r.2.1 r.2.2 (dC ci) (dI ci) := by
    have key : ∀ ci : Nat, ∃ (cC : ClassId) (iS : Nat → Nat), ∀ r, zCl[ci]? = some r → u_Kn s r.1 r.2.1 r.2.2 cC iS := by
      intro ci
      cases h : zCl[ci]? with
      | none => exact ⟨0, fun _ => 0, fun r h => by cases h⟩
      | some r =>
        obtain ⟨cC, iS, hk⟩ := hkn ci r h
        exact ⟨cC, iS, fun r' h' => by cases h'; exact hk⟩
    exact ⟨fun ci => (key ci).choose, fun ci => (key ci).choose_spec.choose, fun ci r hr => (key ci).choose_spec.choose_spec r hr⟩
  obtain ⟨cI, hI1, hI2⟩ := zarrP (htz _ zaci) (fun c q => q)
  obtain ⟨cB, hB1, hB2⟩ := zarrP (htz _ zacb) (fun c q => q)
  obtain ⟨cZ, hZ1, hZ2⟩ := zarrP (htz _ zacz) (fun c q => q)
  obtain ⟨cS, hS1, hS2⟩ := zarrO (hts _ zAO1)
  obtain ⟨cM, hM1, hM2⟩ := zarrO (hts _ zAO2)
  have hS := zsnd l (L, xs) n _ _ hrun
  have hK : va_K (dC, dI) zCl (ztys ((dC, dI), cI, cB, cZ, cS, cM, s.heap.size, b)) s := by
    refine ⟨hKc, fun k q hk => ?_⟩
    match k, hk with
    | 0, hk => cases hk; exact ⟨hI1, hI2⟩
    | 1, hk => cases hk; exact ⟨hB1, hB2⟩
    | 2, hk => cases hk; exact ⟨hZ1, hZ2⟩
    | 3, hk => cases hk; exact ⟨hS1, hS2⟩
    | 4, hk => cases hk; exact ⟨hM1, hM2⟩
    | k + 5, hk => simp [ztys] at hk
  have hN : zNw s := by
    refine ⟨fun w hw => ?_, va_AO.of (hts _ zAO1), va_AO.of (hts _ zAO2)⟩
    have h1 := hts w (List.mem_filter.mp hw).1
    have h2 := (List.mem_filter.mp hw).2
    cases w <;> first | exact va_Nw.of rfl h1 | cases h2
  rw [lg_entry_eq]
  have hLs := zLs_ent (g := ((dC, dI), cI, cB, cZ, cS, cM, s.heap.size, b)) (k := 185) (n := 4) (as := [.retAddr 0]) rfl (by decide)
  have hn0 : h'.1 - 0 = 197 := by omega
  refine hS (yL_law, cL_law, 4, some .boolean, 12, 9, 310) ((dC, dI), cI, cB, cZ, cS, cM, s.heap.size, b) s.heap [] 0 0 _ _ rfl ⟨hx, hb, hml, hown, htz, hK, hN, ⟨hX, hbl⟩, Nat.le_refl _, fun q => absurd q (by decide), Nat.le_refl _, Nat.le_refl _⟩ ⟨rfl, fun k q hk => by simp [zW] at hk⟩ va_S.rf hLs rfl ?_ ?_ ?_
  · show 0 + (h'.1 - 0) ≤ 600000
    omega
  · show 0 + (zSL h'.1 - zSL 0) ≤ 7302250
    rw [hn, zSL_197]
    exact Nat.le_of_ble_eq_true rfl
  · intro pcR lsR H2 locs2 q1 q2 q3
    refine va_forget (fun q hq => q3.2.2 q hq) ?_
    refine W.widen (k := 600000) (n := 7302250) ?_ ?_ ?_
    · show 0 + (h'.1 - 0) ≤ 600000
      omega
    · show 0 + (zSL h'.1 - zSL 0) ≤ 7302250
      rw [hn, zSL_197]
      exact Nat.le_of_ble_eq_true rfl
    · rcases q1 with ⟨r, hr1, hd, -⟩ | ⟨r, hr1, -⟩ | ⟨hr1, -⟩
      · cases hr1
        exact lw_ret hx hb hr hlocks hd
      · cases hr1
      · cases hr1
