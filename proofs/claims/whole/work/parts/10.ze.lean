/-! one instruction of the interpreter, as an equation -/
theorem zok_of {n a c : Nat} (h : zok n a c = true) : zok n a c = true := h
section ZE
variable {sc : zScr} {k pc : Nat} {ls : List (Option Value)} {st : List Value} {h : zHp} {M : zMe}
theorem ze_step {ins : Instr} {len : Nat} (hM : zM k = some M) (hd : decode M.2.1 pc = .ok (ins, len)) (hl : len = zlen ins len) : zev sc (k, pc, ls, st, h) = zstp (zev sc) (zins sc k M pc ls st h ins) := by
  rw [zev_eq]
  unfold zact
  dsimp only
  rw [hM]
  dsimp only
  rw [hd]
  dsimp only
  rw [if_pos hl]
theorem ze_go {ins : Instr} {len : Nat} {s' : zSt} (hM : zM k = some M) (hd : decode M.2.1 pc = .ok (ins, len)) (hl : len = zlen ins len) (hz : zins sc k M pc ls st h ins = some (.inr (.inl s'))) : zev sc (k, pc, ls, st, h) = zev sc s' := by
  rw [ze_step hM hd hl, hz]
  rfl
theorem ze_ret {ins : Instr} {len : Nat} {r : zRs} (hM : zM k = some M) (hd : decode M.2.1 pc = .ok (ins, len)) (hl : len = zlen ins len) (hz : zins sc k M pc ls st h ins = some (.inl r)) : zev sc (k, pc, ls, st, h) = some r := by
  rw [ze_step hM hd hl, hz]
  rfl
theorem ze_call {ins : Instr} {len : Nat} {sf : zSt × (zRs → zSt)} (hM : zM k = some M) (hd : decode M.2.1 pc = .ok (ins, len)) (hl : len = zlen ins len) (hz : zins sc k M pc ls st h ins = some (.inr (.inr sf))) : zev sc (k, pc, ls, st, h) = (zev sc sf.1).bind (fun x => zev sc (sf.2 x)) := by
  rw [ze_step hM hd hl, hz]
  rfl
theorem ze_aload_n {j : Fin 4} {a : Nat} (pc' : Nat) (hM : zM k = some M) (hd : decode M.2.1 pc = .ok (.aload_n j, 1)) (hl : ls[j.val]? = some (some (.ref a))) (hp : pc + 1 = pc') : zev sc (k, pc, ls, st, h) = zev sc (k, pc', ls, .ref a :: st, h) := by
  subst hp; exact ze_go hM hd rfl (by simp only [zins, hl]; rfl)
theorem ze_aload_s {j : Fin 4} {a : Nat} (pc' : Nat) (hM : zM k = some M) (hd : decode M.2.1 pc = .ok (.aload_n j, 1)) (hl : ls[j.val]? = some (some (.retAddr a))) (hp : pc + 1 = pc') : zev sc (k, pc, ls, st, h) = zev sc (k, pc', ls, .retAddr a :: st, h) := by
  subst hp; exact ze_go hM hd rfl (by simp only [zins, hl]; rfl)
theorem ze_aload {j : Nat} {a : Nat} (pc' : Nat) (hM : zM k = some M) (hd : decode M.2.1 pc = .ok (.aload j, 2)) (hl : ls[j]? = some (some (.ref a))) (hp : pc + 2 = pc') : zev sc (k, pc, ls, st, h) = zev sc (k, pc', ls, .ref a :: st, h) := by
  subst hp; exact ze_go hM hd rfl (by simp only [zins, hl]; rfl)
theorem ze_iload_n {j : Fin 4} {x : Int32} (pc' : Nat) (hM : zM k = some M) (hd : decode M.2.1 pc = .ok (.iload_n j, 1)) (hl : ls[j.val]? = some (some (.int x))) (hp : pc + 1 = pc') : zev sc (k, pc, ls, st, h) = zev sc (k, pc', ls, .int x :: st, h) := by
  subst hp; exact ze_go hM hd rfl (by simp only [zins, hl]; rfl)
theorem ze_iload {j : Nat} {x : Int32} (pc' : Nat) (hM : zM k = some M) (hd : decode M.2.1 pc = .ok (.iload j, 2)) (hl : ls[j]? = some (some (.int x))) (hp : pc + 2 = pc') : zev sc (k, pc, ls, st, h) = zev sc (k, pc', ls, .int x :: st, h) := by
  subst hp; exact ze_go hM hd rfl (by simp only [zins, hl]; rfl)
theorem ze_lload {j : Nat} {x : Int64} (pc' : Nat) (hM : zM k = some M) (hd : decode M.2.1 pc = .ok (.lload j, 2)) (hl : ls[j]? = some (some (.long x))) (hp : pc + 2 = pc') : zev sc (k, pc, ls, st, h) = zev sc (k, pc', ls, .long x :: st, h) := by
  subst hp; exact ze_go hM hd rfl (by simp only [zins, hl]; rfl)
theorem zset_of {A j : Nat} {v : Value} {ls' : List (Option Value)} (hA : zLA k = A) (h1 : Nat.beq j A = false) (h2 : Nat.beq j (A + 1) = false) (h3 : Nat.ble (j + 1) ls.length = true) (h4 : ls.set j (some v) = ls') : zset k ls j v = some ls' := by
  unfold zset
  rw [hA, if_neg ?_, h4]
  rintro (e | e | e)
  · exact Nat.ne_of_beq_eq_false h1 e
  · exact Nat.ne_of_beq_eq_false h2 e
  · have := Nat.le_of_ble_eq_true h3
    omega
theorem ze_istore_n {j : Fin 4} {x : Int32} {A : Nat} {ls' : List (Option Value)} (pc' : Nat) (hM : zM k = some M) (hd : decode M.2.1 pc = .ok (.istore_n j, 1)) (hA : zLA k = A) (h1 : Nat.beq j.val A = false) (h2 : Nat.beq j.val (A + 1) = false) (h3 : Nat.ble (j.val + 1) ls.length = true) (h4 : ls.set j.val (some (.int x)) = ls') (hp : pc + 1 = pc') : zev sc (k, pc, ls, .int x :: st, h) = zev sc (k, pc', ls', st, h) := by
  subst hp; exact ze_go hM hd rfl (by simp only [zins, zset_of hA h1 h2 h3 h4]; rfl)
theorem ze_istore {j : Nat} {x : Int32} {A : Nat} {ls' : List (Option Value)} (pc' : Nat) (hM : zM k = some M) (hd : decode M.2.1 pc = .ok (.istore j, 2)) (hA : zLA k = A) (h1 : Nat.beq j A = false) (h2 : Nat.beq j (A + 1) = false) (h3 : Nat.ble (j + 1) ls.length = true) (h4 : ls.set j (some (.int x)) = ls') (hp : pc + 2 = pc') : zev sc (k, pc, ls, .int x :: st, h) = zev sc (k, pc', ls', st, h) := by
  subst hp; exact ze_go hM hd rfl (by simp only [zins, zset_of hA h1 h2 h3 h4]; rfl)
theorem ze_astore_n {j : Fin 4} {x : Nat} {A : Nat} {ls' : List (Option Value)} (pc' : Nat) (hM : zM k = some M) (hd : decode M.2.1 pc = .ok (.astore_n j, 1)) (hA : zLA k = A) (h1 : Nat.beq j.val A = false) (h2 : Nat.beq j.val (A + 1) = false) (h3 : Nat.ble (j.val + 1) ls.length = true) (h4 : ls.set j.val (some (.ref x)) = ls') (hp : pc + 1 = pc') : zev sc (k, pc, ls, .ref x :: st, h) = zev sc (k, pc', ls', st, h) := by
  subst hp; exact ze_go hM hd rfl (by simp only [zins, zset_of hA h1 h2 h3 h4]; rfl)
theorem ze_astore {j : Nat} {x : Nat} {A : Nat} {ls' : List (Option Value)} (pc' : Nat) (hM : zM k = some M) (hd : decode M.2.1 pc = .ok (.astore j, 2)) (hA : zLA k = A) (h1 : Nat.beq j A = false) (h2 : Nat.beq j (A + 1) = false) (h3 : Nat.ble (j + 1) ls.length = true) (h4 : ls.set j (some (.ref x)) = ls') (hp : pc + 2 = pc') : zev sc (k, pc, ls, .ref x :: st, h) = zev sc (k, pc', ls', st, h) := by
  subst hp; exact ze_go hM hd rfl (by simp only [zins, zset_of hA h1 h2 h3 h4]; rfl)
theorem ze_lstore {j : Nat} {x : Int64} {ls' : List (Option Value)} (pc' : Nat) (hM : zM k = some M) (hd : decode M.2.1 pc = .ok (.lstore j, 2)) (hA : zLA k = j) (h3 : Nat.ble (j + 2) M.2.2.1 = true) (h4 : (ls.set j (some (.long x))).set (j + 1) none = ls') (hp : pc + 2 = pc') : zev sc (k, pc, ls, .long x :: st, h) = zev sc (k, pc', ls', st, h) := by
  subst hp; exact ze_go hM hd rfl (by simp only [zins]; rw [if_pos ⟨hA.symm, Nat.le_of_ble_eq_true h3⟩, h4]; rfl)
theorem ze_iinc {j : Nat} {c : Int} {x v : Int32} {A : Nat} {ls' : List (Option Value)} (pc' : Nat) (hM : zM k = some M) (hd : decode M.2.1 pc = .ok (.iinc j c, 3)) (hl : ls[j]? = some (some (.int x))) (hv : Int32.ofInt c = v) (hA : zLA k = A) (h1 : Nat.beq j A = false) (h2 : Nat.beq j (A + 1) = false) (h3 : Nat.ble (j + 1) ls.length = true) (h4 : ls.set j (some (.int (x + v))) = ls') (hp : pc + 3 = pc') : zev sc (k, pc, ls, st, h) = zev sc (k, pc', ls', st, h) := by
  subst hp; subst hv; exact ze_go hM hd rfl (by simp only [zins, hl, zset_of hA h1 h2 h3 h4]; rfl)
theorem ze_iconst {n : Int} {v : Int32} (pc' : Nat) (hM : zM k = some M) (hd : decode M.2.1 pc = .ok (.iconst n, 1)) (hv : Int32.ofInt n = v) (hp : pc + 1 = pc') : zev sc (k, pc, ls, st, h) = zev sc (k, pc', ls, .int v :: st, h) := by
  subst hp; subst hv; exact ze_go hM hd rfl rfl
theorem ze_bipush {n : Int} {v : Int32} (pc' : Nat) (hM : zM k = some M) (hd : decode M.2.1 pc = .ok (.bipush n, 2)) (hv : (Int8.ofInt n).toInt32 = v) (hp : pc + 2 = pc') : zev sc (k, pc, ls, st, h) = zev sc (k, pc', ls, .int v :: st, h) := by
  subst hp; subst hv; exact ze_go hM hd rfl rfl
theorem ze_sipush {n : Int} {v : Int32} (pc' : Nat) (hM : zM k = some M) (hd : decode M.2.1 pc = .ok (.sipush n, 3)) (hv : (Int16.ofInt n).toInt32 = v) (hp : pc + 3 = pc') : zev sc (k, pc, ls, st, h) = zev sc (k, pc', ls, .int v :: st, h) := by
  subst hp; subst hv; exact ze_go hM hd rfl rfl
theorem ze_lconst {n : Fin 2} {v : Int64} (pc' : Nat) (hM : zM k = some M) (hd : decode M.2.1 pc = .ok (.lconst n, 1)) (hv : Int64.ofNat n.val = v) (hp : pc + 1 = pc') : zev sc (k, pc, ls, st, h) = zev sc (k, pc', ls, .long v :: st, h) := by
  subst hp; subst hv; exact ze_go hM hd rfl rfl
theorem ze_ldc {n : Nat} {v : Int32} (pc' : Nat) (hM : zM k = some M) (hd : decode M.2.1 pc = .ok (.ldc n, 2)) (hv : zI M.2.2.2.2.1 n = some v) (hp : pc + 2 = pc') : zev sc (k, pc, ls, st, h) = zev sc (k, pc', ls, .int v :: st, h) := by
  subst hp; exact ze_go hM hd rfl (by simp only [zins, hv]; rfl)
theorem ze_ldc_w {n : Nat} {v : Int32} (pc' : Nat) (hM : zM k = some M) (hd : decode M.2.1 pc = .ok (.ldc_w n, 3)) (hv : zI M.2.2.2.2.1 n = some v) (hp : pc + 3 = pc') : zev sc (k, pc, ls, st, h) = zev sc (k, pc', ls, .int v :: st, h) := by
  subst hp; exact ze_go hM hd rfl (by simp only [zins, hv]; rfl)
theorem ze_ldc2_w {n : Nat} {v : Int64} (pc' : Nat) (hM : zM k = some M) (hd : decode M.2.1 pc = .ok (.ldc2_w n, 3)) (hv : zL M.2.2.2.2.1 n = some v) (hp : pc + 3 = pc') : zev sc (k, pc, ls, st, h) = zev sc (k, pc', ls, .long v :: st, h) := by
  subst hp; exact ze_go hM hd rfl (by simp only [zins, hv]; rfl)
theorem ze_iadd {x y : Int32} (pc' : Nat) (hM : zM k = some M) (hd : decode M.2.1 pc = .ok (.iadd, 1)) (hp : pc + 1 = pc') : zev sc (k, pc, ls, .int y :: .int x :: st, h) = zev sc (k, pc', ls, .int (x + y) :: st, h) := by
  subst hp; exact ze_go hM hd rfl rfl
theorem ze_isub {x y : Int32} (pc' : Nat) (hM : zM k = some M) (hd : decode M.2.1 pc = .ok (.isub, 1)) (hp : pc + 1 = pc') : zev sc (k, pc, ls, .int y :: .int x :: st, h) = zev sc (k, pc', ls, .int (x - y) :: st, h) := by
  subst hp; exact ze_go hM hd rfl rfl
theorem ze_imul {x y : Int32} (pc' : Nat) (hM : zM k = some M) (hd : decode M.2.1 pc = .ok (.imul, 1)) (hp : pc + 1 = pc') : zev sc (k, pc, ls, .int y :: .int x :: st, h) = zev sc (k, pc', ls, .int (x * y) :: st, h) := by
  subst hp; exact ze_go hM hd rfl rfl
theorem ze_ishl {x y : Int32} (pc' : Nat) (hM : zM k = some M) (hd : decode M.2.1 pc = .ok (.ishl, 1)) (hp : pc + 1 = pc') : zev sc (k, pc, ls, .int y :: .int x :: st, h) = zev sc (k, pc', ls, .int (x <<< (y &&& 31)) :: st, h) := by
  subst hp; exact ze_go hM hd rfl rfl
theorem ze_ishr {x y : Int32} (pc' : Nat) (hM : zM k = some M) (hd : decode M.2.1 pc = .ok (.ishr, 1)) (hp : pc + 1 = pc') : zev sc (k, pc, ls, .int y :: .int x :: st, h) = zev sc (k, pc', ls, .int (x >>> (y &&& 31)) :: st, h) := by
  subst hp; exact ze_go hM hd rfl rfl
theorem ze_iushr {x y : Int32} (pc' : Nat) (hM : zM k = some M) (hd : decode M.2.1 pc = .ok (.iushr, 1)) (hp : pc + 1 = pc') : zev sc (k, pc, ls, .int y :: .int x :: st, h) = zev sc (k, pc', ls, .int ((x.toUInt32 >>> (y.toUInt32 &&& Int32.toUInt32 31)).toInt32) :: st, h) := by
  subst hp; exact ze_go hM hd rfl rfl
theorem ze_iand {x y : Int32} (pc' : Nat) (hM : zM k = some M) (hd : decode M.2.1 pc = .ok (.iand, 1)) (hp : pc + 1 = pc') : zev sc (k, pc, ls, .int y :: .int x :: st, h) = zev sc (k, pc', ls, .int (x &&& y) :: st, h) := by
  subst hp; exact ze_go hM hd rfl rfl
theorem ze_ior {x y : Int32} (pc' : Nat) (hM : zM k = some M) (hd : decode M.2.1 pc = .ok (.ior, 1)) (hp : pc + 1 = pc') : zev sc (k, pc, ls, .int y :: .int x :: st, h) = zev sc (k, pc', ls, .int (x ||| y) :: st, h) := by
  subst hp; exact ze_go hM hd rfl rfl
theorem ze_ixor {x y : Int32} (pc' : Nat) (hM : zM k = some M) (hd : decode M.2.1 pc = .ok (.ixor, 1)) (hp : pc + 1 = pc') : zev sc (k, pc, ls, .int y :: .int x :: st, h) = zev sc (k, pc', ls, .int (x ^^^ y) :: st, h) := by
  subst hp; exact ze_go hM hd rfl rfl
theorem ze_idiv {x y : Int32} (pc' : Nat) (hM : zM k = some M) (hd : decode M.2.1 pc = .ok (.idiv, 1)) (hy : ¬ y = 0) (hp : pc + 1 = pc') : zev sc (k, pc, ls, .int y :: .int x :: st, h) = zev sc (k, pc', ls, .int (x / y) :: st, h) := by
  subst hp; exact ze_go hM hd rfl (by simp only [zins]; rw [if_neg hy]; rfl)
theorem ze_irem {x y : Int32} (pc' : Nat) (hM : zM k = some M) (hd : decode M.2.1 pc = .ok (.irem, 1)) (hy : ¬ y = 0) (hp : pc + 1 = pc') : zev sc (k, pc, ls, .int y :: .int x :: st, h) = zev sc (k, pc', ls, .int (x - x / y * y) :: st, h) := by
  subst hp; exact ze_go hM hd rfl (by simp only [zins]; rw [if_neg hy]; rfl)
theorem ze_ladd {x y : Int64} (pc' : Nat) (hM : zM k = some M) (hd : decode M.2.1 pc = .ok (.ladd, 1)) (hp : pc + 1 = pc') : zev sc (k, pc, ls, .long y :: .long x :: st, h) = zev sc (k, pc', ls, .long (x + y) :: st, h) := by
  subst hp; exact ze_go hM hd rfl rfl
theorem ze_lmul {x y : Int64} (pc' : Nat) (hM : zM k = some M) (hd : decode M.2.1 pc = .ok (.lmul, 1)) (hp : pc + 1 = pc') : zev sc (k, pc, ls, .long y :: .long x :: st, h) = zev sc (k, pc', ls, .long (x * y) :: st, h) := by
  subst hp; exact ze_go hM hd rfl rfl
theorem ze_lcmp {x y : Int64} (pc' : Nat) (hM : zM k = some M) (hd : decode M.2.1 pc = .ok (.lcmp, 1)) (hp : pc + 1 = pc') : zev sc (k, pc, ls, .long y :: .long x :: st, h) = zev sc (k, pc', ls, .int (lg_cmp x y) :: st, h) := by
  subst hp; exact ze_go hM hd rfl rfl
theorem ze_i2b {x : Int32} (pc' : Nat) (hM : zM k = some M) (hd : decode M.2.1 pc = .ok (.i2b, 1)) (hp : pc + 1 = pc') : zev sc (k, pc, ls, .int x :: st, h) = zev sc (k, pc', ls, .int x.toInt8.toInt32 :: st, h) := by
  subst hp; exact ze_go hM hd rfl rfl
theorem ze_dup {v : Value} (pc' : Nat) (hM : zM k = some M) (hd : decode M.2.1 pc = .ok (.dup, 1)) (hv : v.category = 1) (hp : pc + 1 = pc') : zev sc (k, pc, ls, v :: st, h) = zev sc (k, pc', ls, v :: v :: st, h) := by
  subst hp; exact ze_go hM hd rfl (by simp only [zins]; rw [if_pos hv]; rfl)
theorem ze_dup2 {v w : Value} (pc' : Nat) (hM : zM k = some M) (hd : decode M.2.1 pc = .ok (.dup2, 1)) (hv : v.category = 1) (hw : w.category = 1) (hp : pc + 1 = pc') : zev sc (k, pc, ls, v :: w :: st, h) = zev sc (k, pc', ls, v :: w :: v :: w :: st, h) := by
  subst hp; exact ze_go hM hd rfl (by simp only [zins]; rw [if_pos ⟨hv, hw⟩]; rfl)
theorem zTg_of {pc t : Nat} {off : Int} (h : (pc : Int) + off = (t : Int)) : zTg pc off = some t := by
  unfold zTg
  rw [h]
theorem ze_goto {off : Int} (t : Nat) (hM : zM k = some M) (hd : decode M.2.1 pc = .ok (.goto off, 3)) (ht : (pc : Int) + off = (t : Int)) : zev sc (k, pc, ls, st, h) = zev sc (k, t, ls, st, h) :=
  ze_go hM hd rfl (by simp only [zins, zTg_of ht]; rfl)
theorem ze_if_eq {x : Int32} {off : Int} (t pc' : Nat) (hM : zM k = some M) (hd : decode M.2.1 pc = .ok (.ifCond .eq off, 3)) (ht : (pc : Int) + off = (t : Int)) (hp : pc + 3 = pc') : zev sc (k, pc, ls, .int x :: st, h) = if x = 0 then zev sc (k, t, ls, st, h) else zev sc (k, pc', ls, st, h) := by
  subst hp
  by_cases hq : x = 0
  · rw [if_pos hq]
    exact ze_go hM hd rfl (by simp only [zins, zTg_of ht]; rw [if_pos (by simp [zcmp, hq])]; rfl)
  · rw [if_neg hq]
    exact ze_go hM hd rfl (by simp only [zins, zTg_of ht]; rw [if_neg (by simp [zcmp, hq])]; rfl)
theorem ze_icmp_eq {x y : Int32} {off : Int} (t pc' : Nat) (hM : zM k = some M) (hd : decode M.2.1 pc = .ok (.if_icmp .eq off, 3)) (ht : (pc : Int) + off = (t : Int)) (hp : pc + 3 = pc') : zev sc (k, pc, ls, .int y :: .int x :: st, h) = if x = y then zev sc (k, t, ls, st, h) else zev sc (k, pc', ls, st, h) := by
  subst hp
  by_cases hq : x = y
  · rw [if_pos hq]
    exact ze_go hM hd rfl (by simp only [zins, zTg_of ht]; rw [if_pos (by simp [zcmp, hq])]; rfl)
  · rw [if_neg hq]
    exact ze_go hM hd rfl (by simp only [zins, zTg_of ht]; rw [if_neg (by simp [zcmp, hq])]; rfl)
theorem ze_if_ne {x : Int32} {off : Int} (t pc' : Nat) (hM : zM k = some M) (hd : decode M.2.1 pc = .ok (.ifCond .ne off, 3)) (ht : (pc : Int) + off = (t : Int)) (hp : pc + 3 = pc') : zev sc (k, pc, ls, .int x :: st, h) = if x = 0 then zev sc (k, pc', ls, st, h) else zev sc (k, t, ls, st, h) := by
  subst hp
  by_cases hq : x = 0
  · rw [if_pos hq]
    exact ze_go hM hd rfl (by simp only [zins, zTg_of ht]; rw [if_neg (by simp [zcmp, hq])]; rfl)
  · rw [if_neg hq]
    exact ze_go hM hd rfl (by simp only [zins, zTg_of ht]; rw [if_pos (by simp [zcmp, hq])]; rfl)
theorem ze_icmp_ne {x y : Int32} {off : Int} (t pc' : Nat) (hM : zM k = some M) (hd : decode M.2.1 pc = .ok (.if_icmp .ne off, 3)) (ht : (pc : Int) + off = (t : Int)) (hp : pc + 3 = pc') : zev sc (k, pc, ls, .int y :: .int x :: st, h) = if x = y then zev sc (k, pc', ls, st, h) else zev sc (k, t, ls, st, h) := by
  subst hp
  by_cases hq : x = y
  · rw [if_pos hq]
    exact ze_go hM hd rfl (by simp only [zins, zTg_of ht]; rw [if_neg (by simp [zcmp, hq])]; rfl)
  · rw [if_neg hq]
    exact ze_go hM hd rfl (by simp only [zins, zTg_of ht]; rw [if_pos (by simp [zcmp, hq])]; rfl)
theorem ze_if_lt {x : Int32} {off : Int} (t pc' : Nat) (hM : zM k = some M) (hd : decode M.2.1 pc = .ok (.ifCond .lt off, 3)) (ht : (pc : Int) + off = (t : Int)) (hp : pc + 3 = pc') : zev sc (k, pc, ls, .int x :: st, h) = if x < 0 then zev sc (k, t, ls, st, h) else zev sc (k, pc', ls, st, h) := by
  subst hp
  by_cases hq : x < 0
  · rw [if_pos hq]
    exact ze_go hM hd rfl (by simp only [zins, zTg_of ht]; rw [if_pos (by simp [zcmp, hq])]; rfl)
  · rw [if_neg hq]
    exact ze_go hM hd rfl (by simp only [zins, zTg_of ht]; rw [if_neg (by simp [zcmp, hq])]; rfl)
theorem ze_icmp_lt {x y : Int32} {off : Int} (t pc' : Nat) (hM : zM k = some M) (hd : decode M.2.1 pc = .ok (.if_icmp .lt off, 3)) (ht : (pc : Int) + off = (t : Int)) (hp : pc + 3 = pc') : zev sc (k, pc, ls, .int y :: .int x :: st, h) = if x < y then zev sc (k, t, ls, st, h) else zev sc (k, pc', ls, st, h) := by
  subst hp
  by_cases hq : x < y
  · rw [if_pos hq]
    exact ze_go hM hd rfl (by simp only [zins, zTg_of ht]; rw [if_pos (by simp [zcmp, hq])]; rfl)
  · rw [if_neg hq]
    exact ze_go hM hd rfl (by simp only [zins, zTg_of ht]; rw [if_neg (by simp [zcmp, hq])]; rfl)
theorem ze_if_ge {x : Int32} {off : Int} (t pc' : Nat) (hM : zM k = some M) (hd : decode M.2.1 pc = .ok (.ifCond .ge off, 3)) (ht : (pc : Int) + off = (t : Int)) (hp : pc + 3 = pc') : zev sc (k, pc, ls, .int x :: st, h) = if 0 ≤ x then zev sc (k, t, ls, st, h) else zev sc (k, pc', ls, st, h) := by
  subst hp
  by_cases hq : 0 ≤ x
  · rw [if_pos hq]
    exact ze_go hM hd rfl (by simp only [zins, zTg_of ht]; rw [if_pos (by simp [zcmp, hq])]; rfl)
  · rw [if_neg hq]
    exact ze_go hM hd rfl (by simp only [zins, zTg_of ht]; rw [if_neg (by simp [zcmp, hq])]; rfl)
theorem ze_icmp_ge {x y : Int32} {off : Int} (t pc' : Nat) (hM : zM k = some M) (hd : decode M.2.1 pc = .ok (.if_icmp .ge off, 3)) (ht : (pc : Int) + off = (t : Int)) (hp : pc + 3 = pc') : zev sc (k, pc, ls, .int y :: .int x :: st, h) = if y ≤ x then zev sc (k, t, ls, st, h) else zev sc (k, pc', ls, st, h) := by
  subst hp
  by_cases hq : y ≤ x
  · rw [if_pos hq]
    exact ze_go hM hd rfl (by simp only [zins, zTg_of ht]; rw [if_pos (by simp [zcmp, hq])]; rfl)
  · rw [if_neg hq]
    exact ze_go hM hd rfl (by simp only [zins, zTg_of ht]; rw [if_neg (by simp [zcmp, hq])]; rfl)
theorem ze_if_gt {x : Int32} {off : Int} (t pc' : Nat) (hM : zM k = some M) (hd : decode M.2.1 pc = .ok (.ifCond .gt off, 3)) (ht : (pc : Int) + off = (t : Int)) (hp : pc + 3 = pc') : zev sc (k, pc, ls, .int x :: st, h) = if 0 < x then zev sc (k, t, ls, st, h) else zev sc (k, pc', ls, st, h) := by
  subst hp
  by_cases hq : 0 < x
  · rw [if_pos hq]
    exact ze_go hM hd rfl (by simp only [zins, zTg_of ht]; rw [if_pos (by simp [zcmp, hq])]; rfl)
  · rw [if_neg hq]
    exact ze_go hM hd rfl (by simp only [zins, zTg_of ht]; rw [if_neg (by simp [zcmp, hq])]; rfl)
theorem ze_icmp_gt {x y : Int32} {off : Int} (t pc' : Nat) (hM : zM k = some M) (hd : decode M.2.1 pc = .ok (.if_icmp .gt off, 3)) (ht : (pc : Int) + off = (t : Int)) (hp : pc + 3 = pc') : zev sc (k, pc, ls, .int y :: .int x :: st, h) = if y < x then zev sc (k, t, ls, st, h) else zev sc (k, pc', ls, st, h) := by
  subst hp
  by_cases hq : y < x
  · rw [if_pos hq]
    exact ze_go hM hd rfl (by simp only [zins, zTg_of ht]; rw [if_pos (by simp [zcmp, hq])]; rfl)
  · rw [if_neg hq]
    exact ze_go hM hd rfl (by simp only [zins, zTg_of ht]; rw [if_neg (by simp [zcmp, hq])]; rfl)
theorem ze_if_le {x : Int32} {off : Int} (t pc' : Nat) (hM : zM k = some M) (hd : decode M.2.1 pc = .ok (.ifCond .le off, 3)) (ht : (pc : Int) + off = (t : Int)) (hp : pc + 3 = pc') : zev sc (k, pc, ls, .int x :: st, h) = if x ≤ 0 then zev sc (k, t, ls, st, h) else zev sc (k, pc', ls, st, h) := by
  subst hp
  by_cases hq : x ≤ 0
  · rw [if_pos hq]
    exact ze_go hM hd rfl (by simp only [zins, zTg_of ht]; rw [if_pos (by simp [zcmp, hq])]; rfl)
  · rw [if_neg hq]
    exact ze_go hM hd rfl (by simp only [zins, zTg_of ht]; rw [if_neg (by simp [zcmp, hq])]; rfl)
theorem ze_icmp_le {x y : Int32} {off : Int} (t pc' : Nat) (hM : zM k = some M) (hd : decode M.2.1 pc = .ok (.if_icmp .le off, 3)) (ht : (pc : Int) + off = (t : Int)) (hp : pc + 3 = pc') : zev sc (k, pc, ls, .int y :: .int x :: st, h) = if x ≤ y then zev sc (k, t, ls, st, h) else zev sc (k, pc', ls, st, h) := by
  subst hp
  by_cases hq : x ≤ y
  · rw [if_pos hq]
    exact ze_go hM hd rfl (by simp only [zins, zTg_of ht]; rw [if_pos (by simp [zcmp, hq])]; rfl)
  · rw [if_neg hq]
    exact ze_go hM hd rfl (by simp only [zins, zTg_of ht]; rw [if_neg (by simp [zcmp, hq])]; rfl)
theorem ze_table {d lo hi : Int} {offs : Array Int} {len : Nat} {x : Int32} {t : Nat} (hM : zM k = some M) (hd : decode M.2.1 pc = .ok (.tableswitch d lo hi offs, len)) (ht : zsw pc d lo hi offs x = some t) : zev sc (k, pc, ls, .int x :: st, h) = zev sc (k, t, ls, st, h) :=
  ze_go hM hd rfl (by simp only [zins, ht]; rfl)
theorem ze_lookup {d : Int} {ps : Array (Int × Int)} {len : Nat} {x : Int32} {t : Nat} (hM : zM k = some M) (hd : decode M.2.1 pc = .ok (.lookupswitch d ps, len)) (hs : (ps.toList.zip (ps.toList.drop 1)).all (fun (a, next) => a.1 < next.1) = true) (ht : zTg pc (Op.lookupswitch.offset ps.toList d x.toInt) = some t) : zev sc (k, pc, ls, .int x :: st, h) = zev sc (k, t, ls, st, h) :=
  ze_go hM hd rfl (by simp only [zins]; rw [if_pos hs, ht]; rfl)
/-- a switch by its list of cases -/
def zcs (x : Int32) (d : Nat) : List (Int32 × Nat) → Nat
  | [] => d
  | q :: l => if x = q.1 then q.2 else zcs x d l
theorem ze_getI {n ci j a : Nat} (pc' : Nat) (hM : zM k = some M) (hd : decode M.2.1 pc = .ok (.getfield n, 3)) (hF : zF M.2.2.2.2.1 n = some (ci, j)) (hk : zok h.1 a ci = true) (ht : zcl (zTy ci j) = 0 ∨ zcl (zTy ci j) = 3) (hp : pc + 3 = pc') : zev sc (k, pc, ls, .ref a :: st, h) = zev sc (k, pc', ls, .int (h.2.1 a j) :: st, h) := by
  subst hp
  refine ze_go hM hd rfl ?_
  simp only [zins, hF]
  rw [if_pos hk]
  rcases ht with ht | ht <;> rw [ht] <;> rfl
theorem ze_getL {n ci j a : Nat} (pc' : Nat) (hM : zM k = some M) (hd : decode M.2.1 pc = .ok (.getfield n, 3)) (hF : zF M.2.2.2.2.1 n = some (ci, j)) (hk : zok h.1 a ci = true) (ht : zcl (zTy ci j) = 1) (hp : pc + 3 = pc') : zev sc (k, pc, ls, .ref a :: st, h) = zev sc (k, pc', ls, .long (h.2.2.2 a j) :: st, h) := by
  subst hp
  refine ze_go hM hd rfl ?_
  simp only [zins, hF]
  rw [if_pos hk, ht]
  rfl
theorem ze_getR {n ci j a q : Nat} (pc' : Nat) (hM : zM k = some M) (hd : decode M.2.1 pc = .ok (.getfield n, 3)) (hF : zF M.2.2.2.2.1 n = some (ci, j)) (hk : zok h.1 a ci = true) (ht : zcl (zTy ci j) = 2) (hr : h.2.2.1 a j = some q) (hp : pc + 3 = pc') : zev sc (k, pc, ls, .ref a :: st, h) = zev sc (k, pc', ls, .ref q :: st, h) := by
  subst hp
  refine ze_go hM hd rfl ?_
  simp only [zins, hF]
  rw [if_pos hk, ht]
  simp only [hr]
  rfl
def zfin (M : zMe) (ci j : Nat) : Prop := (zCl[ci]?).map (fun r => (r.2.1 j).2.2.2) = some false ∨ ((zCl[ci]?).map (fun r => (r.2.1 j).2.2.2) = some true ∧ M.1.name = "<init>" ∧ (zCl[ci]?).map (fun r => (r.2.1 j).1) = some (zRN M.2.2.2.2.1))
theorem ze_putI {n ci j a : Nat} {x : Int32} (pc' : Nat) (hM : zM k = some M) (hd : decode M.2.1 pc = .ok (.putfield n, 3)) (hF : zF M.2.2.2.2.1 n = some (ci, j)) (hk : zok h.1 a ci = true) (hf : zfin M ci j) (ht : zcl (zTy ci j) = 0) (hp : pc + 3 = pc') : zev sc (k, pc, ls, .int x :: .ref a :: st, h) = zev sc (k, pc', ls, st, (h.1, zU h.2.1 a j x, h.2.2.1, h.2.2.2)) := by
  subst hp
  refine ze_go hM hd rfl ?_
  simp only [zins, hF]
  rw [if_pos ⟨hk, hf⟩, ht]
  rfl
theorem ze_putZ {n ci j a : Nat} {x : Int32} (pc' : Nat) (hM : zM k = some M) (hd : decode M.2.1 pc = .ok (.putfield n, 3)) (hF : zF M.2.2.2.2.1 n = some (ci, j)) (hk : zok h.1 a ci = true) (hf : zfin M ci j) (ht : zcl (zTy ci j) = 3) (hx : x = 0 ∨ x = 1) (hp : pc + 3 = pc') : zev sc (k, pc, ls, .int x :: .ref a :: st, h) = zev sc (k, pc', ls, st, (h.1, zU h.2.1 a j x, h.2.2.1, h.2.2.2)) := by
  subst hp
  refine ze_go hM hd rfl ?_
  simp only [zins, hF]
  rw [if_pos ⟨hk, hf⟩, ht]
  simp only [if_pos hx]
  rfl
theorem ze_putL {n ci j a : Nat} {x : Int64} (pc' : Nat) (hM : zM k = some M) (hd : decode M.2.1 pc = .ok (.putfield n, 3)) (hF : zF M.2.2.2.2.1 n = some (ci, j)) (hk : zok h.1 a ci = true) (hf : zfin M ci j) (ht : zcl (zTy ci j) = 1) (hp : pc + 3 = pc') : zev sc (k, pc, ls, .long x :: .ref a :: st, h) = zev sc (k, pc', ls, st, (h.1, h.2.1, h.2.2.1, zU h.2.2.2 a j x)) := by
  subst hp
  refine ze_go hM hd rfl ?_
  simp only [zins, hF]
  rw [if_pos ⟨hk, hf⟩, ht]
  rfl
theorem ze_putR {n ci j a x : Nat} (pc' : Nat) (hM : zM k = some M) (hd : decode M.2.1 pc = .ok (.putfield n, 3)) (hF : zF M.2.2.2.2.1 n = some (ci, j)) (hk : zok h.1 a ci = true) (hf : zfin M ci j) (ht : zcl (zTy ci j) = 2) (hp : pc + 3 = pc') : zev sc (k, pc, ls, .ref x :: .ref a :: st, h) = zev sc (k, pc', ls, st, (h.1, h.2.1, zU h.2.2.1 a j (some x), h.2.2.2)) := by
  subst hp
  refine ze_go hM hd rfl ?_
  simp only [zins, hF]
  rw [if_pos ⟨hk, hf⟩, ht]
  rfl
theorem ze_iaload {a N t : Nat} {j : Int32} (pc' : Nat) (hM : zM k = some M) (hd : decode M.2.1 pc = .ok (.iaload, 1)) (hk : zok h.1 a 100 = true) (hN : (zK a).2 = N) (hj : vp_in j N) (ht : j.toNatClampNeg = t) (hp : pc + 1 = pc') : zev sc (k, pc, ls, .int j :: .ref a :: st, h) = zev sc (k, pc', ls, .int (h.2.1 a t) :: st, h) := by
  subst hp; subst hN; subst ht; exact ze_go hM hd rfl (by simp only [zins]; rw [if_pos ⟨hk, hj⟩]; rfl)
theorem ze_saload {a : Nat} {j : Int32} (pc' : Nat) (hM : zM k = some M) (hd : decode M.2.1 pc = .ok (.iaload, 1)) (hj : vp_in j sc.1) (hp : pc + 1 = pc') : zev sc (k, pc, ls, .int j :: .retAddr a :: st, h) = zev sc (k, pc', ls, .int (sc.2 j.toNatClampNeg) :: st, h) := by
  subst hp; exact ze_go hM hd rfl (by simp only [zins]; rw [if_pos (show ¬ (j < 0 ∨ sc.1 ≤ j.toNatClampNeg) from hj)]; rfl)
theorem ze_slen {a : Nat} (pc' : Nat) (hM : zM k = some M) (hd : decode M.2.1 pc = .ok (.arraylength, 1)) (hp : pc + 1 = pc') : zev sc (k, pc, ls, .retAddr a :: st, h) = zev sc (k, pc', ls, .int (Int32.ofNat sc.1) :: st, h) := by
  subst hp; exact ze_go hM hd rfl rfl
theorem ze_baload {a N t : Nat} {j : Int32} (pc' : Nat) (hM : zM k = some M) (hd : decode M.2.1 pc = .ok (.baload, 1)) (hk : zok h.1 a 101 = true ∨ zok h.1 a 102 = true) (hN : (zK a).2 = N) (hj : vp_in j N) (ht : j.toNatClampNeg = t) (hp : pc + 1 = pc') : zev sc (k, pc, ls, .int j :: .ref a :: st, h) = zev sc (k, pc', ls, .int (h.2.1 a t) :: st, h) := by
  subst hp; subst hN; subst ht; exact ze_go hM hd rfl (by simp only [zins]; rw [if_pos ⟨hk, hj⟩]; rfl)
theorem ze_iastore {a N t : Nat} {j x : Int32} (pc' : Nat) (hM : zM k = some M) (hd : decode M.2.1 pc = .ok (.iastore, 1)) (hk : zok h.1 a 100 = true) (hN : (zK a).2 = N) (hj : vp_in j N) (ht : j.toNatClampNeg = t) (hp : pc + 1 = pc') : zev sc (k, pc, ls, .int x :: .int j :: .ref a :: st, h) = zev sc (k, pc', ls, st, (h.1, zU h.2.1 a t x, h.2.2.1, h.2.2.2)) := by
  subst hp; subst hN; subst ht; exact ze_go hM hd rfl (by simp only [zins]; rw [if_pos ⟨hk, hj⟩]; rfl)
theorem ze_bastoreB {a N t : Nat} {j x : Int32} (pc' : Nat) (hM : zM k = some M) (hd : decode M.2.1 pc = .ok (.bastore, 1)) (hk : zok h.1 a 101 = true) (hN : (zK a).2 = N) (hj : vp_in j N) (ht : j.toNatClampNeg = t) (hp : pc + 1 = pc') : zev sc (k, pc, ls, .int x :: .int j :: .ref a :: st, h) = zev sc (k, pc', ls, st, (h.1, zU h.2.1 a t (vp_nar .byte x), h.2.2.1, h.2.2.2)) := by
  subst hp; subst hN; subst ht; exact ze_go hM hd rfl (by simp only [zins]; rw [if_pos (show ¬ (j < 0 ∨ (zK a).2 ≤ j.toNatClampNeg) from hj), if_pos hk]; rfl)
theorem ze_bastoreZ {a N t : Nat} {j x : Int32} (pc' : Nat) (hM : zM k = some M) (hd : decode M.2.1 pc = .ok (.bastore, 1)) (hk0 : zok h.1 a 101 = false) (hk : zok h.1 a 102 = true) (hN : (zK a).2 = N) (hj : vp_in j N) (ht : j.toNatClampNeg = t) (hp : pc + 1 = pc') : zev sc (k, pc, ls, .int x :: .int j :: .ref a :: st, h) = zev sc (k, pc', ls, st, (h.1, zU h.2.1 a t (vp_nar .boolean x), h.2.2.1, h.2.2.2)) := by
  subst hp; subst hN; subst ht; exact ze_go hM hd rfl (by simp only [zins]; rw [if_pos (show ¬ (j < 0 ∨ (zK a).2 ≤ j.toNatClampNeg) from hj), if_neg (by rw [hk0]; decide), if_pos hk]; rfl)
theorem ze_aaload {a N q t : Nat} {j : Int32} (pc' : Nat) (hM : zM k = some M) (hd : decode M.2.1 pc = .ok (.aaload, 1)) (hk : zok h.1 a 103 = true ∨ zok h.1 a 104 = true) (hN : (zK a).2 = N) (hj : vp_in j N) (ht : j.toNatClampNeg = t) (hr : h.2.2.1 a t = some q) (hp : pc + 1 = pc') : zev sc (k, pc, ls, .int j :: .ref a :: st, h) = zev sc (k, pc', ls, .ref q :: st, h) := by
  subst hp; subst hN; subst ht; exact ze_go hM hd rfl (by simp only [zins]; rw [if_pos ⟨hk, hj⟩, hr]; rfl)
theorem ze_max {n q na : Nat} {x y : Int32} (pc' : Nat) (hM : zM k = some M) (hd : decode M.2.1 pc = .ok (.invokestatic n, 3)) (hm : zMr M.2.2.2.2.1 n = some (q, 5, na)) (hr : (Nat.ble 1 M.2.2.2.2.2.1 && (Nat.ble (zcat st) 8 && Nat.ble 21 M.2.2.2.2.2.2)) = true) (hp : pc + 3 = pc') : zev sc (k, pc, ls, .int y :: .int x :: st, h) = zev sc (k, pc', ls, .int (if x < y then y else x) :: st, h) := by
  subst hp
  simp only [Bool.and_eq_true, Nat.ble_eq] at hr
  exact ze_go hM hd rfl (by simp only [zins, hm]; rw [if_pos hr]; rfl)
theorem ze_min {n q na : Nat} {x y : Int32} (pc' : Nat) (hM : zM k = some M) (hd : decode M.2.1 pc = .ok (.invokestatic n, 3)) (hm : zMr M.2.2.2.2.1 n = some (q, 6, na)) (hr : (Nat.ble 1 M.2.2.2.2.2.1 && (Nat.ble (zcat st) 8 && Nat.ble 21 M.2.2.2.2.2.2)) = true) (hp : pc + 3 = pc') : zev sc (k, pc, ls, .int y :: .int x :: st, h) = zev sc (k, pc', ls, .int (if y < x then y else x) :: st, h) := by
  subst hp
  simp only [Bool.and_eq_true, Nat.ble_eq] at hr
  exact ze_go hM hd rfl (by simp only [zins, hm]; rw [if_pos hr]; rfl)
theorem ze_abs {n q na : Nat} {x : Int32} (pc' : Nat) (hM : zM k = some M) (hd : decode M.2.1 pc = .ok (.invokestatic n, 3)) (hm : zMr M.2.2.2.2.1 n = some (q, 7, na)) (hr : (Nat.ble 1 M.2.2.2.2.2.1 && (Nat.ble (zcat st) 8 && Nat.ble 21 M.2.2.2.2.2.2)) = true) (hp : pc + 3 = pc') : zev sc (k, pc, ls, .int x :: st, h) = zev sc (k, pc', ls, .int (if 0 ≤ x then x else 0 - x) :: st, h) := by
  subst hp
  simp only [Bool.and_eq_true, Nat.ble_eq] at hr
  exact ze_go hM hd rfl (by simp only [zins, hm]; rw [if_pos hr]; rfl)
theorem ze_copy {n q na a a0 ns nd nc : Nat} {cn sp dp : Int32} (pc' : Nat) (hM : zM k = some M) (hd : decode M.2.1 pc = .ok (.invokestatic n, 3)) (hm : zMr M.2.2.2.2.1 n = some (q, 8, na)) (hr : (Nat.ble 1 M.2.2.2.2.2.1 && (Nat.ble (zcat st) 8 && Nat.ble 26 M.2.2.2.2.2.2)) = true) (hk : zok h.1 a 100 = true) (hk0 : zok h.1 a0 100 = true) (h1 : ¬ sp < 0) (h2 : ¬ dp < 0) (h3 : ¬ cn < 0) (es : sp.toNatClampNeg = ns) (ed : dp.toNatClampNeg = nd) (ec : cn.toNatClampNeg = nc) (h4 : ns + nc ≤ (zK a0).2) (h5 : nd + nc ≤ (zK a).2) (hp : pc + 3 = pc') : zev sc (k, pc, ls, .int cn :: .int dp :: .ref a :: .int sp :: .ref a0 :: st, h) = zev sc (k, pc', ls, st, (h.1, zCp h.2.1 a0 a ns nd nc, h.2.2.1, h.2.2.2)) := by
  subst hp; subst es; subst ed; subst ec
  simp only [Bool.and_eq_true, Nat.ble_eq] at hr
  exact ze_go hM hd rfl (by simp only [zins, hm]; rw [if_pos ⟨hr, hk, hk0, h1, h2, h3, h4, h5⟩]; rfl)
/-- a call, by its arguments -/
def zroom (N M : zMe) (rest as : List Value) : Bool := Nat.ble (N.2.2.2.2.2.1 + 1) M.2.2.2.2.2.1 && (Nat.ble (8 + (N.2.2.1 + 11) + N.2.2.2.2.2.2) M.2.2.2.2.2.2 && (Nat.ble (zcat rest) 8 && (Nat.ble as.length N.2.2.1 && zcat1 as)))
theorem zcall_of {as rest : List Value} {k' : Nat} {N : zMe} (hN : zM k' = some N) (hr : zroom N M rest as = true) : zcall k M pc ls as rest h k' = some (.inr (.inr ((k', 0, zent as N.2.2.1, [], h), fun x => (k, pc + 3, ls, if N.2.2.2.1 = none then rest else x.1 :: rest, x.2)))) := by
  unfold zcall
  rw [hN]
  simp only [zroom, Bool.and_eq_true, Nat.ble_eq] at hr
  dsimp only
  rw [if_pos hr]
theorem ze_virtI {n k' na a : Nat} {as rest : List Value} {N : zMe} {T : FieldType} {ls' : List (Option Value)} (pc' : Nat) (hM : zM k = some M) (hd : decode M.2.1 pc = .ok (.invokevirtual n, 3)) (hm : zMr M.2.2.2.2.1 n = some (k', 0, na)) (hN : zM k' = some N) (hT : N.2.2.2.1 = some T) (ha : as.length = na) (hk : zok h.1 a N.2.2.2.2.1 = true) (hr : zroom N M rest (.ref a :: as) = true) (hs : as.reverse ++ .ref a :: rest = st) (hl : zent (.ref a :: as) N.2.2.1 = ls') (hp : pc + 3 = pc') : zev sc (k, pc, ls, st, h) = (zev sc (k', 0, ls', [], h)).bind (fun x => zev sc (k, pc', ls, x.1 :: rest, x.2)) := by
  subst hp; subst hl; subst hs
  rw [ze_call (sf := ((k', 0, zent (.ref a :: as) N.2.2.1, [], h), fun x => (k, pc + 3, ls, if N.2.2.2.1 = none then rest else x.1 :: rest, x.2))) hM hd rfl ?_]
  · simp only [hT]
    rfl
  · simp only [zins, hm]
    have e1 : (as.reverse ++ .ref a :: rest).drop na = .ref a :: rest := by rw [← ha, ← List.length_reverse, List.drop_left]
    have e2 : (as.reverse ++ .ref a :: rest).take na = as.reverse := by rw [← ha, ← List.length_reverse, List.take_left]
    rw [e1, e2]
    dsimp only
    rw [if_pos ⟨by rw [hN]; simp [hk], by rw [List.length_reverse]; exact ha⟩, List.reverse_reverse]
    exact zcall_of hN hr
theorem ze_virtV {n k' na a : Nat} {as rest : List Value} {N : zMe} {ls' : List (Option Value)} (pc' : Nat) (hM : zM k = some M) (hd : decode M.2.1 pc = .ok (.invokevirtual n, 3)) (hm : zMr M.2.2.2.2.1 n = some (k', 0, na)) (hN : zM k' = some N) (hT : N.2.2.2.1 = none) (ha : as.length = na) (hk : zok h.1 a N.2.2.2.2.1 = true) (hr : zroom N M rest (.ref a :: as) = true) (hs : as.reverse ++ .ref a :: rest = st) (hl : zent (.ref a :: as) N.2.2.1 = ls') (hp : pc + 3 = pc') : zev sc (k, pc, ls, st, h) = (zev sc (k', 0, ls', [], h)).bind (fun x => zev sc (k, pc', ls, rest, x.2)) := by
  subst hp; subst hl; subst hs
  rw [ze_call (sf := ((k', 0, zent (.ref a :: as) N.2.2.1, [], h), fun x => (k, pc + 3, ls, if N.2.2.2.1 = none then rest else x.1 :: rest, x.2))) hM hd rfl ?_]
  · simp only [hT]
    rfl
  · simp only [zins, hm]
    have e1 : (as.reverse ++ .ref a :: rest).drop na = .ref a :: rest := by rw [← ha, ← List.length_reverse, List.drop_left]
    have e2 : (as.reverse ++ .ref a :: rest).take na = as.reverse := by rw [← ha, ← List.length_reverse, List.take_left]
    rw [e1, e2]
    dsimp only
    rw [if_pos ⟨by rw [hN]; simp [hk], by rw [List.length_reverse]; exact ha⟩, List.reverse_reverse]
    exact zcall_of hN hr
theorem ze_statI {n k' na : Nat} {as rest : List Value} {N : zMe} {T : FieldType} {ls' : List (Option Value)} (pc' : Nat) (hM : zM k = some M) (hd : decode M.2.1 pc = .ok (.invokestatic n, 3)) (hm : zMr M.2.2.2.2.1 n = some (k', 1, na)) (hN : zM k' = some N) (hT : N.2.2.2.1 = some T) (ha : as.length = na) (hr : zroom N M rest as = true) (hs : as.reverse ++ rest = st) (hl : zent as N.2.2.1 = ls') (hp : pc + 3 = pc') : zev sc (k, pc, ls, st, h) = (zev sc (k', 0, ls', [], h)).bind (fun x => zev sc (k, pc', ls, x.1 :: rest, x.2)) := by
  subst hp; subst hl; subst hs
  rw [ze_call (sf := ((k', 0, zent as N.2.2.1, [], h), fun x => (k, pc + 3, ls, if N.2.2.2.1 = none then rest else x.1 :: rest, x.2))) hM hd rfl ?_]
  · simp only [hT]
    rfl
  · simp only [zins, hm]
    have e1 : (as.reverse ++ rest).drop na = rest := by rw [← ha, ← List.length_reverse, List.drop_left]
    have e2 : (as.reverse ++ rest).take na = as.reverse := by rw [← ha, ← List.length_reverse, List.take_left]
    rw [e1, e2]
    rw [if_pos (by rw [List.length_reverse]; exact ha), List.reverse_reverse]
    exact zcall_of hN hr
theorem ze_spec {n k' na kd a : Nat} {as rest : List Value} {N : zMe} {ls' : List (Option Value)} (pc' : Nat) (hM : zM k = some M) (hd : decode M.2.1 pc = .ok (.invokespecial n, 3)) (hm : zMr M.2.2.2.2.1 n = some (k', kd, na)) (hkd : kd = 2 ∨ kd = 3) (hN : zM k' = some N) (hT : N.2.2.2.1 = none) (ha : as.length = na) (hr : zroom N M rest (.ref a :: as) = true) (hs : as.reverse ++ .ref a :: rest = st) (hl : zent (.ref a :: as) N.2.2.1 = ls') (hp : pc + 3 = pc') : zev sc (k, pc, ls, st, h) = (zev sc (k', 0, ls', [], h)).bind (fun x => zev sc (k, pc', ls, rest, x.2)) := by
  subst hp; subst hl; subst hs
  rw [ze_call (sf := ((k', 0, zent (.ref a :: as) N.2.2.1, [], h), fun x => (k, pc + 3, ls, if N.2.2.2.1 = none then rest else x.1 :: rest, x.2))) hM hd rfl ?_]
  · simp only [hT]
    rfl
  · have e1 : (as.reverse ++ .ref a :: rest).drop na = .ref a :: rest := by rw [← ha, ← List.length_reverse, List.drop_left]
    have e2 : (as.reverse ++ .ref a :: rest).take na = as.reverse := by rw [← ha, ← List.length_reverse, List.take_left]
    rcases hkd with rfl | rfl <;> (simp only [zins, hm]; rw [e1, e2]; dsimp only; rw [if_pos (by rw [List.length_reverse]; exact ha), List.reverse_reverse]; exact zcall_of hN hr)
theorem ze_ireturn {x : Int32} (hM : zM k = some M) (hd : decode M.2.1 pc = .ok (.ireturn, 1)) (hr : M.2.2.2.1 = some .int) : zev sc (k, pc, ls, [.int x], h) = some (.int x, h) :=
  ze_ret hM hd rfl (by simp only [zins]; rw [if_pos (Or.inl hr)])
theorem ze_zreturn {x : Int32} (hM : zM k = some M) (hd : decode M.2.1 pc = .ok (.ireturn, 1)) (hr : M.2.2.2.1 = some .boolean) (hx : x = 0 ∨ x = 1) : zev sc (k, pc, ls, [.int x], h) = some (.int x, h) :=
  ze_ret hM hd rfl (by simp only [zins]; rw [if_pos (Or.inr ⟨hr, hx⟩)])
theorem ze_lreturn {x : Int64} (hM : zM k = some M) (hd : decode M.2.1 pc = .ok (.lreturn, 1)) (hr : M.2.2.2.1 = some .long) : zev sc (k, pc, ls, [.long x], h) = some (.long x, h) :=
  ze_ret hM hd rfl (by simp only [zins]; rw [if_pos hr])
theorem ze_return (hM : zM k = some M) (hd : decode M.2.1 pc = .ok (.return_, 1)) (hr : M.2.2.2.1 = none) : zev sc (k, pc, ls, [], h) = some (.null, h) :=
  ze_ret hM hd rfl (by simp only [zins]; rw [if_pos hr])
end ZE
