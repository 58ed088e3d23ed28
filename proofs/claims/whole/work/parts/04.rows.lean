section JMR
variable {g : jm_G} {M : jm_M} {κ : jm_K} {k n pc : Nat} {ls : List (Option Value)} {st : List Value} {w : jm_W}
/-! rows that touch locals and stack alone -/
theorem jr_iconst {z : Int} (v : Int32) (hdg : decode M.2.1 pc = .ok (.iconst z, 1)) (hv : Int32.ofInt z = v) (kk : jm_R g M κ k n (pc + 1) ls (.int v :: st) w) : jm_R g M κ k n pc ls st w := by
  obtain ⟨p, e, s, m, args, below, meth, c, A, Q⟩ := κ
  intro C H locs la hP hD hS hl
  exact lv_iconst C.1 C.2.1 hdg hv (kk C H locs la hP hD hS hl)
theorem jr_bipush {z : Int} (v : Int32) (hdg : decode M.2.1 pc = .ok (.bipush z, 2)) (hv : (Int8.ofInt z).toInt32 = v) (kk : jm_R g M κ k n (pc + 2) ls (.int v :: st) w) : jm_R g M κ k n pc ls st w := by
  obtain ⟨p, e, s, m, args, below, meth, c, A, Q⟩ := κ
  intro C H locs la hP hD hS hl
  exact lv_bipush C.1 C.2.1 hdg hv (kk C H locs la hP hD hS hl)
theorem jr_sipush {z : Int} (v : Int32) (hdg : decode M.2.1 pc = .ok (.sipush z, 3)) (hv : (Int16.ofInt z).toInt32 = v) (kk : jm_R g M κ k n (pc + 3) ls (.int v :: st) w) : jm_R g M κ k n pc ls st w := by
  obtain ⟨p, e, s, m, args, below, meth, c, A, Q⟩ := κ
  intro C H locs la hP hD hS hl
  exact lv_sipush C.1 C.2.1 hdg hv (kk C H locs la hP hD hS hl)
theorem jr_ldc {index : Nat} (v : Int32) (hdg : decode M.2.1 pc = .ok (.ldc index, 2)) (hw : Cond.constant M.1.cls index v ∈ jm_TB) (kk : jm_R g M κ k n (pc + 2) ls (.int v :: st) w) : jm_R g M κ k n pc ls st w := by
  obtain ⟨p, e, s, m, args, below, meth, c, A, Q⟩ := κ
  intro C H locs la hP hD hS hl
  exact lv_ldc C.1 C.2.1 C.2.2.2.2.1 (C.2.2.2.2.2.1 _ hw) hdg (kk C H locs la hP hD hS hl)
theorem jr_ldc2 {index : Nat} (v : Int64) (hdg : decode M.2.1 pc = .ok (.ldc2_w index, 3)) (hw : Cond.constantLong M.1.cls index v ∈ jm_TB) (kk : jm_R g M κ k n (pc + 3) ls (.long v :: st) w) : jm_R g M κ k n pc ls st w := by
  obtain ⟨p, e, s, m, args, below, meth, c, A, Q⟩ := κ
  intro C H locs la hP hD hS hl
  exact lv_ldc2 C.1 C.2.1 C.2.2.2.2.1 (C.2.2.2.2.2.1 _ hw) hdg (kk C H locs la hP hD hS hl)
theorem jr_lconst {z : Fin 2} (v : Int64) (hdg : decode M.2.1 pc = .ok (.lconst z, 1)) (hv : Int64.ofNat (z : Nat) = v) (kk : jm_R g M κ k n (pc + 1) ls (.long v :: st) w) : jm_R g M κ k n pc ls st w := by
  obtain ⟨p, e, s, m, args, below, meth, c, A, Q⟩ := κ
  intro C H locs la hP hD hS hl
  exact lv_lconst C.1 C.2.1 hdg hv (kk C H locs la hP hD hS hl)
theorem jm_at {ro ad : Nat → Nat} {la : Array Slot} {nL i : Nat} {v : Value} (hl : lv_has la nL (jm_ls ro ad ls)) (h : ls[i]? = some (some v)) : la[i]? = some (.val (jm_tr ro ad v)) := hl.2.2 (i, jm_tr ro ad v) (jm_ls_in.mpr ⟨v, h, rfl⟩)
theorem jr_iload {i : Nat} {x : Int32} (hdg : decode M.2.1 pc = .ok (.iload i, 2)) (h : ls[i]? = some (some (.int x))) (kk : jm_R g M κ k n (pc + 2) ls (.int x :: st) w) : jm_R g M κ k n pc ls st w := by
  obtain ⟨p, e, s, m, args, below, meth, c, A, Q⟩ := κ
  intro C H locs la hP hD hS hl
  exact lv_iload C.1 C.2.1 hdg (jm_at hl h) (kk C H locs la hP hD hS hl)
theorem jr_iload_n {i : Fin 4} {x : Int32} (hdg : decode M.2.1 pc = .ok (.iload_n i, 1)) (h : ls[(i : Nat)]? = some (some (.int x))) (kk : jm_R g M κ k n (pc + 1) ls (.int x :: st) w) : jm_R g M κ k n pc ls st w := by
  obtain ⟨p, e, s, m, args, below, meth, c, A, Q⟩ := κ
  intro C H locs la hP hD hS hl
  exact lv_iload_n C.1 C.2.1 hdg rfl (jm_at hl h) (kk C H locs la hP hD hS hl)
theorem jr_lload {i : Nat} {x : Int64} (hdg : decode M.2.1 pc = .ok (.lload i, 2)) (h : ls[i]? = some (some (.long x))) (kk : jm_R g M κ k n (pc + 2) ls (.long x :: st) w) : jm_R g M κ k n pc ls st w := by
  obtain ⟨p, e, s, m, args, below, meth, c, A, Q⟩ := κ
  intro C H locs la hP hD hS hl
  exact lv_lload C.1 C.2.1 hdg (jm_at hl h) (kk C H locs la hP hD hS hl)
theorem jr_lload_n {i : Fin 4} {x : Int64} (hdg : decode M.2.1 pc = .ok (.lload_n i, 1)) (h : ls[(i : Nat)]? = some (some (.long x))) (kk : jm_R g M κ k n (pc + 1) ls (.long x :: st) w) : jm_R g M κ k n pc ls st w := by
  obtain ⟨p, e, s, m, args, below, meth, c, A, Q⟩ := κ
  intro C H locs la hP hD hS hl
  exact lv_lload_n C.1 C.2.1 hdg rfl (jm_at hl h) (kk C H locs la hP hD hS hl)
theorem jr_aload {i : Nat} {x : Nat} (hdg : decode M.2.1 pc = .ok (.aload i, 2)) (h : ls[i]? = some (some (.ref x))) (kk : jm_R g M κ k n (pc + 2) ls (.ref x :: st) w) : jm_R g M κ k n pc ls st w := by
  obtain ⟨p, e, s, m, args, below, meth, c, A, Q⟩ := κ
  intro C H locs la hP hD hS hl
  exact lv_aload C.1 C.2.1 hdg (jm_at hl h) (kk C H locs la hP hD hS hl)
theorem jr_aload_n {i : Fin 4} {x : Nat} (hdg : decode M.2.1 pc = .ok (.aload_n i, 1)) (h : ls[(i : Nat)]? = some (some (.ref x))) (kk : jm_R g M κ k n (pc + 1) ls (.ref x :: st) w) : jm_R g M κ k n pc ls st w := by
  obtain ⟨p, e, s, m, args, below, meth, c, A, Q⟩ := κ
  intro C H locs la hP hD hS hl
  exact lv_aload_n C.1 C.2.1 hdg rfl (jm_at hl h) (kk C H locs la hP hD hS hl)
/-- the law's script: an array that is only read -/
theorem jr_aload_r {i : Fin 4} {x : Nat} (hdg : decode M.2.1 pc = .ok (.aload_n i, 1)) (h : ls[(i : Nat)]? = some (some (.retAddr x))) (kk : jm_R g M κ k n (pc + 1) ls (.retAddr x :: st) w) : jm_R g M κ k n pc ls st w := by
  obtain ⟨p, e, s, m, args, below, meth, c, A, Q⟩ := κ
  intro C H locs la hP hD hS hl
  exact lv_aload_n C.1 C.2.1 hdg rfl (jm_at hl h) (kk C H locs la hP hD hS hl)
theorem jr_istore {i : Nat} {x : Int32} (ls' : List (Option Value)) (hdg : decode M.2.1 pc = .ok (.istore i, 2)) (hi : decide (i < M.2.2.1) = true) (hn : jm_nl ls i = true) (h : ls.set i (some (.int x)) = ls') (kk : jm_R g M κ k n (pc + 2) ls' st w) : jm_R g M κ k n pc ls (.int x :: st) w := by
  obtain ⟨p, e, s, m, args, below, meth, c, A, Q⟩ := κ
  intro C H locs la hP hD hS hl
  subst h
  exact lv_istore C.1 C.2.1 hdg hl (of_decide_eq_true hi) rfl (fun la' hl' => kk C H locs la' hP hD hS (jm_has hl' (jm_ls_set (.int x) hn)))
theorem jr_istore_n {i : Fin 4} {x : Int32} (ls' : List (Option Value)) (hdg : decode M.2.1 pc = .ok (.istore_n i, 1)) (hi : decide ((i : Nat) < M.2.2.1) = true) (hn : jm_nl ls i = true) (h : ls.set i (some (.int x)) = ls') (kk : jm_R g M κ k n (pc + 1) ls' st w) : jm_R g M κ k n pc ls (.int x :: st) w := by
  obtain ⟨p, e, s, m, args, below, meth, c, A, Q⟩ := κ
  intro C H locs la hP hD hS hl
  subst h
  exact lv_istore_n C.1 C.2.1 hdg rfl hl (of_decide_eq_true hi) rfl (fun la' hl' => kk C H locs la' hP hD hS (jm_has hl' (jm_ls_set (.int x) hn)))
theorem jr_astore {i : Nat} {x : Nat} (ls' : List (Option Value)) (hdg : decode M.2.1 pc = .ok (.astore i, 2)) (hi : decide (i < M.2.2.1) = true) (hn : jm_nl ls i = true) (h : ls.set i (some (.ref x)) = ls') (kk : jm_R g M κ k n (pc + 2) ls' st w) : jm_R g M κ k n pc ls (.ref x :: st) w := by
  obtain ⟨p, e, s, m, args, below, meth, c, A, Q⟩ := κ
  intro C H locs la hP hD hS hl
  subst h
  exact lv_astore C.1 C.2.1 hdg hl (of_decide_eq_true hi) rfl (fun la' hl' => kk C H locs la' hP hD hS (jm_has hl' (jm_ls_set (.ref x) hn)))
theorem jr_astore_n {i : Fin 4} {x : Nat} (ls' : List (Option Value)) (hdg : decode M.2.1 pc = .ok (.astore_n i, 1)) (hi : decide ((i : Nat) < M.2.2.1) = true) (hn : jm_nl ls i = true) (h : ls.set i (some (.ref x)) = ls') (kk : jm_R g M κ k n (pc + 1) ls' st w) : jm_R g M κ k n pc ls (.ref x :: st) w := by
  obtain ⟨p, e, s, m, args, below, meth, c, A, Q⟩ := κ
  intro C H locs la hP hD hS hl
  subst h
  exact lv_astore_n C.1 C.2.1 hdg rfl hl (of_decide_eq_true hi) rfl (fun la' hl' => kk C H locs la' hP hD hS (jm_has hl' (jm_ls_set (.ref x) hn)))
theorem jr_lstore {i : Nat} {x : Int64} (ls' : List (Option Value)) (hdg : decode M.2.1 pc = .ok (.lstore i, 2)) (hi : decide (i + 1 < M.2.2.1) = true) (hn : jm_nl ls i = true) (h : (ls.set i (some (.long x))).set (i + 1) none = ls') (kk : jm_R g M κ k n (pc + 2) ls' st w) : jm_R g M κ k n pc ls (.long x :: st) w := by
  obtain ⟨p, e, s, m, args, below, meth, c, A, Q⟩ := κ
  intro C H locs la hP hD hS hl
  subst h
  exact lv_lstore C.1 C.2.1 hdg hl (of_decide_eq_true hi) rfl (fun la' hl' => kk C H locs la' hP hD hS (jm_has hl' (jm_ls_set2 x hn)))
theorem jr_iinc {i : Nat} {z : Int} {x v : Int32} (ls' : List (Option Value)) (hdg : decode M.2.1 pc = .ok (.iinc i z, 3)) (hg : ls[i]? = some (some (.int x))) (hv : x + Int32.ofInt z = v) (hi : decide (i < M.2.2.1) = true) (hn : jm_nl ls i = true) (h : ls.set i (some (.int v)) = ls') (kk : jm_R g M κ k n (pc + 3) ls' st w) : jm_R g M κ k n pc ls st w := by
  obtain ⟨p, e, s, m, args, below, meth, c, A, Q⟩ := κ
  intro C H locs la hP hD hS hl
  subst h
  obtain ⟨q, hq⟩ := List.mem_iff_getElem?.mp (jm_ls_in.mpr ⟨.int x, hg, rfl⟩ : (i, jm_tr g.2.2.2.1 w.2.1 (.int x)) ∈ jm_ls g.2.2.2.1 w.2.1 ls)
  exact lv_iinc C.1 C.2.1 hdg hl hq hv (of_decide_eq_true hi) rfl (fun la' hl' => kk C H locs la' hP hD hS (jm_has hl' (jm_ls_set (.int v) hn)))
theorem jr_iadd {x y : Int32} (hdg : decode M.2.1 pc = .ok (.iadd, 1)) (kk : jm_R g M κ k n (pc + 1) ls (.int (x + y) :: st) w) : jm_R g M κ k n pc ls (.int y :: .int x :: st) w := by
  obtain ⟨p, e, s, m, args, below, meth, c, A, Q⟩ := κ
  intro C H locs la hP hD hS hl
  exact lv_iadd C.1 C.2.1 hdg (kk C H locs la hP hD hS hl)
theorem jr_isub {x y : Int32} (hdg : decode M.2.1 pc = .ok (.isub, 1)) (kk : jm_R g M κ k n (pc + 1) ls (.int (x - y) :: st) w) : jm_R g M κ k n pc ls (.int y :: .int x :: st) w := by
  obtain ⟨p, e, s, m, args, below, meth, c, A, Q⟩ := κ
  intro C H locs la hP hD hS hl
  exact lv_isub C.1 C.2.1 hdg (kk C H locs la hP hD hS hl)
theorem jr_imul {x y : Int32} (hdg : decode M.2.1 pc = .ok (.imul, 1)) (kk : jm_R g M κ k n (pc + 1) ls (.int (x * y) :: st) w) : jm_R g M κ k n pc ls (.int y :: .int x :: st) w := by
  obtain ⟨p, e, s, m, args, below, meth, c, A, Q⟩ := κ
  intro C H locs la hP hD hS hl
  exact lv_imul C.1 C.2.1 hdg (kk C H locs la hP hD hS hl)
theorem jr_idiv {x y : Int32} (hdg : decode M.2.1 pc = .ok (.idiv, 1)) (hne : y ≠ 0) (kk : jm_R g M κ k n (pc + 1) ls (.int (x / y) :: st) w) : jm_R g M κ k n pc ls (.int y :: .int x :: st) w := by
  obtain ⟨p, e, s, m, args, below, meth, c, A, Q⟩ := κ
  intro C H locs la hP hD hS hl
  exact lv_idiv C.1 C.2.1 hdg hne (kk C H locs la hP hD hS hl)
theorem jr_iand {x y : Int32} (hdg : decode M.2.1 pc = .ok (.iand, 1)) (kk : jm_R g M κ k n (pc + 1) ls (.int (x &&& y) :: st) w) : jm_R g M κ k n pc ls (.int y :: .int x :: st) w := by
  obtain ⟨p, e, s, m, args, below, meth, c, A, Q⟩ := κ
  intro C H locs la hP hD hS hl
  exact lv_iand C.1 C.2.1 hdg (kk C H locs la hP hD hS hl)
theorem jr_ixor {x y : Int32} (hdg : decode M.2.1 pc = .ok (.ixor, 1)) (kk : jm_R g M κ k n (pc + 1) ls (.int (x ^^^ y) :: st) w) : jm_R g M κ k n pc ls (.int y :: .int x :: st) w := by
  obtain ⟨p, e, s, m, args, below, meth, c, A, Q⟩ := κ
  intro C H locs la hP hD hS hl
  exact lv_ixor C.1 C.2.1 hdg (kk C H locs la hP hD hS hl)
theorem jr_land {x y : Int64} (hdg : decode M.2.1 pc = .ok (.land, 1)) (kk : jm_R g M κ k n (pc + 1) ls (.long (x &&& y) :: st) w) : jm_R g M κ k n pc ls (.long y :: .long x :: st) w := by
  obtain ⟨p, e, s, m, args, below, meth, c, A, Q⟩ := κ
  intro C H locs la hP hD hS hl
  exact lv_land C.1 C.2.1 hdg (kk C H locs la hP hD hS hl)
theorem jr_lor {x y : Int64} (hdg : decode M.2.1 pc = .ok (.lor, 1)) (kk : jm_R g M κ k n (pc + 1) ls (.long (x ||| y) :: st) w) : jm_R g M κ k n pc ls (.long y :: .long x :: st) w := by
  obtain ⟨p, e, s, m, args, below, meth, c, A, Q⟩ := κ
  intro C H locs la hP hD hS hl
  exact lv_lor C.1 C.2.1 hdg (kk C H locs la hP hD hS hl)
theorem jr_ishr {x y : Int32} (hdg : decode M.2.1 pc = .ok (.ishr, 1)) (kk : jm_R g M κ k n (pc + 1) ls (.int (x >>> (y &&& 31)) :: st) w) : jm_R g M κ k n pc ls (.int y :: .int x :: st) w := by
  obtain ⟨p, e, s, m, args, below, meth, c, A, Q⟩ := κ
  intro C H locs la hP hD hS hl
  exact lv_ishr C.1 C.2.1 hdg (kk C H locs la hP hD hS hl)
theorem jr_ineg {x : Int32} (hdg : decode M.2.1 pc = .ok (.ineg, 1)) (kk : jm_R g M κ k n (pc + 1) ls (.int (-x) :: st) w) : jm_R g M κ k n pc ls (.int x :: st) w := by
  obtain ⟨p, e, s, m, args, below, meth, c, A, Q⟩ := κ
  intro C H locs la hP hD hS hl
  exact lv_ineg C.1 C.2.1 hdg (kk C H locs la hP hD hS hl)
theorem jr_irem {x y : Int32} (hdg : decode M.2.1 pc = .ok (.irem, 1)) (hne : y ≠ 0) (kk : jm_R g M κ k n (pc + 1) ls (.int (x - x / y * y) :: st) w) : jm_R g M κ k n pc ls (.int y :: .int x :: st) w := by
  obtain ⟨p, e, s, m, args, below, meth, c, A, Q⟩ := κ
  intro C H locs la hP hD hS hl
  exact lv_irem C.1 C.2.1 hdg hne (kk C H locs la hP hD hS hl)
theorem jr_i2l {x : Int32} (v : Int64) (hdg : decode M.2.1 pc = .ok (.i2l, 1)) (hv : x.toInt64 = v) (kk : jm_R g M κ k n (pc + 1) ls (.long v :: st) w) : jm_R g M κ k n pc ls (.int x :: st) w := by
  obtain ⟨p, e, s, m, args, below, meth, c, A, Q⟩ := κ
  intro C H locs la hP hD hS hl
  exact lv_i2l C.1 C.2.1 hdg hv (kk C H locs la hP hD hS hl)
theorem jr_l2i {x : Int64} (v : Int32) (hdg : decode M.2.1 pc = .ok (.l2i, 1)) (hv : x.toInt32 = v) (kk : jm_R g M κ k n (pc + 1) ls (.int v :: st) w) : jm_R g M κ k n pc ls (.long x :: st) w := by
  obtain ⟨p, e, s, m, args, below, meth, c, A, Q⟩ := κ
  intro C H locs la hP hD hS hl
  exact lv_l2i C.1 C.2.1 hdg hv (kk C H locs la hP hD hS hl)
theorem jr_i2c {x : Int32} (hdg : decode M.2.1 pc = .ok (.i2c, 1)) (kk : jm_R g M κ k n (pc + 1) ls (.int ((x.toUInt32 % 65536).toInt32) :: st) w) : jm_R g M κ k n pc ls (.int x :: st) w := by
  obtain ⟨p, e, s, m, args, below, meth, c, A, Q⟩ := κ
  intro C H locs la hP hD hS hl
  exact lv_i2c C.1 C.2.1 hdg rfl (kk C H locs la hP hD hS hl)
theorem jr_lushr {x : Int64} {y : Int32} (hdg : decode M.2.1 pc = .ok (.lushr, 1)) (kk : jm_R g M κ k n (pc + 1) ls (.long ((x.toUInt64 >>> (y.toInt64.toUInt64 &&& Int64.toUInt64 63)).toInt64) :: st) w) : jm_R g M κ k n pc ls (.int y :: .long x :: st) w := by
  obtain ⟨p, e, s, m, args, below, meth, c, A, Q⟩ := κ
  intro C H locs la hP hD hS hl
  exact lv_lushr C.1 C.2.1 hdg rfl (kk C H locs la hP hD hS hl)
theorem jr_lshl {x : Int64} {y : Int32} (hdg : decode M.2.1 pc = .ok (.lshl, 1)) (kk : jm_R g M κ k n (pc + 1) ls (.long (x <<< (y.toInt64 &&& 63)) :: st) w) : jm_R g M κ k n pc ls (.int y :: .long x :: st) w := by
  obtain ⟨p, e, s, m, args, below, meth, c, A, Q⟩ := κ
  intro C H locs la hP hD hS hl
  exact lv_lshl C.1 C.2.1 hdg rfl (kk C H locs la hP hD hS hl)
end JMR
