section JMB
variable {g : jm_G} {M : jm_M} {κ : jm_K} {k n pc : Nat} {ls : List (Option Value)} {st : List Value} {w : jm_W}
theorem jr_if_eq {x : Int32} {off : Int} (tgt : Nat) (hdg : decode M.2.1 pc = .ok (.ifCond .eq off, 3)) (ht : decide ((pc : Int) + off = (tgt : Int)) = true) (kt : x = 0 → jm_R g M κ k n tgt ls st w) (kf : ¬ x = 0 → jm_R g M κ k n (pc + 3) ls st w) : jm_R g M κ k n pc ls (.int x :: st) w := by
  obtain ⟨p, e, s, m, args, below, meth, c, A, Q⟩ := κ
  intro C H locs la hP hD hS hl
  exact lv_if_eq C.1 C.2.1 hdg (of_decide_eq_true ht) (fun q => kt q C H locs la hP hD hS hl) (fun q => kf q C H locs la hP hD hS hl)
theorem jr_if_ne {x : Int32} {off : Int} (tgt : Nat) (hdg : decode M.2.1 pc = .ok (.ifCond .ne off, 3)) (ht : decide ((pc : Int) + off = (tgt : Int)) = true) (kt : ¬ x = 0 → jm_R g M κ k n tgt ls st w) (kf : x = 0 → jm_R g M κ k n (pc + 3) ls st w) : jm_R g M κ k n pc ls (.int x :: st) w := by
  obtain ⟨p, e, s, m, args, below, meth, c, A, Q⟩ := κ
  intro C H locs la hP hD hS hl
  exact lv_if_ne C.1 C.2.1 hdg (of_decide_eq_true ht) (fun q => kt q C H locs la hP hD hS hl) (fun q => kf q C H locs la hP hD hS hl)
theorem jr_if_lt {x : Int32} {off : Int} (tgt : Nat) (hdg : decode M.2.1 pc = .ok (.ifCond .lt off, 3)) (ht : decide ((pc : Int) + off = (tgt : Int)) = true) (kt : x < 0 → jm_R g M κ k n tgt ls st w) (kf : ¬ x < 0 → jm_R g M κ k n (pc + 3) ls st w) : jm_R g M κ k n pc ls (.int x :: st) w := by
  obtain ⟨p, e, s, m, args, below, meth, c, A, Q⟩ := κ
  intro C H locs la hP hD hS hl
  exact lv_if_lt C.1 C.2.1 hdg (of_decide_eq_true ht) (fun q => kt q C H locs la hP hD hS hl) (fun q => kf q C H locs la hP hD hS hl)
theorem jr_if_ge {x : Int32} {off : Int} (tgt : Nat) (hdg : decode M.2.1 pc = .ok (.ifCond .ge off, 3)) (ht : decide ((pc : Int) + off = (tgt : Int)) = true) (kt : 0 ≤ x → jm_R g M κ k n tgt ls st w) (kf : ¬ 0 ≤ x → jm_R g M κ k n (pc + 3) ls st w) : jm_R g M κ k n pc ls (.int x :: st) w := by
  obtain ⟨p, e, s, m, args, below, meth, c, A, Q⟩ := κ
  intro C H locs la hP hD hS hl
  exact lv_if_ge C.1 C.2.1 hdg (of_decide_eq_true ht) (fun q => kt q C H locs la hP hD hS hl) (fun q => kf q C H locs la hP hD hS hl)
theorem jr_if_gt {x : Int32} {off : Int} (tgt : Nat) (hdg : decode M.2.1 pc = .ok (.ifCond .gt off, 3)) (ht : decide ((pc : Int) + off = (tgt : Int)) = true) (kt : 0 < x → jm_R g M κ k n tgt ls st w) (kf : ¬ 0 < x → jm_R g M κ k n (pc + 3) ls st w) : jm_R g M κ k n pc ls (.int x :: st) w := by
  obtain ⟨p, e, s, m, args, below, meth, c, A, Q⟩ := κ
  intro C H locs la hP hD hS hl
  exact lv_if_gt C.1 C.2.1 hdg (of_decide_eq_true ht) (fun q => kt q C H locs la hP hD hS hl) (fun q => kf q C H locs la hP hD hS hl)
theorem jr_if_le {x : Int32} {off : Int} (tgt : Nat) (hdg : decode M.2.1 pc = .ok (.ifCond .le off, 3)) (ht : decide ((pc : Int) + off = (tgt : Int)) = true) (kt : x ≤ 0 → jm_R g M κ k n tgt ls st w) (kf : ¬ x ≤ 0 → jm_R g M κ k n (pc + 3) ls st w) : jm_R g M κ k n pc ls (.int x :: st) w := by
  obtain ⟨p, e, s, m, args, below, meth, c, A, Q⟩ := κ
  intro C H locs la hP hD hS hl
  exact lv_if_le C.1 C.2.1 hdg (of_decide_eq_true ht) (fun q => kt q C H locs la hP hD hS hl) (fun q => kf q C H locs la hP hD hS hl)
theorem jr_icmp_eq {x y : Int32} {off : Int} (tgt : Nat) (hdg : decode M.2.1 pc = .ok (.if_icmp .eq off, 3)) (ht : decide ((pc : Int) + off = (tgt : Int)) = true) (kt : x = y → jm_R g M κ k n tgt ls st w) (kf : ¬ x = y → jm_R g M κ k n (pc + 3) ls st w) : jm_R g M κ k n pc ls (.int y :: .int x :: st) w := by
  obtain ⟨p, e, s, m, args, below, meth, c, A, Q⟩ := κ
  intro C H locs la hP hD hS hl
  exact lv_icmp_eq C.1 C.2.1 hdg (of_decide_eq_true ht) (fun q => kt q C H locs la hP hD hS hl) (fun q => kf q C H locs la hP hD hS hl)
theorem jr_icmp_ne {x y : Int32} {off : Int} (tgt : Nat) (hdg : decode M.2.1 pc = .ok (.if_icmp .ne off, 3)) (ht : decide ((pc : Int) + off = (tgt : Int)) = true) (kt : ¬ x = y → jm_R g M κ k n tgt ls st w) (kf : x = y → jm_R g M κ k n (pc + 3) ls st w) : jm_R g M κ k n pc ls (.int y :: .int x :: st) w := by
  obtain ⟨p, e, s, m, args, below, meth, c, A, Q⟩ := κ
  intro C H locs la hP hD hS hl
  exact lv_icmp_ne C.1 C.2.1 hdg (of_decide_eq_true ht) (fun q => kt q C H locs la hP hD hS hl) (fun q => kf q C H locs la hP hD hS hl)
theorem jr_icmp_lt {x y : Int32} {off : Int} (tgt : Nat) (hdg : decode M.2.1 pc = .ok (.if_icmp .lt off, 3)) (ht : decide ((pc : Int) + off = (tgt : Int)) = true) (kt : x < y → jm_R g M κ k n tgt ls st w) (kf : ¬ x < y → jm_R g M κ k n (pc + 3) ls st w) : jm_R g M κ k n pc ls (.int y :: .int x :: st) w := by
  obtain ⟨p, e, s, m, args, below, meth, c, A, Q⟩ := κ
  intro C H locs la hP hD hS hl
  exact lv_icmp_lt C.1 C.2.1 hdg (of_decide_eq_true ht) (fun q => kt q C H locs la hP hD hS hl) (fun q => kf q C H locs la hP hD hS hl)
theorem jr_icmp_ge {x y : Int32} {off : Int} (tgt : Nat) (hdg : decode M.2.1 pc = .ok (.if_icmp .ge off, 3)) (ht : decide ((pc : Int) + off = (tgt : Int)) = true) (kt : y ≤ x → jm_R g M κ k n tgt ls st w) (kf : ¬ y ≤ x → jm_R g M κ k n (pc + 3) ls st w) : jm_R g M κ k n pc ls (.int y :: .int x :: st) w := by
  obtain ⟨p, e, s, m, args, below, meth, c, A, Q⟩ := κ
  intro C H locs la hP hD hS hl
  exact lv_icmp_ge C.1 C.2.1 hdg (of_decide_eq_true ht) (fun q => kt q C H locs la hP hD hS hl) (fun q => kf q C H locs la hP hD hS hl)
theorem jr_icmp_gt {x y : Int32} {off : Int} (tgt : Nat) (hdg : decode M.2.1 pc = .ok (.if_icmp .gt off, 3)) (ht : decide ((pc : Int) + off = (tgt : Int)) = true) (kt : y < x → jm_R g M κ k n tgt ls st w) (kf : ¬ y < x → jm_R g M κ k n (pc + 3) ls st w) : jm_R g M κ k n pc ls (.int y :: .int x :: st) w := by
  obtain ⟨p, e, s, m, args, below, meth, c, A, Q⟩ := κ
  intro C H locs la hP hD hS hl
  exact lv_icmp_gt C.1 C.2.1 hdg (of_decide_eq_true ht) (fun q => kt q C H locs la hP hD hS hl) (fun q => kf q C H locs la hP hD hS hl)
theorem jr_icmp_le {x y : Int32} {off : Int} (tgt : Nat) (hdg : decode M.2.1 pc = .ok (.if_icmp .le off, 3)) (ht : decide ((pc : Int) + off = (tgt : Int)) = true) (kt : x ≤ y → jm_R g M κ k n tgt ls st w) (kf : ¬ x ≤ y → jm_R g M κ k n (pc + 3) ls st w) : jm_R g M κ k n pc ls (.int y :: .int x :: st) w := by
  obtain ⟨p, e, s, m, args, below, meth, c, A, Q⟩ := κ
  intro C H locs la hP hD hS hl
  exact lv_icmp_le C.1 C.2.1 hdg (of_decide_eq_true ht) (fun q => kt q C H locs la hP hD hS hl) (fun q => kf q C H locs la hP hD hS hl)
theorem jr_goto {off : Int} (tgt : Nat) (hdg : decode M.2.1 pc = .ok (.goto off, 3)) (ht : decide ((pc : Int) + off = (tgt : Int)) = true) (kk : jm_R g M κ k n tgt ls st w) : jm_R g M κ k n pc ls st w := by
  obtain ⟨p, e, s, m, args, below, meth, c, A, Q⟩ := κ
  intro C H locs la hP hD hS hl
  exact lv_goto C.1 C.2.1 hdg (of_decide_eq_true ht) (kk C H locs la hP hD hS hl)
theorem jm_tr1 {ro ad : Nat → Nat} {v : Value} (h : v.category = 1) : (jm_tr ro ad v).category = 1 := by
  cases v <;> simp_all [jm_tr, Value.category]
theorem jr_dup {v : Value} (hdg : decode M.2.1 pc = .ok (.dup, 1)) (hv : v.category = 1) (kk : jm_R g M κ k n (pc + 1) ls (v :: v :: st) w) : jm_R g M κ k n pc ls (v :: st) w := by
  obtain ⟨p, e, s, m, args, below, meth, c, A, Q⟩ := κ
  intro C H locs la hP hD hS hl
  exact lv_dup C.1 C.2.1 hdg (jm_tr1 hv) (kk C H locs la hP hD hS hl)
theorem jr_pop {v : Value} (hdg : decode M.2.1 pc = .ok (.pop, 1)) (hv : v.category = 1) (kk : jm_R g M κ k n (pc + 1) ls st w) : jm_R g M κ k n pc ls (v :: st) w := by
  obtain ⟨p, e, s, m, args, below, meth, c, A, Q⟩ := κ
  intro C H locs la hP hD hS hl
  exact lv_pop C.1 C.2.1 hdg (jm_tr1 hv) (kk C H locs la hP hD hS hl)
theorem jr_dup2 {v u : Value} (hdg : decode M.2.1 pc = .ok (.dup2, 1)) (hv : v.category = 1) (hu : u.category = 1) (kk : jm_R g M κ k n (pc + 1) ls (v :: u :: v :: u :: st) w) : jm_R g M κ k n pc ls (v :: u :: st) w := by
  obtain ⟨p, e, s, m, args, below, meth, c, A, Q⟩ := κ
  intro C H locs la hP hD hS hl
  exact lv_dup2_11 C.1 C.2.1 hdg (jm_tr1 hv) (jm_tr1 hu) (kk C H locs la hP hD hS hl)
theorem jr_lcmp {x y : Int64} (hdg : decode M.2.1 pc = .ok (.lcmp, 1)) (kk : jm_R g M κ k n (pc + 1) ls (.int (lg_cmp x y) :: st) w) : jm_R g M κ k n pc ls (.long y :: .long x :: st) w := by
  obtain ⟨p, e, s, m, args, below, meth, c, A, Q⟩ := κ
  intro C H locs la hP hD hS hl
  exact W.lcmp C.1 C.2.1 hdg (kk C H locs la hP hD hS hl)
/-- a name for what stands on top -/
theorem jr_top {x : Int32} (kk : ∀ y : Int32, y = x → jm_R g M κ k n pc ls (.int y :: st) w) : jm_R g M κ k n pc ls (.int x :: st) w := kk x rfl
theorem jr_tableOut {dflt lo hi : Int} {offs : Array Int} {len : Nat} {x : Int32} (tgt : Nat) (hdg : decode M.2.1 pc = .ok (.tableswitch dflt lo hi offs, len)) (h : x.toInt < lo ∨ hi < x.toInt) (ht : decide ((pc : Int) + dflt = (tgt : Int)) = true) (kk : jm_R g M κ k n tgt ls st w) : jm_R g M κ k n pc ls (.int x :: st) w := by
  obtain ⟨p, e, s, m, args, below, meth, c, A, Q⟩ := κ
  intro C H locs la hP hD hS hl
  exact lv_tableOut C.1 C.2.1 hdg h (of_decide_eq_true ht) (kk C H locs la hP hD hS hl)
theorem jr_tableIn {dflt lo hi : Int} {offs : Array Int} {len : Nat} {x : Int32} (z off : Int) (tgt : Nat) (hdg : decode M.2.1 pc = .ok (.tableswitch dflt lo hi offs, len)) (hz : x.toInt = z) (h : decide (lo ≤ z ∧ z ≤ hi) = true) (ho : offs[(z - lo).toNat]? = some off) (ht : decide ((pc : Int) + off = (tgt : Int)) = true) (kk : jm_R g M κ k n tgt ls st w) : jm_R g M κ k n pc ls (.int x :: st) w := by
  obtain ⟨p, e, s, m, args, below, meth, c, A, Q⟩ := κ
  intro C H locs la hP hD hS hl
  subst hz
  have h2 := of_decide_eq_true h
  exact lv_tableIn C.1 C.2.1 hdg (Int.not_lt.mpr h2.1) (Int.not_lt.mpr h2.2) ho (of_decide_eq_true ht) (kk C H locs la hP hD hS hl)
theorem jr_lookup {dflt : Int} {ps : Array (Int × Int)} {len : Nat} {x : Int32} (off : Int) (tgt : Nat) (hdg : decode M.2.1 pc = .ok (.lookupswitch dflt ps, len)) (hp : (ps.toList.zip (ps.toList.drop 1)).all (fun (a, next) => a.1 < next.1) = true) (ho : Op.lookupswitch.offset ps.toList dflt x.toInt = off) (ht : decide ((pc : Int) + off = (tgt : Int)) = true) (kk : jm_R g M κ k n tgt ls st w) : jm_R g M κ k n pc ls (.int x :: st) w := by
  obtain ⟨p, e, s, m, args, below, meth, c, A, Q⟩ := κ
  intro C H locs la hP hD hS hl
  exact lv_lookup C.1 C.2.1 hdg hp ho (of_decide_eq_true ht) (kk C H locs la hP hD hS hl)
/-! rows that touch the world -/
/-- a class's facts: its number in vwCl -/
def jm_Cls (ci : Nat) (r : vw_C) (t0 : Nat → FieldType) : Prop := vwCl[ci]? = some r ∧ (∀ w ∈ u_ws r.1 r.2.1 r.2.2, w ∈ jm_TB) ∧ (∀ k, k < r.2.2 → parseFieldDescriptor (r.2.1 k).2.2.1 = some (t0 k)) ∧ (∀ a, a < r.2.2 → ∀ b, b < r.2.2 → a ≠ b → (r.2.1 a).2.1 ≠ (r.2.1 b).2.1)
/-- a field's link in a class own at a place of its pool: field j of class ci -/
def jm_F (own : String) (idx ci j : Nat) (fin : Bool) (ty : FieldType) : Prop := ∃ (r : vw_C) (t0 : Nat → FieldType), jm_Cls ci r t0 ∧ j < r.2.2 ∧ Cond.fieldLink own idx (r.2.1 j).1 (r.2.1 j).2.1 (r.2.1 j).2.2.1 ∈ jm_TB ∧ (r.2.1 j).2.2.2 = fin ∧ t0 j = ty ∧ (r.2.1 j).1 = r.1
theorem jm_fs_at {ad : Nat → Nat} {fs : List (Option (Option Nat))} {f : Nat → Int32} {j : Nat} {x : Option (Option Nat)} (h : fs[j]? = some x) : (jm_fs ad fs f)[j]? = some (jm_fv ad f j x) := by
  simp [jm_fs, List.getElem?_mapIdx, h]
theorem jr_get {idx : Nat} {q : Nat} (ci j : Nat) {fin : Bool} {ty : FieldType} {fs : List (Option (Option Nat))} {x : Option (Option Nat)} (hf : jm_F M.1.cls idx ci j fin ty) (hdg : decode M.2.1 pc = .ok (.getfield idx, 3)) (hg : w.1[q]? = some (.inl (ci, fs))) (hx : fs[j]? = some x) (v : Value) (hv : (match x with | none => Value.int (w.2.2 q j) | some none => .null | some (some r) => .ref r) = v) (kk : jm_R g M κ k n (pc + 3) ls (v :: st) w) : jm_R g M κ k n pc ls (.ref q :: st) w := by
  obtain ⟨p, e, s, m, args, below, meth, c, A, Q⟩ := κ
  intro C H locs la hP hD hS hl
  have kk := kk C H locs la hP hD hS hl
  obtain ⟨hx1, hb, hml, hr, hown, hts, hlk, hnm, hSa, hRo, hA⟩ := C
  obtain ⟨⟨CN, T, N⟩, t0, ⟨hc, hin, hty, hnd⟩, hj, hl1, hfin, hty0, hcl⟩ := hf
  subst hv
  refine va_get (D := g.2.1) (cl := vwCl) (ws := jm_conc g w) (a := w.2.1 q) (C := CN) (T := T) (N := N) (ci := ci) hx1 hb hts hin hown hSa.1 hP q (jm_conc_at g w hg) hc j hj (hts _ hl1) (fun _ h => h) (jm_fs_at hx) hdg ?_
  cases x with
  | none => exact kk
  | some r => cases r <;> exact kk
theorem jm_fs_set {ad : Nat → Nat} {fs : List (Option (Option Nat))} {f : Nat → Int32} {j : Nat} {x : Int32} (h : fs[j]? = some none) : (jm_fs ad fs f).set j (.int x) = jm_fs ad fs (upd f j x) := by
  have hl := (List.getElem?_eq_some_iff.mp h).1
  apply List.ext_getElem?
  intro i
  rw [List.getElem?_set]
  by_cases hi : j = i
  · subst hi
    simp [jm_fs, List.getElem?_mapIdx, hl, (List.getElem?_eq_some_iff.mp h).2, jm_fv, upd]
  · have hi2 : ¬ i = j := fun e => hi e.symm
    rw [if_neg hi]
    simp only [jm_fs, List.getElem?_mapIdx]
    cases hz : fs[i]? with
    | none => rfl
    | some o =>
      simp only [Option.map_some]
      cases o with
      | none => simp [jm_fv, upd, hi2]
      | some r => cases r <;> rfl
theorem jm_fs_setR {ad : Nat → Nat} {fs : List (Option (Option Nat))} {f : Nat → Int32} {j : Nat} {r : Nat} (hl : j < fs.length) : (jm_fs ad fs f).set j (.ref (ad r)) = jm_fs ad (fs.set j (some (some r))) f := by
  apply List.ext_getElem?
  intro i
  rw [List.getElem?_set]
  by_cases hi : j = i
  · subst hi
    simp [jm_fs, List.getElem?_mapIdx, hl, jm_fv]
  · rw [if_neg hi]
    simp only [jm_fs, List.getElem?_mapIdx, List.getElem?_set_ne hi]
theorem jm_fs_len {ad : Nat → Nat} {fs : List (Option (Option Nat))} {f : Nat → Int32} : (jm_fs ad fs f).length = fs.length := by simp [jm_fs]
/-- a number is put into a field -/
theorem jr_put {idx : Nat} {q : Nat} (ci j : Nat) {ty : FieldType} {fs : List (Option (Option Nat))} {x : Int32} {Γ : List jm_Sh} {ad : Nat → Nat} {μ : Nat → Nat → Int32} (hf : jm_F M.1.cls idx ci j false ty) (hdg : decode M.2.1 pc = .ok (.putfield idx, 3)) (hg : Γ[q]? = some (.inl (ci, fs))) (hx : fs[j]? = some none) (hn : narrow ty (.int x) = .int x) (hfit : fits ty (.int x) = true) (kk : jm_R g M κ k n (pc + 3) ls st (Γ, ad, jm_st μ q j x)) : jm_R g M κ k n pc ls (.int x :: .ref q :: st) (Γ, ad, μ) := by
  obtain ⟨p, e, s, m, args, below, meth, c, A, Q⟩ := κ
  intro C H locs la hP hD hS hl
  have hl9 := (List.getElem?_eq_some_iff.mp hx).1
  have kk := fun H1 locs1 hP1 hD1 hS1 => kk C H1 locs1 la hP1 hD1 hS1 hl
  obtain ⟨hx1, hb, hml, hr, hown, hts, hlk, hnm, hSa, hRo, hA⟩ := C
  obtain ⟨⟨CN, T, N⟩, t0, ⟨hc, hin, hty, hnd⟩, hj, hl1, hfin, hty0, hcl⟩ := hf
  have e9 : (jm_conc g (Γ, ad, μ)).set q (ad q, .inr (ci, (jm_fs ad fs (μ q)).set j (.int x))) = jm_conc g (Γ, ad, jm_st μ q j x) := by
    rw [jm_fs_set hx]
    exact jm_conc_set g Γ ad μ (upd (μ q) j x) hg
  have h9 := jm_conc_at g (Γ, ad, μ) hg
  refine va_put (D := g.2.1) (cl := vwCl) (ws := jm_conc g (Γ, ad, μ)) (a := ad q) (C := CN) (T := T) (N := N) (ci := ci) (v := .int x) (ty := ty) hx1 hb hts hin t0 hty hnd hown hSa.1 hP hD hS q h9 hc j hj (hts _ hl1) (fun _ h => h) hfin (by rw [← hty0]; exact hty j hj) hn hfit (by rw [jm_fs_len]; exact hl9) hdg (fun H1 locs1 hP1 hD1 hS1 => ?_)
  dsimp only at hP1 hD1
  rw [e9] at hP1 hD1
  exact kk H1 locs1 hP1 hD1 hS1
theorem jr_putI {idx : Nat} {q : Nat} (ci j : Nat) {fs : List (Option (Option Nat))} {x : Int32} {Γ : List jm_Sh} {ad : Nat → Nat} {μ : Nat → Nat → Int32} (hf : jm_F M.1.cls idx ci j false .int) (hdg : decode M.2.1 pc = .ok (.putfield idx, 3)) (hg : Γ[q]? = some (.inl (ci, fs))) (hx : fs[j]? = some none) (kk : jm_R g M κ k n (pc + 3) ls st (Γ, ad, jm_st μ q j x)) : jm_R g M κ k n pc ls (.int x :: .ref q :: st) (Γ, ad, μ) := jr_put ci j hf hdg hg hx rfl rfl kk
/-- a reference is put into a final field, in a constructor -/
theorem jr_putF {idx : Nat} {q r : Nat} (ci j : Nat) {ty : FieldType} {fs : List (Option (Option Nat))} {Γ : List jm_Sh} {ad : Nat → Nat} {μ : Nat → Nat → Int32} (Γ' : List jm_Sh) (hf : jm_F M.1.cls idx ci j true ty) (hown2 : (vwCl[ci]?).map (fun r => r.1) = some M.1.cls) (hinit : M.1.name = "<init>") (hdg : decode M.2.1 pc = .ok (.putfield idx, 3)) (hg : Γ[q]? = some (.inl (ci, fs))) (hj : j < fs.length) (hn : ∀ a : Nat, narrow ty (.ref a) = .ref a) (hfit : ∀ a : Nat, fits ty (.ref a) = true) (hG : Γ.set q (.inl (ci, fs.set j (some (some r)))) = Γ') (kk : jm_R g M κ k n (pc + 3) ls st (Γ', ad, μ)) : jm_R g M κ k n pc ls (.ref r :: .ref q :: st) (Γ, ad, μ) := by
  obtain ⟨p, e, s, m, args, below, meth, c, A, Q⟩ := κ
  intro C H locs la hP hD hS hl
  subst hG
  have kk := fun H1 locs1 hP1 hD1 hS1 => kk C H1 locs1 la hP1 hD1 hS1 hl
  obtain ⟨hx1, hb, hml, hr, hown, hts, hlk, hnm, hSa, hRo, hA⟩ := C
  obtain ⟨⟨CN, T, N⟩, t0, ⟨hc, hin, hty, hnd⟩, hjN, hl1, hfin, hty0, hcl⟩ := hf
  have e9 : (jm_conc g (Γ, ad, μ)).set q (ad q, .inr (ci, (jm_fs ad fs (μ q)).set j (.ref (ad r)))) = jm_conc g (Γ.set q (.inl (ci, fs.set j (some (some r)))), ad, μ) := by
    rw [jm_fs_setR hj]
    exact jm_conc_shape g Γ ad μ (.inl (ci, fs.set j (some (some r)))) (List.getElem?_eq_some_iff.mp hg).1
  have h9 := jm_conc_at g (Γ, ad, μ) hg
  have hdecl : (T j).1 = M.1.cls := by
    rw [hc] at hown2
    have h5 : CN = M.1.cls := by simpa using hown2
    rw [← h5]; exact hcl
  refine va_putF (D := g.2.1) (cl := vwCl) (ws := jm_conc g (Γ, ad, μ)) (a := ad q) (C := CN) (T := T) (N := N) (ci := ci) (v := .ref (ad r)) (ty := ty) hx1 hb hts hin t0 hty hnd hown hSa.1 hP hD hS q h9 hc j hjN (hts _ hl1) (fun _ h => h) hfin (by rw [hnm hinit]; exact hinit) hdecl (by rw [← hty0]; exact hty j hjN) (hn _) (hfit _) (by rw [jm_fs_len]; exact hj) hdg (fun H1 locs1 hP1 hD1 hS1 => ?_)
  dsimp only at hP1 hD1
  rw [e9] at hP1 hD1
  exact kk H1 locs1 hP1 hD1 hS1
theorem jr_iald {q : Nat} {len : Nat} {i : Int32} (hdg : decode M.2.1 pc = .ok (.iaload, 1)) (hg : w.1[q]? = some (.inr (0, len, none))) (hi : vp_in i len) (kk : jm_R g M κ k n (pc + 1) ls (.int (w.2.2 q i.toNatClampNeg) :: st) w) : jm_R g M κ k n pc ls (.int i :: .ref q :: st) w := by
  obtain ⟨p, e, s, m, args, below, meth, c, A, Q⟩ := κ
  intro C H locs la hP hD hS hl
  exact va_iald C.1 C.2.1 C.2.2.2.2.2.2.2.2.1.1 hP q 0 (jm_conc_at g w hg) rfl hi hdg (kk C H locs la hP hD hS hl)
theorem jr_cald {q : Nat} {len : Nat} {i : Int32} (hdg : decode M.2.1 pc = .ok (.caload, 1)) (hg : w.1[q]? = some (.inr (1, len, none))) (hi : vp_in i len) (kk : jm_R g M κ k n (pc + 1) ls (.int (w.2.2 q i.toNatClampNeg) :: st) w) : jm_R g M κ k n pc ls (.int i :: .ref q :: st) w := by
  obtain ⟨p, e, s, m, args, below, meth, c, A, Q⟩ := κ
  intro C H locs la hP hD hS hl
  exact va_cald C.1 C.2.1 C.2.2.2.2.2.2.2.2.1.1 hP q 1 (jm_conc_at g w hg) rfl hi hdg (kk C H locs la hP hD hS hl)
theorem jr_zald {q : Nat} {len : Nat} {i : Int32} (hdg : decode M.2.1 pc = .ok (.baload, 1)) (hg : w.1[q]? = some (.inr (2, len, none))) (hi : vp_in i len) (kk : jm_R g M κ k n (pc + 1) ls (.int (w.2.2 q i.toNatClampNeg) :: st) w) : jm_R g M κ k n pc ls (.int i :: .ref q :: st) w := by
  obtain ⟨p, e, s, m, args, below, meth, c, A, Q⟩ := κ
  intro C H locs la hP hD hS hl
  exact va_zald C.1 C.2.1 C.2.2.2.2.2.2.2.2.1.1 hP q 2 (jm_conc_at g w hg) rfl hi hdg (kk C H locs la hP hD hS hl)
theorem jr_aald {q : Nat} {len kd : Nat} {i : Int32} {f : Nat → Option Nat} (hdg : decode M.2.1 pc = .ok (.aaload, 1)) (hg : w.1[q]? = some (.inr (kd, len, some f))) (hkd : kd = 3 ∨ kd = 4) (hi : vp_in i len) (r : Nat) (hr : f i.toNatClampNeg = some r) (kk : jm_R g M κ k n (pc + 1) ls (.ref r :: st) w) : jm_R g M κ k n pc ls (.int i :: .ref q :: st) w := by
  obtain ⟨p, e, s, m, args, below, meth, c, A, Q⟩ := κ
  intro C H locs la hP hD hS hl
  rcases hkd with rfl | rfl
  · refine va_aldq C.1 C.2.1 C.2.2.2.2.2.2.2.2.1.1 hP q 3 (jm_conc_at g w hg) rfl hi hdg ?_
    rw [hr]
    exact kk C H locs la hP hD hS hl
  · refine va_aldq C.1 C.2.1 C.2.2.2.2.2.2.2.2.1.1 hP q 4 (jm_conc_at g w hg) rfl hi hdg ?_
    rw [hr]
    exact kk C H locs la hP hD hS hl
/-- a read of an array that is only read -/
theorem jr_rald {i : Int32} {r : Nat} (hr : r < 3) (hdg : decode M.2.1 pc = .ok (.iaload, 1)) (hi : vp_in i (g.2.2.2.2.1 r)) (kk : jm_R g M κ k n (pc + 1) ls (.int (g.2.2.2.2.2 r i.toNatClampNeg) :: st) w) : jm_R g M κ k n pc ls (.int i :: .retAddr r :: st) w := by
  obtain ⟨p, e, s, m, args, below, meth, c, A, Q⟩ := κ
  intro C H locs la hP hD hS hl
  exact va_ti C.1 C.2.1 (C.2.2.2.2.2.2.2.2.2.1.1 r hr) hS hi rfl hdg (kk C H locs la hP hD hS hl)
theorem jr_rlen {r : Nat} (hr : r < 3) (hdg : decode M.2.1 pc = .ok (.arraylength, 1)) (kk : jm_R g M κ k n (pc + 1) ls (.int (Int32.ofNat (g.2.2.2.2.1 r)) :: st) w) : jm_R g M κ k n pc ls (.retAddr r :: st) w := by
  obtain ⟨p, e, s, m, args, below, meth, c, A, Q⟩ := κ
  intro C H locs la hP hD hS hl
  exact va_tlen C.1 C.2.1 (C.2.2.2.2.2.2.2.2.2.1.1 r hr) hS rfl hdg (kk C H locs la hP hD hS hl)
theorem jr_lowest {idx : Nat} (hdg : decode M.2.1 pc = .ok (.getstatic idx, 3)) (hw : Cond.fieldLink M.1.cls idx RX8 "LOWEST" "[I" ∈ jm_TB) (kk : jm_R g M κ k n (pc + 3) ls (.retAddr 0 :: st) w) : jm_R g M κ k n pc ls st w := by
  obtain ⟨p, e, s, m, args, below, meth, c, A, Q⟩ := κ
  intro C H locs la hP hD hS hl
  exact va_gets C.1 C.2.1 C.2.2.2.2.2.2.2.2.2.1.2.1 hS C.2.2.2.2.1 (C.2.2.2.2.2.1 _ hw) (fun _ h => h) hdg (kk C H locs la hP hD hS hl)
theorem jr_highest {idx : Nat} (hdg : decode M.2.1 pc = .ok (.getstatic idx, 3)) (hw : Cond.fieldLink M.1.cls idx RX8 "HIGHEST" "[I" ∈ jm_TB) (kk : jm_R g M κ k n (pc + 3) ls (.retAddr 1 :: st) w) : jm_R g M κ k n pc ls st w := by
  obtain ⟨p, e, s, m, args, below, meth, c, A, Q⟩ := κ
  intro C H locs la hP hD hS hl
  exact va_gets C.1 C.2.1 C.2.2.2.2.2.2.2.2.2.1.2.2 hS C.2.2.2.2.1 (C.2.2.2.2.2.1 _ hw) (fun _ h => h) hdg (kk C H locs la hP hD hS hl)
theorem jr_alen {q : Nat} {len kd : Nat} (hdg : decode M.2.1 pc = .ok (.arraylength, 1)) (hg : w.1[q]? = some (.inr (kd, len, none))) (hkd : kd < 3) (v : Int32) (hv : Int32.ofNat len = v) (kk : jm_R g M κ k n (pc + 1) ls (.int v :: st) w) : jm_R g M κ k n pc ls (.ref q :: st) w := by
  obtain ⟨p, e, s, m, args, below, meth, c, A, Q⟩ := κ
  intro C H locs la hP hD hS hl
  subst hv
  have h9 := jm_conc_at g w hg
  rcases (show kd = 0 ∨ kd = 1 ∨ kd = 2 by omega) with rfl | rfl | rfl
  · exact va_alen C.1 C.2.1 C.2.2.2.2.2.2.2.2.1.1 hP q 0 h9 rfl rfl hdg (kk C H locs la hP hD hS hl)
  · exact va_alen C.1 C.2.1 C.2.2.2.2.2.2.2.2.1.1 hP q 1 h9 rfl rfl hdg (kk C H locs la hP hD hS hl)
  · exact va_alen C.1 C.2.1 C.2.2.2.2.2.2.2.2.1.1 hP q 2 h9 rfl rfl hdg (kk C H locs la hP hD hS hl)
theorem jr_iast {q : Nat} {len : Nat} {i x : Int32} {Γ : List jm_Sh} {ad : Nat → Nat} {μ : Nat → Nat → Int32} (hdg : decode M.2.1 pc = .ok (.iastore, 1)) (hg : Γ[q]? = some (.inr (0, len, none))) (hi : vp_in i len) (kk : jm_R g M κ k n (pc + 1) ls st (Γ, ad, jm_st μ q i.toNatClampNeg x)) : jm_R g M κ k n pc ls (.int x :: .int i :: .ref q :: st) (Γ, ad, μ) := by
  obtain ⟨p, e, s, m, args, below, meth, c, A, Q⟩ := κ
  intro C H locs la hP hD hS hl
  have e9 : (jm_conc g (Γ, ad, μ)).set q (ad q, .inl (g.2.2.1 0, len, .inl (upd (μ q) i.toNatClampNeg x))) = jm_conc g (Γ, ad, jm_st μ q i.toNatClampNeg x) := jm_conc_set g Γ ad μ (upd (μ q) i.toNatClampNeg x) hg
  refine va_iast C.1 C.2.1 C.2.2.2.2.2.2.2.2.1.1 hP hD hS q 0 (jm_conc_at g (Γ, ad, μ) hg) rfl hi hdg (fun H1 locs1 hP1 hD1 hS1 => ?_)
  dsimp only at hP1 hD1
  rw [e9] at hP1 hD1
  exact kk C H1 locs1 la hP1 hD1 hS1 hl
theorem jr_cast {q : Nat} {len : Nat} {i x : Int32} {Γ : List jm_Sh} {ad : Nat → Nat} {μ : Nat → Nat → Int32} (hdg : decode M.2.1 pc = .ok (.castore, 1)) (hg : Γ[q]? = some (.inr (1, len, none))) (hi : vp_in i len) (kk : jm_R g M κ k n (pc + 1) ls st (Γ, ad, jm_st μ q i.toNatClampNeg (vp_nar .char x))) : jm_R g M κ k n pc ls (.int x :: .int i :: .ref q :: st) (Γ, ad, μ) := by
  obtain ⟨p, e, s, m, args, below, meth, c, A, Q⟩ := κ
  intro C H locs la hP hD hS hl
  have e9 : (jm_conc g (Γ, ad, μ)).set q (ad q, .inl (g.2.2.1 1, len, .inl (upd (μ q) i.toNatClampNeg (vp_nar .char x)))) = jm_conc g (Γ, ad, jm_st μ q i.toNatClampNeg (vp_nar .char x)) := jm_conc_set g Γ ad μ (upd (μ q) i.toNatClampNeg (vp_nar .char x)) hg
  refine va_cast C.1 C.2.1 C.2.2.2.2.2.2.2.2.1.1 hP hD hS q 1 (jm_conc_at g (Γ, ad, μ) hg) rfl hi hdg (fun H1 locs1 hP1 hD1 hS1 => ?_)
  dsimp only at hP1 hD1
  rw [e9] at hP1 hD1
  exact kk C H1 locs1 la hP1 hD1 hS1 hl
theorem jr_zast {q : Nat} {len : Nat} {i x : Int32} {Γ : List jm_Sh} {ad : Nat → Nat} {μ : Nat → Nat → Int32} (hdg : decode M.2.1 pc = .ok (.bastore, 1)) (hg : Γ[q]? = some (.inr (2, len, none))) (hi : vp_in i len) (kk : jm_R g M κ k n (pc + 1) ls st (Γ, ad, jm_st μ q i.toNatClampNeg (vp_nar .boolean x))) : jm_R g M κ k n pc ls (.int x :: .int i :: .ref q :: st) (Γ, ad, μ) := by
  obtain ⟨p, e, s, m, args, below, meth, c, A, Q⟩ := κ
  intro C H locs la hP hD hS hl
  have e9 : (jm_conc g (Γ, ad, μ)).set q (ad q, .inl (g.2.2.1 2, len, .inl (upd (μ q) i.toNatClampNeg (vp_nar .boolean x)))) = jm_conc g (Γ, ad, jm_st μ q i.toNatClampNeg (vp_nar .boolean x)) := jm_conc_set g Γ ad μ (upd (μ q) i.toNatClampNeg (vp_nar .boolean x)) hg
  refine va_zast C.1 C.2.1 C.2.2.2.2.2.2.2.2.1.1 hP hD hS q 2 (jm_conc_at g (Γ, ad, μ) hg) rfl hi hdg (fun H1 locs1 hP1 hD1 hS1 => ?_)
  dsimp only at hP1 hD1
  rw [e9] at hP1 hD1
  exact kk C H1 locs1 la hP1 hD1 hS1 hl
end JMB
