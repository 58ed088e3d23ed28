section JEN
theorem jm_known {s : State} {args : Array Value} (hts : ∀ w ∈ jm_TB, w.before args s = true) : ∃ (dC : Nat → ClassId) (dI : Nat → Nat → Nat), ∀ (k : Nat) (q : vw_C), vwCl[k]? = some q → u_Kn s q.1 q.2.1 q.2.2 (dC k) (dI k) := by
  have one : ∀ {C : String} {T : u_T} {N : Nat}, (∀ w ∈ u_ws C T N, w ∈ jm_TB) → Cond.instantiable C N ∈ jm_TB → ∀ {k : Nat}, vwCl[k]? = some (C, T, N) → ∃ r : ClassId × (Nat → Nat), ∀ q : vw_C, vwCl[k]? = some q → u_Kn s q.1 q.2.1 q.2.2 r.1 r.2 := by
    intro C T N hin hi k hk
    obtain ⟨c, iS, h⟩ := u_known hts hin (hts _ hi)
    refine ⟨(c, iS), fun q hq => ?_⟩
    have e : (C, T, N) = q := Option.some.inj (hk.symm.trans hq)
    subst e
    exact h
  have h0 : ∀ k : Nat, ∃ r : ClassId × (Nat → Nat), ∀ q : vw_C, vwCl[k]? = some q → u_Kn s q.1 q.2.1 q.2.2 r.1 r.2 := by
    intro k
    match k with
    | 0 => exact one jl_in0 tw_154 rfl
    | 1 => exact one jl_in1 tw_160 rfl
    | 2 => exact one jl_in2 tw_135 rfl
    | 3 => exact one jl_in3 tw_64 rfl
    | 4 => exact one jl_in4 tw_85 rfl
    | 5 => exact one jl_in5 tw_105 rfl
    | 6 => exact one jl_in6 tw_204 rfl
    | 7 => exact one jl_in7 tw_197 rfl
    | 8 => exact one jl_in8 tw_56 rfl
    | 9 => exact one jl_in9 tw_585 rfl
    | k + 10 => exact ⟨(0, fun _ => 0), fun q hq => by simp at hq⟩
  obtain ⟨r, hr⟩ := Classical.axiomOfChoice h0
  exact ⟨fun k => (r k).1, fun k => (r k).2, hr⟩
theorem jm_arrP {s : State} {args : Array Value} {ty : FieldType} (h : (Cond.arrayClass ty).before args s = true) (hk : ∀ cA : ClassId, s.vm.findClass ("[" ++ ty.toString) = some cA → va_RA s cA ty) : ∃ cA : ClassId, ArrOfT s cA ty ∧ va_RA s cA ty := by
  obtain ⟨c, k, comp, h1, h2, h3⟩ := Cond.arrayClass_spec (args := args) (first := s) (o := none) (s := s) (idx := []) h
  exact ⟨c, fun N z => ⟨(fun k h => by cases h), k, h2, comp, h3⟩, hk c h1⟩
theorem jm_arrQ {s : State} {C : String} (h : va_AO C s) : ∃ cA : ClassId, ArrOfT s cA (.object C) ∧ va_RA s cA (.object C) := by
  obtain ⟨comp, c, k, h1, h2, h3, h4, h5⟩ := Cond.arrayOver_spec h
  exact ⟨c, fun N z => ⟨(fun k h => by cases h), k, h3, comp, h4⟩, k, comp, h3, h4, h1, h5⟩
/-- a static array of three ints, as the Statement gives it -/
theorem jm_bnd {s : State} {args : Array Value} {A : Nat → Prop} {nm : String} {z0 z1 z2 : Int32} (V : Nat → Int32) (v0 : V 0 = z0) (v1 : V 1 = z1) (v2 : V 2 = z2) (hl : (Cond.laysStatic RX8 nm "[I").before args s = true) (hini : (Cond.initialized RX8).before args s = true) (harr : (Cond.arrayOf (.static RX8 nm "[I") .int).before args s = true) (hlen : (Cond.eq (.length (.static RX8 nm "[I")) (.int 3)).before args s = true)
    (e0 : (Cond.eq (.elem (.static RX8 nm "[I") (.int 0)) (.int z0)).before args s = true) (e1 : (Cond.eq (.elem (.static RX8 nm "[I") (.int 1)) (.int z1)).before args s = true) (e2 : (Cond.eq (.elem (.static RX8 nm "[I") (.int 2)) (.int z2)).before args s = true) (hA : ∀ a : Nat, a < s.heap.size → ¬ A a) :
    ∃ t : Nat, va_T .int t 3 (fun j => .int (V j)) A s s.heap ∧ va_Z RX8 nm "[I" (.ref t) A s s.heap := by
  subst v0 v1 v2
  obtain ⟨t, h1, h2⟩ := va_Tof (tm := .static RX8 nm "[I") (ty := .int) (N := 3) (f := fun j => .int (V j)) (A := A) (by decide) harr (va_eqt hlen) (fun j hj => by
    rcases (show j = 0 ∨ j = 1 ∨ j = 2 by omega) with rfl | rfl | rfl
    · exact va_eqt e0
    · exact va_eqt e1
    · exact va_eqt e2) hA
  exact ⟨t, h2, va_Zref hl hini h1 hA⟩
theorem jm_script {s : State} {A : Nat → Prop} {b L : Nat} {xs : Nat → Int32} (hX : va_X b L xs s s.heap) (hb : ¬ A b) : va_T .int b L (fun j => .int (xs j)) A s s.heap := by
  obtain ⟨scr, h1, h2, h3, h4, h5⟩ := hX
  exact ⟨scr, h1, h2, h3, Nat.le_of_eq h4.symm, by rw [h4], h5, hb⟩
def lowV (j : Nat) : Int32 := ii (loS (j : Int))
def hiV (j : Nat) : Int32 := ii (hiS (j : Int))
set_option maxHeartbeats 1500000 in
/-- what stays over the whole run, from the law's entry -/
theorem jm_world {p : Program} {s : State} {m : MethodId} {meth : Method} {c : Code} (l : Launch) {b L : Nat} {xs : Nat → Int32} (C0 : lw_At p s m meth c b L xs) :
    ∃ g : jm_G, g.1 = l ∧ jm_Sa g s ∧ jm_Ro g (fun q : Nat => s.heap.size ≤ q) s s.heap ∧ gOK g ∧ g.2.2.2.2.1 2 = L ∧ g.2.2.2.1 2 = b := by
  obtain ⟨hx, hb, hr, hml, hown, hts, hX, hbl, hlocks, hgv⟩ := C0
  have htb : ∀ w ∈ jm_TB, w.before #[Value.ref b] s = true := fun w hw => hts w (List.mem_filter.mp hw).1
  have hs := flat_of_before _ hgv
  have hA : ∀ a : Nat, a < s.heap.size → ¬ (fun q : Nat => s.heap.size ≤ q) a := fun a h => Nat.not_le.mpr h
  obtain ⟨dC, dI, hKc⟩ := jm_known htb
  have hq3 : va_AO RX3 s := va_AO.of (hts (.arrayOver (.object RX3)) (by decide +kernel))
  have hq6 : va_AO RX6 s := va_AO.of (hts (.arrayOver (.object RX6)) (by decide +kernel))
  obtain ⟨a0, p0⟩ := jm_arrP (htb _ ja_int) (fun _ h => h)
  obtain ⟨a1, p1⟩ := jm_arrP (htb _ ja_char) (fun _ h => h)
  obtain ⟨a2, p2⟩ := jm_arrP (htb _ ja_boolean) (fun _ h => h)
  obtain ⟨a3, p3⟩ := jm_arrQ hq3
  obtain ⟨a4, p4⟩ := jm_arrQ hq6
  obtain ⟨t0, hT0, hZ0⟩ := jm_bnd (nm := "LOWEST") (z0 := -30) (z1 := 100) (z2 := 0) (A := fun q : Nat => s.heap.size ≤ q) lowV (by decide) (by decide) (by decide) (hts _ (by decide +kernel)) (htb _ tw_43) (hs _ (by decide +kernel)) (hs _ (by decide +kernel)) (hs _ (by decide +kernel)) (hs _ (by decide +kernel)) (hs _ (by decide +kernel)) hA
  obtain ⟨t1, hT1, hZ1⟩ := jm_bnd (nm := "HIGHEST") (z0 := 50) (z1 := 4000) (z2 := 300) (A := fun q : Nat => s.heap.size ≤ q) hiV (by decide) (by decide) (by decide) (hts _ (by decide +kernel)) (htb _ tw_43) (hs _ (by decide +kernel)) (hs _ (by decide +kernel)) (hs _ (by decide +kernel)) (hs _ (by decide +kernel)) (hs _ (by decide +kernel)) hA
  refine ⟨(l, (dC, dI), (fun k => match k with | 0 => a0 | 1 => a1 | 2 => a2 | 3 => a3 | _ => a4), (fun i => match i with | 0 => t0 | 1 => t1 | _ => b), (fun i => match i with | 0 => 3 | 1 => 3 | _ => L), (fun i => match i with | 0 => lowV | 1 => hiV | _ => xs)), rfl, ⟨⟨hKc, fun k q hk => ?_⟩, fun w hw => ?_, hq3, hq6⟩, ⟨fun i hi => ?_, hZ0, hZ1⟩, ⟨rfl, rfl, fun a h1 h2 => ?_⟩, rfl, rfl⟩
  · match k, hk with
    | 0, hk => cases hk; exact p0
    | 1, hk => cases hk; exact p1
    | 2, hk => cases hk; exact p2
    | 3, hk => cases hk; exact p3
    | 4, hk => cases hk; exact p4
    | k + 5, hk => simp [jm_tys] at hk
  · obtain ⟨h1, h2⟩ := List.mem_filter.mp hw
    have h3 := hts w h1
    cases w <;> simp [jm_isN] at h2
    exact va_Nw.of rfl h3
  · match i, hi with
    | 0, _ => exact hT0
    | 1, _ => exact hT1
    | 2, _ => exact jm_script hX (hA b hbl)
    | i + 3, hi => exact absurd hi (by omega)
  · have e : ((a.toNat : Nat) : Int) = a := by omega
    show lowV a.toNat = _ ∧ hiV a.toNat = _
    unfold lowV hiV
    rw [e]
    exact ⟨rfl, rfl⟩
set_option maxHeartbeats 1500000 in
/-- THE LAW, from its entry -/
theorem whole_start {p : Program} {e : Env} {s : State} {m : MethodId} {below : List Frame} {meth : Method} {c : Code} (l : Launch) (hflags : l.flags = flags0) {b L : Nat} {xs : Nat → Int32} (hL : L ≤ 2048) (C0 : lw_At p s m meth c b L xs) : W p l e room_1 s m #[Value.ref b] below meth c s.heap [] 0 0 (lw_Z below #[Value.ref b] s) (entryFrame m ([Value.ref b] : List Value).toArray 4) := by
  obtain ⟨g, hgl, hSa, hRo, hgo, hgL, hgb⟩ := jm_world l C0
  obtain ⟨hx, hb, hr, hml, hown, hts, hX, hbl, hlocks, hgv⟩ := C0
  have htb : ∀ w ∈ jm_TB, w.before #[Value.ref b] s = true := fun w hw => hts w (List.mem_filter.mp hw).1
  subst hgl
  have hl := lv_entry ([.ref b]) (n := 4) (Nat.le_of_ble_eq_true rfl)
  rw [lg_entry_eq]
  generalize (lg_sl ([.ref b]) ++ List.replicate (4 - (lg_sl ([.ref b])).length) Slot.unset).toArray = ls at hl ⊢
  have hl : lv_has ls 4 [(0, .ref b)] := hl
  have R : jm_R g m_L_law (p, e, s, m, #[Value.ref b], below, meth, c, (fun q : Nat => s.heap.size ≤ q), lw_Z below #[Value.ref b] s) 0 0 0 [some (.retAddr 2), none, none, none] [] ([], (fun _ => 0), fun _ _ => 0) := by
    refine law_start hgo (by rw [hgL]; exact hL) (fun ad' i μ' => ?_)
    intro C H locs la hP hD hS hl
    refine va_forget (fun q hq => hS.2.2 q hq) ?_
    refine W.widen (k := 600000) (n := 7302250) (by omega) (by omega) ?_
    exact lw_ret hx hb hr hlocks dL_law_702
  refine R ⟨hx, hb, hml, hr, hown, htb, hlocks, fun h => absurd h (by decide), hSa, hRo, fun q h => h⟩ s.heap [] ls (fun k q h => by simp [jm_conc] at h) ⟨fun i j p q h => by simp [jm_conc] at h, fun k q h => by simp [jm_conc] at h⟩ va_S.rf (jm_has hl (fun q hq => ?_))
  have e9 : jm_ls g.2.2.2.1 (fun _ => 0) [some (.retAddr 2), none, none, none] = [(0, .ref b)] := by rw [← hgb]; rfl
  dsimp only at hq
  rw [e9] at hq
  exact hq
end JEN
