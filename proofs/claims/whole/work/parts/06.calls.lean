section JMD
variable {g : jm_G} {M M2 : jm_M} {κ : jm_K} {k n pc : Nat} {ls : List (Option Value)} {st : List Value} {w : jm_W}
abbrev jm_ps (v : Option Value) (st : List Value) : List Value := match v with
  | none => st
  | some x => x :: st
theorem jm_ps_map {ro ad : Nat → Nat} (v : Option Value) (st : List Value) : (jm_ps v st).map (jm_tr ro ad) = jm_ps (v.map (jm_tr ro ad)) (st.map (jm_tr ro ad)) := by cases v <;> rfl
theorem jm_back {p : Program} {e : Env} {R : Room} {s : State} {m : MethodId} {args : Array Value} {below : List Frame} {meth : Method} {c : Code} {H : Heap} {locs : List Loc} {cells slots mc ms : Nat} {Q : State → Prop} {la : Array Slot} {st0 rest : List Value} {a : Array Value} {A A1 free : Nat → Prop} {P : Option Value → jm_W → Prop}
    (hr : va_Run p g.1 e R s m args below meth c H locs cells slots mc ms (F0 m pc la st0) rest (jm_Qc g P A1 a) free) (hS : va_S A s.heap H locs) (hA : ∀ q, q < H.size → A1 q → A q) (hf : ∀ q, free q → A q)
    (kk : ∀ (v : Option Value) (w' : jm_W) (H1 : Heap) (locs1 : List Loc), P v w' → va_P g.2.1 vwCl (jm_conc g w') H1 → va_D A1 (jm_conc g w') → va_S A s.heap H1 locs1 → W p g.1 e R s m args below meth c H1 locs1 (cells + mc) (slots + ms) Q (F0 m (pc + 3) la (jm_ps (v.map (jm_tr g.2.2.2.1 w'.2.1)) rest))) : W p g.1 e R s m args below meth c H locs cells slots Q (F0 m pc la st0) := by
  intro T hT X
  obtain ⟨v0, st₀, t, T', L, h0, X', hL, e1, e2, ⟨⟨v, w', hv, hp, hP1, hD1⟩, hz, hk⟩, st⟩ := hr T hT X
  have hv2 : v0 = v.map (jm_tr g.2.2.2.1 w'.2.1) := by injection hv
  subst hv2
  rw [h0] at hz hk
  obtain ⟨t2, a1, b1⟩ := kk v w' T'.heap (locs ++ L) hp (by rw [e1]; exact hP1) hD1
    ⟨Nat.le_trans hS.1 (by rw [e1]; exact hz), fun q h1 h2 => by rw [e1, hk q (Nat.lt_of_lt_of_le h1 hS.1) (fun z => h2 (hA q (Nat.lt_of_lt_of_le h1 hS.1) z))]; exact hS.2.1 q h1 h2, fun q hq => by
      rcases List.mem_append.mp hq with h | h
      · exact hS.2.2 q h
      · exact hf _ (hL q h)⟩ T' rfl X'
  refine ⟨t2, st t2 ?_, b1⟩
  have e9 : (v.map (jm_tr g.2.2.2.1 w'.2.1)).toList ++ rest = jm_ps (v.map (jm_tr g.2.2.2.1 w'.2.1)) rest := by cases v <;> rfl
  show Steps p.tables e below (T'.setTop (F0 m (pc + 3) la ((v.map (jm_tr g.2.2.2.1 w'.2.1)).toList ++ rest))) t2
  rw [e9]
  exact a1
theorem jm_blind {av : List Value} {A : Nat → Prop} {sz : Nat} : FrameBlind (va_Pc av (fun U => U.heap.size = sz ∧ jm_Pre g w A U)) := by
  intro a U fr mk q
  obtain ⟨q0, q1, qP, qD, qS, qR⟩ := q
  exact ⟨q0, q1, qP, qD, qS.same (u := U) (U := U.calling fr mk a) rfl, qR.moved (U := U.calling fr mk a) (Vm.Alike.refl U.vm)⟩
/-- the callee's start, out of the caller's state -/
theorem jm_enter {p : Program} {s : State} {m : MethodId} {args : Array Value} {meth : Method} {c : Code} {A : Nat → Prop} {H : Heap} {locs : List Loc} (C : jm_C g M p s m args meth c A) (hP : va_P g.2.1 vwCl (jm_conc g w) H) (hD : va_D A (jm_conc g w)) (hS : va_S A s.heap H locs) (av : List Value) : ∀ U : State, U.heap = H → s.WarmedH U.vm → va_Pc (av.map (jm_tr g.2.2.2.1 w.2.1)) (fun U => U.heap.size = H.size ∧ jm_Pre g w (va_A (jm_conc g w) H.size) U) (av.map (jm_tr g.2.2.2.1 w.2.1)).toArray U := by
  intro U hU hW
  obtain ⟨hx1, hb, hml, hr, hown, hts, hlk, hnm, hSa, hRo, hA⟩ := C
  refine ⟨rfl, by rw [hU], by rw [hU]; exact hP, hD.weaken (fun _ _ _ _ => trivial), hSa.warm hW, ?_⟩
  rw [hU]
  refine jm_Ro.narrow ((hRo.moved hW.alike).kept (fun a ha hna => hS.2.1 a ha hna)) (fun q hq => ?_)
  rcases hq with ⟨i, e, h⟩ | h
  · exact hD.2 i _ h
  · exact hA q (Nat.le_trans hS.1 h)
theorem jm_AA {A : Nat → Prop} {H0 H : Heap} {locs : List Loc} (hA : ∀ q, H0.size ≤ q → A q) (hD : va_D A (jm_conc g w)) (hS : va_S A H0 H locs) : ∀ q, va_A (jm_conc g w) H.size q → A q := by
  intro q hq
  rcases hq with ⟨i, e, h⟩ | h
  · exact hD.2 i _ h
  · exact hA q (Nat.le_trans hS.1 h)
/-- the rooms fit: caller, callee -/
def jm_fit (M M2 : jm_M) : Bool := decide (M2.2.2.2.2.frames + 1 ≤ M.2.2.2.2.frames) && decide (8 + (M2.2.2.1 + 11) + M2.2.2.2.2.locals ≤ M.2.2.2.2.locals)
theorem jm_fit_of (h : jm_fit M M2 = true) : M2.2.2.2.2.frames + 1 ≤ M.2.2.2.2.frames ∧ 8 + (M2.2.2.1 + 11) + M2.2.2.2.2.locals ≤ M.2.2.2.2.locals := by
  simpa [jm_fit] using h
def jm_desc (y : MethodName) (np : Nat) : Prop := y.cls ≠ "java/lang/invoke/MethodHandle" ∧ y.cls ≠ "java/lang/invoke/VarHandle" ∧ (parseMethodDescriptor y.desc).map (fun d => d.parameters.length) = some np
/-- links of calls: own, place in its pool, the method, how many arguments -/
def jm_LV (own : String) (idx : Nat) (M2 : jm_M) (np : Nat) : Prop := (Cond.methodLink own idx M2.1 ∈ jm_TB ∧ Cond.instanceMethod M2.1 ∈ jm_TB ∧ Cond.selects M2.1.cls M2.1 M2.1 ∈ jm_TB ∧ Cond.initialized M2.1.cls ∈ jm_TB ∧ Cond.code M2.1 M2.2.1 M2.2.2.1 M2.2.2.2.1 ∈ jm_TB) ∧ jm_desc M2.1 np
def jm_LS (own : String) (idx : Nat) (M2 : jm_M) (np : Nat) : Prop := (Cond.methodLink own idx M2.1 ∈ jm_TB ∧ Cond.static M2.1 ∈ jm_TB ∧ Cond.initialized M2.1.cls ∈ jm_TB ∧ Cond.code M2.1 M2.2.1 M2.2.2.1 M2.2.2.2.1 ∈ jm_TB) ∧ jm_desc M2.1 np
def jm_LI (own : String) (idx : Nat) (M2 : jm_M) (np : Nat) : Prop := (Cond.methodLink own idx M2.1 ∈ jm_TB ∧ Cond.instanceMethod M2.1 ∈ jm_TB ∧ Cond.initialized M2.1.cls ∈ jm_TB ∧ Cond.code M2.1 M2.2.1 M2.2.2.1 none ∈ jm_TB ∧ M2.1.name = "<init>" ∧ M2.2.2.2.1 = none) ∧ jm_desc M2.1 np
def jm_LNS (own : String) (idx : Nat) (M2 : jm_M) (np : Nat) : Prop := (∃ host, Cond.methodLinkNest own idx M2.1 host ∈ jm_NB) ∧ (Cond.static M2.1 ∈ jm_TB ∧ Cond.initialized M2.1.cls ∈ jm_TB ∧ Cond.code M2.1 M2.2.1 M2.2.2.1 M2.2.2.2.1 ∈ jm_TB) ∧ jm_desc M2.1 np
def jm_LNI (own : String) (idx : Nat) (M2 : jm_M) (np : Nat) : Prop := (∃ host, Cond.methodLinkNest own idx M2.1 host ∈ jm_NB) ∧ (Cond.instanceMethod M2.1 ∈ jm_TB ∧ Cond.initialized M2.1.cls ∈ jm_TB ∧ Cond.code M2.1 M2.2.1 M2.2.2.1 none ∈ jm_TB ∧ M2.1.name = "<init>" ∧ M2.2.2.2.1 = none) ∧ jm_desc M2.1 np
theorem jm_gpre {pre : List Cond} (h1 : ∀ w ∈ pre, w ∈ jm_TB) (hc : Cond.code M2.1 M2.2.1 M2.2.2.1 M2.2.2.2.1 ∈ jm_TB) : GoodIn jm_TB (pre ++ jm_ws M2) := by
  intro w hw
  rcases List.mem_append.mp hw with h | h
  · exact jm_good w (h1 w h)
  · exact jm_gws hc w h
theorem jm_cat {ro ad : Nat → Nat} : ∀ st : List Value, (st.all fun v => match v with | .retAddr _ => false | _ => true) = true → ((st.map (jm_tr ro ad)).map fun v => v.category) = st.map fun v => v.category := by
  intro st
  induction st with
  | nil => intro _; rfl
  | cons v st ih =>
    intro h
    simp only [List.all_cons, Bool.and_eq_true] at h
    simp only [List.map_cons]
    rw [ih h.2]
    congr 1
    cases v <;> first | rfl | simp at h
/-- the stack below the arguments is small -/
def jm_low (st : List Value) : Bool := (st.all fun v => match v with | .retAddr _ => false | _ => true) && decide ((st.map fun v => v.category).sum ≤ 8)
theorem jm_low_of {ro ad : Nat → Nat} (h : jm_low st = true) : ((st.map (jm_tr ro ad)).map fun v => v.category).sum ≤ 8 := by
  simp only [jm_low, Bool.and_eq_true, decide_eq_true_eq] at h
  rw [jm_cat st h.1]
  exact h.2
theorem jr_callV {idx np q : Nat} {st0 : List Value} (As : List Value) {ci : Nat} {fs : List (Option (Option Nat))} (hL : jm_LV M.1.cls idx M2 np) (hfit : jm_fit M M2 = true) (hdg : decode M.2.1 pc = .ok (.invokevirtual idx, 3)) (hg : w.1[q]? = some (.inl (ci, fs))) (hci : (vwCl[ci]?).map (fun r => r.1) = some M2.1.cls) (hst : st0 = As.reverse ++ .ref q :: st) (hnp : As.length = np) (hlow : jm_low st = true) (hmc : decide (k + M2.2.2.2.2.cells ≤ M.2.2.2.2.cells ∧ n + M2.2.2.2.2.slots ≤ M.2.2.2.2.slots) = true)
    (kk : jm_Cp g M2 (.ref q :: As) w (fun v w' => w'.2.1 = w.2.1 ∧ jm_R g M κ (k + M2.2.2.2.2.cells) (n + M2.2.2.2.2.slots) (pc + 3) ls (jm_ps v st) w')) : jm_R g M κ k n pc ls st0 w := by
  subst hst
  obtain ⟨p, e, s, m, args, below, meth, c, A, Q⟩ := κ
  intro C H locs la hP hD hS hl
  have C2 := C
  obtain ⟨hx1, hb, hml, hr, hown, hts, hlk, hnm, hSa, hRo, hA⟩ := C2
  obtain ⟨⟨b1, b2, b3, b4, b5⟩, hd1, hd2, hd3⟩ := hL
  have hgood : GoodIn jm_TB (wsV M.1.cls idx M2.1.cls M2.1 (jm_ws M2)) := jm_gpre (fun w hw => by
    rcases List.mem_cons.mp hw with rfl | hw
    · exact b1
    rcases List.mem_cons.mp hw with rfl | hw
    · exact b2
    rcases List.mem_cons.mp hw with rfl | hw
    · exact b3
    rcases List.mem_cons.mp hw with rfl | hw
    · exact b4
    cases hw) b5
  have hrecv : ∃ cellB : Cell, H[w.2.1 q]? = some cellB ∧ cellB.vm.isStatics = false ∧ s.vm.findClass M2.1.cls = some cellB.cls := by
    cases hz : vwCl[ci]? with
    | none => rw [hz] at hci; cases hci
    | some r =>
      rw [hz] at hci
      have e1 : r.1 = M2.1.cls := by simpa using hci
      rw [← e1]
      exact va_recv hSa.1 hP hz (jm_conc_at g w hg)
  have hAA := jm_AA hA hD hS
  refine jm_back (A := A) (va_runV (C := M2.1.cls) (As := As.map (jm_tr g.2.2.2.1 w.2.1)) (rest := st.map (jm_tr g.2.2.2.1 w.2.1)) ⟨hx1, hb, hml, hown, hts⟩ (kk H.size) (cwV np hts hgood rfl rfl rfl ⟨rfl, hd1, hd2, hd3⟩ (jm_fit_of hfit)) ⟨jm_blind, hrecv, jm_enter C hP hD hS (.ref q :: As)⟩ rfl (by rw [List.length_map]; exact hnp) hl.1 (by simp [jm_tr]) (lv_room (jm_low_of hlow)) hdg (of_decide_eq_true hmc)) hS (fun q _ h => hAA q h) hAA (fun v w' H1 locs1 hp hP1 hD1 hS1 => ?_)
  obtain ⟨hw', hR⟩ := hp
  have h9 := hR C H1 locs1 la hP1 (hD1.weaken (fun _ _ _ h => hAA _ h)) hS1 (by rw [hw']; exact hl)
  rw [jm_ps_map, hw'] at h9
  rw [hw']
  exact h9
theorem jr_callS {idx np : Nat} {st0 : List Value} (As : List Value) (hL : jm_LS M.1.cls idx M2 np) (hfit : jm_fit M M2 = true) (hdg : decode M.2.1 pc = .ok (.invokestatic idx, 3)) (hst : st0 = As.reverse ++ st) (hnp : As.length = np) (hlow : jm_low st = true) (hmc : decide (k + M2.2.2.2.2.cells ≤ M.2.2.2.2.cells ∧ n + M2.2.2.2.2.slots ≤ M.2.2.2.2.slots) = true)
    (kk : jm_Cp g M2 As w (fun v w' => w'.2.1 = w.2.1 ∧ jm_R g M κ (k + M2.2.2.2.2.cells) (n + M2.2.2.2.2.slots) (pc + 3) ls (jm_ps v st) w')) : jm_R g M κ k n pc ls st0 w := by
  subst hst
  obtain ⟨p, e, s, m, args, below, meth, c, A, Q⟩ := κ
  intro C H locs la hP hD hS hl
  have C2 := C
  obtain ⟨hx1, hb, hml, hr, hown, hts, hlk, hnm, hSa, hRo, hA⟩ := C2
  obtain ⟨⟨b1, b2, b4, b5⟩, hd1, hd2, hd3⟩ := hL
  have hgood : GoodIn jm_TB (va_wsS M.1.cls idx M2.1 (jm_ws M2)) := jm_gpre (fun w hw => by
    rcases List.mem_cons.mp hw with rfl | hw
    · exact b1
    rcases List.mem_cons.mp hw with rfl | hw
    · exact b2
    rcases List.mem_cons.mp hw with rfl | hw
    · exact b4
    cases hw) b5
  have hAA := jm_AA hA hD hS
  refine jm_back (A := A) (va_runS (As := As.map (jm_tr g.2.2.2.1 w.2.1)) (rest := st.map (jm_tr g.2.2.2.1 w.2.1)) ⟨hx1, hb, hml, hown, hts⟩ (kk H.size) (va_cwS np hts hgood rfl rfl rfl ⟨hd1, hd2, hd3⟩ (jm_fit_of hfit)) ⟨jm_blind, jm_enter C hP hD hS As⟩ rfl (by rw [List.length_map]; exact hnp) hl.1 (by simp) (lv_room (jm_low_of hlow)) hdg (of_decide_eq_true hmc)) hS (fun q _ h => hAA q h) hAA (fun v w' H1 locs1 hp hP1 hD1 hS1 => ?_)
  obtain ⟨hw', hR⟩ := hp
  have h9 := hR C H1 locs1 la hP1 (hD1.weaken (fun _ _ _ h => hAA _ h)) hS1 (by rw [hw']; exact hl)
  rw [jm_ps_map, hw'] at h9
  rw [hw']
  exact h9
theorem jr_callNS {idx np : Nat} {st0 : List Value} (As : List Value) (hL : jm_LNS M.1.cls idx M2 np) (hfit : jm_fit M M2 = true) (hdg : decode M.2.1 pc = .ok (.invokestatic idx, 3)) (hst : st0 = As.reverse ++ st) (hnp : As.length = np) (hlow : jm_low st = true) (hmc : decide (k + M2.2.2.2.2.cells ≤ M.2.2.2.2.cells ∧ n + M2.2.2.2.2.slots ≤ M.2.2.2.2.slots) = true)
    (kk : jm_Cp g M2 As w (fun v w' => w'.2.1 = w.2.1 ∧ jm_R g M κ (k + M2.2.2.2.2.cells) (n + M2.2.2.2.2.slots) (pc + 3) ls (jm_ps v st) w')) : jm_R g M κ k n pc ls st0 w := by
  subst hst
  obtain ⟨p, e, s, m, args, below, meth, c, A, Q⟩ := κ
  intro C H locs la hP hD hS hl
  have C2 := C
  obtain ⟨hx1, hb, hml, hr, hown, hts, hlk, hnm, hSa, hRo, hA⟩ := C2
  obtain ⟨⟨host, b1⟩, ⟨b2, b4, b5⟩, hd1, hd2, hd3⟩ := hL
  have hAA := jm_AA hA hD hS
  refine jm_back (A := A) (va_runSN (As := As.map (jm_tr g.2.2.2.1 w.2.1)) (rest := st.map (jm_tr g.2.2.2.1 w.2.1)) ⟨hx1, hb, hml, hown, hts⟩ (kk H.size) ⟨va_cnB np hts (jm_gws b5) rfl rfl rfl (hSa.2.1 _ b1) (hts _ b4) ⟨hd1, hd2, hd3⟩ (jm_fit_of hfit), hts _ b2, trivial⟩ ⟨jm_blind, jm_enter C hP hD hS As⟩ rfl (by rw [List.length_map]; exact hnp) hl.1 (by simp) (lv_room (jm_low_of hlow)) hdg (of_decide_eq_true hmc)) hS (fun q _ h => hAA q h) hAA (fun v w' H1 locs1 hp hP1 hD1 hS1 => ?_)
  obtain ⟨hw', hR⟩ := hp
  have h9 := hR C H1 locs1 la hP1 (hD1.weaken (fun _ _ _ h => hAA _ h)) hS1 (by rw [hw']; exact hl)
  rw [jm_ps_map, hw'] at h9
  rw [hw']
  exact h9
/-! returns -/
theorem jr_iret {P : Option Value → jm_W → Prop} {v : Int32} (hE : jm_E g M P κ) (hret : M.2.2.2.1 = some .int) (hdg : decode M.2.1 pc = .ok (.ireturn, 1)) (hkn : decide (k ≤ M.2.2.2.2.cells ∧ n ≤ M.2.2.2.2.slots) = true) (hp : P (some (.int v)) w) : jm_R g M κ k n pc ls [.int v] w := by
  obtain ⟨p, e, s, m, args, below, meth, c, A, Q⟩ := κ
  intro C H locs la hP hD hS hl
  obtain ⟨hx1, hb, hml, hr, hown, hts, hlk, hnm, hSa, hRo, hA⟩ := C
  have hkn := of_decide_eq_true hkn
  have hE : Q = _ := hE
  subst hE
  refine W.widen hkn.1 hkn.2 ?_
  exact W.iret (v := v) hx1 hb (by rw [hr]; exact hret) (fun t ht hW => ⟨⟨some (.int v), w, rfl, hp, by rw [ht]; exact hP, hD⟩, hS.F ht⟩) hS.2.2 hdg
theorem jr_zret {P : Option Value → jm_W → Prop} {v : Int32} (hE : jm_E g M P κ) (hret : M.2.2.2.1 = some .boolean) (hdg : decode M.2.1 pc = .ok (.ireturn, 1)) (hkn : decide (k ≤ M.2.2.2.2.cells ∧ n ≤ M.2.2.2.2.slots) = true) (hv : v = 0 ∨ v = 1) (hp : P (some (.int v)) w) : jm_R g M κ k n pc ls [.int v] w := by
  obtain ⟨p, e, s, m, args, below, meth, c, A, Q⟩ := κ
  intro C H locs la hP hD hS hl
  obtain ⟨hx1, hb, hml, hr, hown, hts, hlk, hnm, hSa, hRo, hA⟩ := C
  have hkn := of_decide_eq_true hkn
  have hE : Q = _ := hE
  subst hE
  refine W.widen hkn.1 hkn.2 ?_
  exact W.zret (v := v) (ty := .boolean) hx1 hb (by rw [hr]; exact hret) (by rcases hv with rfl | rfl <;> rfl) (fun t ht hW => ⟨⟨some (.int v), w, rfl, hp, by rw [ht]; exact hP, hD⟩, hS.F ht⟩) hS.2.2 hdg
theorem jr_vret {P : Option Value → jm_W → Prop} (hE : jm_E g M P κ) (hret : M.2.2.2.1 = none) (hdg : decode M.2.1 pc = .ok (.return_, 1)) (hkn : decide (k ≤ M.2.2.2.2.cells ∧ n ≤ M.2.2.2.2.slots) = true) (hp : P none w) : jm_R g M κ k n pc ls [] w := by
  obtain ⟨p, e, s, m, args, below, meth, c, A, Q⟩ := κ
  intro C H locs la hP hD hS hl
  obtain ⟨hx1, hb, hml, hr, hown, hts, hlk, hnm, hSa, hRo, hA⟩ := C
  have hkn := of_decide_eq_true hkn
  have hE : Q = _ := hE
  subst hE
  refine W.widen hkn.1 hkn.2 ?_
  exact W.vret hx1 hb (by rw [hr]; exact hret) (fun t ht hW => ⟨⟨none, w, rfl, hp, by rw [ht]; exact hP, hD⟩, hS.F ht⟩) hS.2.2 hdg
theorem jr_aret {P : Option Value → jm_W → Prop} {q : Nat} {rt : FieldType} (hE : jm_E g M P κ) (hret : M.2.2.2.1 = some rt) (hrt : (∃ nm, rt = .object nm) ∨ ∃ t, rt = .array t) (hdg : decode M.2.1 pc = .ok (.areturn, 1)) (hkn : decide (k ≤ M.2.2.2.2.cells ∧ n ≤ M.2.2.2.2.slots) = true) (hp : P (some (.ref q)) w) : jm_R g M κ k n pc ls [.ref q] w := by
  obtain ⟨p, e, s, m, args, below, meth, c, A, Q⟩ := κ
  intro C H locs la hP hD hS hl
  obtain ⟨hx1, hb, hml, hr, hown, hts, hlk, hnm, hSa, hRo, hA⟩ := C
  have hkn := of_decide_eq_true hkn
  have hE : Q = _ := hE
  subst hE
  refine W.widen hkn.1 hkn.2 ?_
  exact W.aret (v := .ref (w.2.1 q)) hx1 hb (by rw [hr]; exact hret) hrt (Or.inr ⟨_, rfl⟩) (fun t ht hW => ⟨⟨some (.ref q), w, rfl, hp, by rw [ht]; exact hP, hD⟩, hS.F ht⟩) hS.2.2 hdg
/-! Math and System -/
def jm_LM (own : String) (idx : Nat) (y : MethodName) (code9 : ByteArray) (mx : Nat) : Prop := Cond.methodLink own idx y ∈ jm_TB ∧ Cond.static y ∈ jm_TB ∧ Cond.initialized "java/lang/Math" ∈ jm_TB ∧ Cond.code y code9 mx (some .int) ∈ jm_TB
theorem jr_max {idx : Nat} {x y : Int32} (hL : jm_LM M.1.cls idx Lib.Math.max.name Lib.Math.max.code 2) (hdg : decode M.2.1 pc = .ok (.invokestatic idx, 3)) (hR : decide (1 ≤ M.2.2.2.2.frames ∧ 21 ≤ M.2.2.2.2.locals) = true) (hlow : jm_low st = true) (hkn : decide (k ≤ M.2.2.2.2.cells ∧ n ≤ M.2.2.2.2.slots) = true) (kk : jm_R g M κ k n (pc + 3) ls (.int (if x < y then y else x) :: st) w) : jm_R g M κ k n pc ls (.int y :: .int x :: st) w := by
  obtain ⟨p, e, s, m, args, below, meth, c, A, Q⟩ := κ
  intro C H locs la hP hD hS hl
  have kk := kk C H locs la hP hD hS hl
  obtain ⟨hx1, hb, hml, hr, hown, hts, hlk, hnm, hSa, hRo, hA⟩ := C
  have hkn := of_decide_eq_true hkn
  have hR := of_decide_eq_true hR
  have hlow := jm_low_of (ro := g.2.2.2.1) (ad := w.2.1) hlow
  exact va_mmax hx1 hb (by rw [hml, hl.1]) hown (hts _ hL.1) (hts _ hL.2.1) (hts _ hL.2.2.1) (hts _ hL.2.2.2) hR.1 (by omega) hkn.1 hkn.2 hdg kk
theorem jr_min {idx : Nat} {x y : Int32} (hL : jm_LM M.1.cls idx Lib.Math.min.name Lib.Math.min.code 2) (hdg : decode M.2.1 pc = .ok (.invokestatic idx, 3)) (hR : decide (1 ≤ M.2.2.2.2.frames ∧ 21 ≤ M.2.2.2.2.locals) = true) (hlow : jm_low st = true) (hkn : decide (k ≤ M.2.2.2.2.cells ∧ n ≤ M.2.2.2.2.slots) = true) (kk : jm_R g M κ k n (pc + 3) ls (.int (if y < x then y else x) :: st) w) : jm_R g M κ k n pc ls (.int y :: .int x :: st) w := by
  obtain ⟨p, e, s, m, args, below, meth, c, A, Q⟩ := κ
  intro C H locs la hP hD hS hl
  have kk := kk C H locs la hP hD hS hl
  obtain ⟨hx1, hb, hml, hr, hown, hts, hlk, hnm, hSa, hRo, hA⟩ := C
  have hkn := of_decide_eq_true hkn
  have hR := of_decide_eq_true hR
  have hlow := jm_low_of (ro := g.2.2.2.1) (ad := w.2.1) hlow
  exact va_mmin hx1 hb (by rw [hml, hl.1]) hown (hts _ hL.1) (hts _ hL.2.1) (hts _ hL.2.2.1) (hts _ hL.2.2.2) hR.1 (by omega) hkn.1 hkn.2 hdg kk
theorem jr_abs {idx : Nat} {x : Int32} (hL : jm_LM M.1.cls idx Lib.Math.abs.name Lib.Math.abs.code 1) (hdg : decode M.2.1 pc = .ok (.invokestatic idx, 3)) (hR : decide (1 ≤ M.2.2.2.2.frames ∧ 21 ≤ M.2.2.2.2.locals) = true) (hlow : jm_low st = true) (hkn : decide (k ≤ M.2.2.2.2.cells ∧ n ≤ M.2.2.2.2.slots) = true) (kk : jm_R g M κ k n (pc + 3) ls (.int (if 0 ≤ x then x else 0 - x) :: st) w) : jm_R g M κ k n pc ls (.int x :: st) w := by
  obtain ⟨p, e, s, m, args, below, meth, c, A, Q⟩ := κ
  intro C H locs la hP hD hS hl
  have kk := kk C H locs la hP hD hS hl
  obtain ⟨hx1, hb, hml, hr, hown, hts, hlk, hnm, hSa, hRo, hA⟩ := C
  have hkn := of_decide_eq_true hkn
  have hR := of_decide_eq_true hR
  have hlow := jm_low_of (ro := g.2.2.2.1) (ad := w.2.1) hlow
  exact va_mabs hx1 hb (by rw [hml, hl.1]) hown (hts _ hL.1) (hts _ hL.2.1) (hts _ hL.2.2.1) (hts _ hL.2.2.2) hR.1 (by omega) hkn.1 hkn.2 hdg kk
def jm_LC (own : String) (idx : Nat) : Prop := Cond.methodLink own idx arraycopyName ∈ jm_TB ∧ Cond.native arraycopyName ∈ jm_TB ∧ Cond.static arraycopyName ∈ jm_TB ∧ Cond.initialized "java/lang/System" ∈ jm_TB
theorem jr_copy {idx q1 q0 n0 n1 : Nat} {sp dp ln : Int32} {Γ : List jm_Sh} {ad : Nat → Nat} {μ : Nat → Nat → Int32} (hL : jm_LC M.1.cls idx) (hdg : decode M.2.1 pc = .ok (.invokestatic idx, 3)) (hR : decide (1 ≤ M.2.2.2.2.frames ∧ nativeFrameWords "java/lang/System" "arraycopy" 5 + 19 ≤ M.2.2.2.2.locals) = true) (hlow : jm_low st = true) (hg0 : Γ[q0]? = some (.inr (0, n0, none))) (hg1 : Γ[q1]? = some (.inr (0, n1, none)))
    (h1 : ¬ sp < 0) (h2 : ¬ dp < 0) (h3 : ¬ ln < 0) (h4 : sp.toNatClampNeg + ln.toNatClampNeg ≤ n0) (h5 : dp.toNatClampNeg + ln.toNatClampNeg ≤ n1)
    (kk : jm_R g M κ k n (pc + 3) ls st (Γ, ad, jm_up μ q1 (va_cpy (μ q0) (μ q1) sp.toNatClampNeg dp.toNatClampNeg ln.toNatClampNeg))) : jm_R g M κ k n pc ls (.int ln :: .int dp :: .ref q1 :: .int sp :: .ref q0 :: st) (Γ, ad, μ) := by
  obtain ⟨p, e, s, m, args, below, meth, c, A, Q⟩ := κ
  intro C H locs la hP hD hS hl
  have kk := kk C
  obtain ⟨hx1, hb, hml, hr, hown, hts, hlk, hnm, hSa, hRo, hA⟩ := C
  have hR := of_decide_eq_true hR
  have hlow := jm_low_of (ro := g.2.2.2.1) (ad := (Γ, ad, μ).2.1) hlow
  have e9 : (jm_conc g (Γ, ad, μ)).set q1 (ad q1, .inl (g.2.2.1 0, n1, .inl (va_cpy (μ q0) (μ q1) sp.toNatClampNeg dp.toNatClampNeg ln.toNatClampNeg))) = jm_conc g (Γ, ad, jm_up μ q1 (va_cpy (μ q0) (μ q1) sp.toNatClampNeg dp.toNatClampNeg ln.toNatClampNeg)) := jm_conc_set g Γ ad μ _ hg1
  refine va_copyi hx1 hb (by rw [hml, hl.1]) hown (hts _ hL.1) (hts _ hL.2.1) (hts _ hL.2.2.1) (hts _ hL.2.2.2) hSa.1 hP hD hS q0 q1 0 0 (ty := .int) (jm_conc_at g (Γ, ad, μ) hg0) (jm_conc_at g (Γ, ad, μ) hg1) rfl rfl rfl h1 h2 h3 h4 h5 (fun i _ => rfl) hR.1 (by omega) hdg (fun H1 locs1 hP1 hD1 hS1 => ?_)
  dsimp only at hP1 hD1
  rw [e9] at hP1 hD1
  exact kk H1 locs1 la hP1 hD1 hS1 hl
end JMD
