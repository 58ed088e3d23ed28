section JMK
/-! ===== the walker: an abstract machine over a world of cells by index; each row is proved once over the kit ===== -/
/-- a method: name, code, locals, answer's type, room -/
abbrev jm_M : Type := MethodName × ByteArray × Nat × Option FieldType × Room
/-- a cell's shape: an object (its class by number; its fields: none = a number, some r = a reference), or an array (its kind, its length; none = numbers) -/
abbrev jm_Sh : Type := (Nat × List (Option (Option Nat))) ⊕ (Nat × Nat × Option (Nat → Option Nat))
/-- a world: shapes, addresses, numbers by cell and place -/
abbrev jm_W : Type := List jm_Sh × (Nat → Nat) × (Nat → Nat → Int32)
/-- what stays over the whole run: launch, places of the classes, array classes by kind, the arrays that are only read -/
abbrev jm_G : Type := Launch × va_G × (Nat → ClassId) × (Nat → Nat) × (Nat → Nat) × (Nat → Nat → Int32)
abbrev jm_K : Type := Program × Env × State × MethodId × Array Value × List Frame × Method × Code × (Nat → Prop) × (State → Prop)
def jm_TB : List Cond := lw_tbl.filter goodWord
def jm_isN : Cond → Bool
  | .methodLinkNest .. => true
  | _ => false
def jm_NB : List Cond := lw_tbl.filter jm_isN
theorem jm_tb {w : Cond} (i : Nat) (h : lw_tbl[i]? = some w) (hg : goodWord w = true) : w ∈ jm_TB := List.mem_filter.mpr ⟨List.mem_of_getElem? h, hg⟩
theorem jm_nb {w : Cond} (i : Nat) (h : lw_tbl[i]? = some w) (hg : jm_isN w = true) : w ∈ jm_NB := List.mem_filter.mpr ⟨List.mem_of_getElem? h, hg⟩
def jm_ws (M : jm_M) : List Cond := .code M.1 M.2.1 M.2.2.1 M.2.2.2.1 :: jm_TB
theorem jm_good : GoodIn jm_TB jm_TB := fun _ h => ⟨h, good_of_word (List.mem_filter.mp h).2⟩
theorem jm_gws {M : jm_M} (h : Cond.code M.1 M.2.1 M.2.2.1 M.2.2.2.1 ∈ jm_TB) : GoodIn jm_TB (jm_ws M) := by
  intro w hw
  rcases List.mem_cons.mp hw with rfl | hw
  · exact jm_good _ h
  · exact jm_good _ hw
def jm_tr (ro ad : Nat → Nat) : Value → Value
  | .ref k => .ref (ad k)
  | .retAddr i => .ref (ro i)
  | .int x => .int x
  | .long x => .long x
  | .float x => .float x
  | .double x => .double x
  | .null => .null
theorem jm_trc (ro ad : Nat → Nat) (v : Value) (h : ∀ i, v ≠ .retAddr i) : (jm_tr ro ad v).category = v.category := by
  cases v <;> first | rfl | exact absurd rfl (h _)
def jm_fv (ad : Nat → Nat) (f : Nat → Int32) (j : Nat) : Option (Option Nat) → Value
  | none => .int (f j)
  | some none => .null
  | some (some r) => .ref (ad r)
def jm_fs (ad : Nat → Nat) (fs : List (Option (Option Nat))) (f : Nat → Int32) : List Value := fs.mapIdx (fun j x => jm_fv ad f j x)
def jm_ent (cA : Nat → ClassId) (ad : Nat → Nat) (sh : jm_Sh) (f : Nat → Int32) : va_E := match sh with
  | .inl o => .inr (o.1, jm_fs ad o.2 f)
  | .inr (kd, n, none) => .inl (cA kd, n, .inl f)
  | .inr (kd, n, some r) => .inl (cA kd, n, .inr (.inr (.inr (.inr (fun j => (r j).map ad)))))
def jm_conc (g : jm_G) (w : jm_W) : va_W := w.1.mapIdx (fun k sh => (w.2.1 k, jm_ent g.2.2.1 w.2.1 sh (w.2.2 k)))
theorem jm_conc_at (g : jm_G) (w : jm_W) {k : Nat} {sh : jm_Sh} (h : w.1[k]? = some sh) : (jm_conc g w)[k]? = some (w.2.1 k, jm_ent g.2.2.1 w.2.1 sh (w.2.2 k)) := by
  simp [jm_conc, List.getElem?_mapIdx, h]
/-- a cell's numbers anew -/
def jm_up (μ : Nat → Nat → Int32) (k : Nat) (f : Nat → Int32) : Nat → Nat → Int32 := fun c => if c = k then f else μ c
/-- one number anew -/
def jm_st (μ : Nat → Nat → Int32) (k j : Nat) (x : Int32) : Nat → Nat → Int32 := jm_up μ k (upd (μ k) j x)
theorem jm_up_s (μ : Nat → Nat → Int32) (k : Nat) (f : Nat → Int32) : jm_up μ k f k = f := by simp [jm_up]
theorem jm_up_n (μ : Nat → Nat → Int32) {k c : Nat} (f : Nat → Int32) (h : c ≠ k) : jm_up μ k f c = μ c := by simp [jm_up, h]
theorem jm_st_s (μ : Nat → Nat → Int32) (k j : Nat) (x : Int32) : jm_st μ k j x k j = x := by simp [jm_st, jm_up, upd]
theorem jm_st_e (μ : Nat → Nat → Int32) (k j : Nat) (x : Int32) (c i : Nat) : jm_st μ k j x c i = if c = k ∧ i = j then x else μ c i := by
  by_cases h : c = k
  · subst h
    by_cases h2 : i = j <;> simp [jm_st, jm_up, upd, h2]
  · simp [jm_st, jm_up, h]
theorem jm_st_nc (μ : Nat → Nat → Int32) {k c : Nat} (j : Nat) (x : Int32) (h : c ≠ k) : jm_st μ k j x c = μ c := by simp [jm_st, jm_up, h]
theorem jm_st_ni (μ : Nat → Nat → Int32) (k : Nat) {j i : Nat} (x : Int32) (h : i ≠ j) : jm_st μ k j x k i = μ k i := by simp [jm_st, jm_up, upd, h]
theorem jm_conc_set (g : jm_G) (Γ : List jm_Sh) (ad : Nat → Nat) (μ : Nat → Nat → Int32) {k : Nat} {sh : jm_Sh} (f : Nat → Int32) (h : Γ[k]? = some sh) : (jm_conc g (Γ, ad, μ)).set k (ad k, jm_ent g.2.2.1 ad sh f) = jm_conc g (Γ, ad, jm_up μ k f) := by
  have hl : k < Γ.length := (List.getElem?_eq_some_iff.mp h).1
  apply List.ext_getElem?
  intro i
  rw [List.getElem?_set]
  by_cases hi : k = i
  · subst hi
    simp [jm_conc, List.getElem?_mapIdx, jm_up, hl, (List.getElem?_eq_some_iff.mp h).2]
  · have hi2 : ¬ i = k := fun q => hi q.symm
    simp [jm_conc, List.getElem?_mapIdx, hi, jm_up, hi2]
theorem jm_conc_shape (g : jm_G) (Γ : List jm_Sh) (ad : Nat → Nat) (μ : Nat → Nat → Int32) {k : Nat} (sh : jm_Sh) (h : k < Γ.length) : (jm_conc g (Γ, ad, μ)).set k (ad k, jm_ent g.2.2.1 ad sh (μ k)) = jm_conc g (Γ.set k sh, ad, μ) := by
  apply List.ext_getElem?
  intro i
  rw [List.getElem?_set]
  by_cases hi : k = i
  · subst hi
    simp [jm_conc, List.getElem?_mapIdx, h, List.getElem?_set]
  · simp [jm_conc, List.getElem?_mapIdx, hi, List.getElem?_set]
/-- the locals as the kit lists them -/
def jm_ls (ro ad : Nat → Nat) (ls : List (Option Value)) : List (Nat × Value) := ls.zipIdx.filterMap (fun q => q.1.map (fun v => (q.2, jm_tr ro ad v)))
theorem jm_ls_in {ro ad : Nat → Nat} {ls : List (Option Value)} {q : Nat × Value} : q ∈ jm_ls ro ad ls ↔ ∃ v, ls[q.1]? = some (some v) ∧ q.2 = jm_tr ro ad v := by
  constructor
  · intro h
    obtain ⟨⟨o, i⟩, h1, h2⟩ := List.mem_filterMap.mp h
    rw [List.mem_zipIdx_iff_getElem?] at h1
    cases o with
    | none => simp at h2
    | some v =>
      simp at h2
      subst h2
      exact ⟨v, h1, rfl⟩
  · rintro ⟨v, h1, h2⟩
    refine List.mem_filterMap.mpr ⟨(some v, q.1), ?_, ?_⟩
    · rw [List.mem_zipIdx_iff_getElem?]
      exact h1
    · simp only [Option.map_some]
      rw [← h2]
theorem jm_has {la : Array Slot} {n : Nat} {l l' : List (Nat × Value)} (h : lv_has la n l) (hs : ∀ q ∈ l', q ∈ l) : lv_has la n l' := ⟨h.1, h.2.1, fun q hq => h.2.2 q (hs q hq)⟩
/-- no long ends just before place i -/
def jm_nl (ls : List (Option Value)) (i : Nat) : Bool := match i with
  | 0 => true
  | j + 1 => match ls[j]? with
    | some (some (.long _)) => false
    | some (some (.double _)) => false
    | _ => true
theorem jm_ls_set {ro ad : Nat → Nat} {ls : List (Option Value)} {i : Nat} (v : Value) (h : jm_nl ls i = true) : ∀ q ∈ jm_ls ro ad (ls.set i (some v)), q ∈ (i, jm_tr ro ad v) :: (jm_ls ro ad ls).filter (fun q => !(q.1 == i) && !(q.1 + 1 == i && q.2.category == 2)) := by
  intro q hq
  obtain ⟨u, h1, h2⟩ := jm_ls_in.mp hq
  by_cases hi : i = q.1
  · subst hi
    rw [List.getElem?_set_self'] at h1
    have : u = v := by
      cases hz : ls[q.1]? with
      | none => simp [hz] at h1
      | some z => simp [hz] at h1; exact h1.symm
    subst this
    refine List.mem_cons.mpr (Or.inl ?_)
    rw [← h2]
  · rw [List.getElem?_set_ne hi] at h1
    refine List.mem_cons.mpr (Or.inr (List.mem_filter.mpr ⟨jm_ls_in.mpr ⟨u, h1, h2⟩, ?_⟩))
    have hi2 : (q.1 == i) = false := by simp; exact fun e => hi e.symm
    rw [hi2]
    by_cases hj : q.1 + 1 = i
    · subst hj
      simp only [jm_nl, h1] at h
      rw [h2]
      cases u <;> simp_all [jm_tr, Value.category]
    · have hj2 : (q.1 + 1 == i) = false := by simp; exact hj
      rw [hj2]; rfl
theorem jm_ls_set2 {ro ad : Nat → Nat} {ls : List (Option Value)} {i : Nat} (v : Int64) (h : jm_nl ls i = true) : ∀ q ∈ jm_ls ro ad ((ls.set i (some (.long v))).set (i + 1) none), q ∈ (i, Value.long v) :: (jm_ls ro ad ls).filter (fun q => !(q.1 == i) && (!(q.1 == i + 1) && !(q.1 + 1 == i && q.2.category == 2))) := by
  intro q hq
  obtain ⟨u, h1, h2⟩ := jm_ls_in.mp hq
  by_cases hk : i + 1 = q.1
  · exfalso
    rw [← hk, List.getElem?_set_self'] at h1
    cases hz : (ls.set i (some (.long v)))[i + 1]? with
    | none => simp [hz] at h1
    | some z => simp [hz] at h1
  · rw [List.getElem?_set_ne hk] at h1
    by_cases hi : i = q.1
    · subst hi
      rw [List.getElem?_set_self'] at h1
      have : u = .long v := by
        cases hz : ls[q.1]? with
        | none => simp [hz] at h1
        | some z => simp [hz] at h1; exact h1.symm
      subst this
      refine List.mem_cons.mpr (Or.inl ?_)
      show q = (q.1, jm_tr ro ad (.long v))
      rw [← h2]
    · rw [List.getElem?_set_ne hi] at h1
      refine List.mem_cons.mpr (Or.inr (List.mem_filter.mpr ⟨jm_ls_in.mpr ⟨u, h1, h2⟩, ?_⟩))
      have hi2 : (q.1 == i) = false := by simp; exact fun e => hi e.symm
      have hk2 : (q.1 == i + 1) = false := by simp; exact fun e => hk e.symm
      rw [hi2, hk2]
      by_cases hj : q.1 + 1 = i
      · subst hj
        simp only [jm_nl, h1] at h
        rw [h2]
        cases u <;> simp_all [jm_tr, Value.category]
      · have hj2 : (q.1 + 1 == i) = false := by simp; exact hj
        rw [hj2]; rfl
def jm_tys (g : jm_G) : List (ClassId × FieldType) := [(g.2.2.1 0, .int), (g.2.2.1 1, .char), (g.2.2.1 2, .boolean), (g.2.2.1 3, .object RX3), (g.2.2.1 4, .object RX6)]
/-- what the tables say, in any state of the run -/
def jm_Sa (g : jm_G) (U : State) : Prop := va_K g.2.1 vwCl (jm_tys g) U ∧ (∀ w ∈ jm_NB, va_Nw w U) ∧ va_AO RX3 U ∧ va_AO RX6 U
/-- the arrays that are only read -/
def jm_Ro (g : jm_G) (A : Nat → Prop) (U : State) (H : Heap) : Prop := (∀ i : Nat, i < 3 → va_T .int (g.2.2.2.1 i) (g.2.2.2.2.1 i) (fun j => .int (g.2.2.2.2.2 i j)) A U H) ∧ va_Z RX8 "LOWEST" "[I" (.ref (g.2.2.2.1 0)) A U H ∧ va_Z RX8 "HIGHEST" "[I" (.ref (g.2.2.2.1 1)) A U H
theorem jm_Ro.moved {g : jm_G} {A : Nat → Prop} {u U : State} {H : Heap} (hvm : u.vm.Alike U.vm) (h : jm_Ro g A u H) : jm_Ro g A U H := ⟨fun i hi => (h.1 i hi).moved hvm, h.2.1.moved hvm, h.2.2.moved hvm⟩
theorem jm_Ro.kept {g : jm_G} {A : Nat → Prop} {U : State} {H H1 : Heap} (h : jm_Ro g A U H) (hq : ∀ a : Nat, a < H.size → ¬ A a → H1[a]? = H[a]?) : jm_Ro g A U H1 := ⟨fun i hi => (h.1 i hi).kept hq, h.2.1.kept hq, h.2.2.kept hq⟩
theorem jm_Ro.narrow {g : jm_G} {A B : Nat → Prop} {U : State} {H : Heap} (h : jm_Ro g A U H) (hAB : ∀ q, B q → A q) : jm_Ro g B U H := ⟨fun i hi => (h.1 i hi).narrow hAB, h.2.1.narrow hAB, h.2.2.narrow hAB⟩
theorem jm_Sa.same {g : jm_G} {u U : State} (hvm : u.vm = U.vm) (h : jm_Sa g u) : jm_Sa g U := by
  have ha : u.vm.Alike U.vm := by rw [hvm]; exact Vm.Alike.refl U.vm
  refine ⟨va_K.moved ha h.1, fun w hw => ?_, h.2.2.1.moved ha, h.2.2.2.moved ha⟩
  have h1 := h.2.1 w hw
  have h2 := (List.mem_filter.mp hw).2
  cases w <;> simp [jm_isN] at h2
  exact va_Nw.same rfl hvm h1
theorem jm_Sa.warm {g : jm_G} {s U : State} (hW : s.WarmedH U.vm) (h : jm_Sa g s) : jm_Sa g U := by
  refine ⟨va_K.moved hW.alike h.1, fun w hw => ?_, h.2.2.1.moved hW.alike, h.2.2.2.moved hW.alike⟩
  have h1 := h.2.1 w hw
  have h2 := (List.mem_filter.mp hw).2
  cases w <;> simp [jm_isN] at h2
  exact va_Nw.warmM hW h1
/-- what holds of a method while it runs -/
def jm_C (g : jm_G) (M : jm_M) (p : Program) (s : State) (m : MethodId) (args : Array Value) (meth : Method) (c : Code) (A : Nat → Prop) : Prop :=
  p.tables.exec = Jvm.exec ∧ c.code = M.2.1 ∧ c.maxLocals = M.2.2.1 ∧ meth.sig.returnType = M.2.2.2.1 ∧ s.vm.findClass M.1.cls = some m.cls ∧ (∀ w ∈ jm_TB, w.before args s = true) ∧ meth.locks = false ∧ (M.1.name = "<init>" → meth.name = M.1.name) ∧ jm_Sa g s ∧ jm_Ro g A s s.heap ∧ (∀ q, s.heap.size ≤ q → A q)
/-- THE JUDGEMENT: from this place, with these locals, this stack and this world, the method comes to its end -/
def jm_R (g : jm_G) (M : jm_M) (κ : jm_K) (k n pc : Nat) (ls : List (Option Value)) (st : List Value) (w : jm_W) : Prop :=
  match κ with
  | (p, e, s, m, args, below, meth, c, A, Q) => jm_C g M p s m args meth c A → ∀ (H : Heap) (locs : List Loc) (la : Array Slot), va_P g.2.1 vwCl (jm_conc g w) H → va_D A (jm_conc g w) → va_S A s.heap H locs → lv_has la M.2.2.1 (jm_ls g.2.2.2.1 w.2.1 ls) → W p g.1 e M.2.2.2.2 s m args below meth c H locs k n Q (F0 m pc la (st.map (jm_tr g.2.2.2.1 w.2.1)))
def jm_Qc (g : jm_G) (P : Option Value → jm_W → Prop) (A : Nat → Prop) : Array Value → State → Outcome → State → Prop := fun _ st oc t =>
  (∃ (v : Option Value) (w : jm_W), oc = .returned (v.map (jm_tr g.2.2.2.1 w.2.1)) ∧ P v w ∧ va_P g.2.1 vwCl (jm_conc g w) t.heap ∧ va_D A (jm_conc g w)) ∧ va_F A st t
def jm_E (g : jm_G) (M : jm_M) (P : Option Value → jm_W → Prop) (κ : jm_K) : Prop :=
  match κ with
  | (_, _, s, _, args, below, _, _, A, Q) => Q = MQ below (jm_Qc g P A) args s M.2.2.2.2.cells M.2.2.2.2.slots A
def jm_Pre (g : jm_G) (w : jm_W) (A : Nat → Prop) (U : State) : Prop := va_P g.2.1 vwCl (jm_conc g w) U.heap ∧ va_D (fun _ => True) (jm_conc g w) ∧ jm_Sa g U ∧ jm_Ro g A U U.heap
/-- A CONTRACT: called with these arguments in this world, the method returns, and P holds of its answer and the world behind it -/
def jm_Cp (g : jm_G) (M : jm_M) (av : List Value) (w : jm_W) (P : Option Value → jm_W → Prop) : Prop :=
  ∀ sz : Nat, Met g.1 M.1 (jm_ws M) M.2.2.2.2 (va_Pc (av.map (jm_tr g.2.2.2.1 w.2.1)) (fun U => U.heap.size = sz ∧ jm_Pre g w (va_A (jm_conc g w) sz) U)) (jm_Qc g P (va_A (jm_conc g w) sz)) M.2.2.2.2.cells M.2.2.2.2.slots (va_A (jm_conc g w) sz)
def jm_l0 : List Value → List (Option Value)
  | [] => []
  | .long x :: vs => some (.long x) :: none :: jm_l0 vs
  | .int x :: vs => some (.int x) :: jm_l0 vs
  | .ref x :: vs => some (.ref x) :: jm_l0 vs
  | .null :: vs => some .null :: jm_l0 vs
  | _ :: _ => []
theorem jm_l0_in (ro ad : Nat → Nat) : ∀ (av : List Value) (i j : Nat) (v : Value), (jm_l0 av)[j]? = some (some v) → (i + j, jm_tr ro ad v) ∈ lv_args i (av.map (jm_tr ro ad)) := by
  intro av
  induction av with
  | nil => intro i j v h; simp [jm_l0] at h
  | cons a vs ih =>
    intro i j v h
    have one : jm_l0 (a :: vs) = some a :: jm_l0 vs → (jm_tr ro ad a).category = 1 → (i + j, jm_tr ro ad v) ∈ lv_args i ((a :: vs).map (jm_tr ro ad)) := by
      intro e hc
      rw [e] at h
      cases j with
      | zero =>
        simp at h
        subst h
        exact List.mem_cons_self
      | succ j =>
        simp only [List.getElem?_cons_succ] at h
        have h2 := ih (i + 1) j v h
        refine List.mem_cons_of_mem _ ?_
        show _ ∈ lv_args (if (jm_tr ro ad a).category = 2 then i + 2 else i + 1) _
        rw [if_neg (by omega), show i + (j + 1) = i + 1 + j by omega]
        exact h2
    cases a with
    | int x => exact one rfl rfl
    | ref x => exact one rfl rfl
    | null => exact one rfl rfl
    | long x =>
      cases j with
      | zero =>
        simp [jm_l0] at h
        subst h
        exact List.mem_cons_self
      | succ j =>
        cases j with
        | zero => simp [jm_l0] at h
        | succ j =>
          simp only [jm_l0, List.getElem?_cons_succ] at h
          have h2 := ih (i + 2) j v h
          refine List.mem_cons_of_mem _ ?_
          show _ ∈ lv_args (if (Value.long x).category = 2 then i + 2 else i + 1) _
          have e2 : (Value.long x).category = 2 := rfl
          rw [if_pos e2, show i + (j + 1 + 1) = i + 2 + j by omega]
          exact h2
    | float x => simp [jm_l0] at h
    | double x => simp [jm_l0] at h
    | retAddr x => simp [jm_l0] at h
def jm_ok0 : List Value → Nat → Bool
  | [], _ => true
  | .long _ :: vs, n => match n with
    | n + 2 => jm_ok0 vs n
    | _ => false
  | .int _ :: vs, n + 1 => jm_ok0 vs n
  | .ref _ :: vs, n + 1 => jm_ok0 vs n
  | .null :: vs, n + 1 => jm_ok0 vs n
  | _ :: _, _ => false
theorem jm_sl_len (ro ad : Nat → Nat) : ∀ (av : List Value) (n : Nat), jm_ok0 av n = true → (lg_sl (av.map (jm_tr ro ad))).length ≤ n := by
  intro av
  induction av with
  | nil => intro n _; simp [lg_sl]
  | cons a vs ih =>
    intro n h
    have e : ∀ v : Value, lg_sl ((v :: vs).map (jm_tr ro ad)) = lg_sl [jm_tr ro ad v] ++ lg_sl (vs.map (jm_tr ro ad)) := fun v => by simp [lg_sl]
    rw [e, List.length_append]
    cases a with
    | long x =>
      match n, h with
      | n + 2, h =>
        have h2 := ih n h
        have h3 : (lg_sl [jm_tr ro ad (.long x)]).length = 2 := rfl
        omega
    | int x =>
      match n, h with
      | n + 1, h =>
        have h2 := ih n h
        have h3 : (lg_sl [jm_tr ro ad (.int x)]).length = 1 := rfl
        omega
    | ref x =>
      match n, h with
      | n + 1, h =>
        have h2 := ih n h
        have h3 : (lg_sl [jm_tr ro ad (.ref x)]).length = 1 := rfl
        omega
    | null =>
      match n, h with
      | n + 1, h =>
        have h2 := ih n h
        have h3 : (lg_sl [jm_tr ro ad .null]).length = 1 := rfl
        omega
    | float x => cases n <;> simp [jm_ok0] at h
    | double x => cases n <;> simp [jm_ok0] at h
    | retAddr x => cases n <;> simp [jm_ok0] at h
theorem jm_intro {g : jm_G} {M : jm_M} {av : List Value} {w : jm_W} {P : Option Value → jm_W → Prop} (ls : List (Option Value)) (hy : plainName M.1.cls = true) (hav : jm_ok0 av M.2.2.1 = true) (hls : jm_l0 av ++ List.replicate (M.2.2.1 - (jm_l0 av).length) none = ls)
    (body : ∀ κ : jm_K, jm_E g M P κ → jm_R g M κ 0 0 0 ls [] w) : jm_Cp g M av w P := by
  intro sz
  refine Met.ofW (cc := M.2.1) (maxL := M.2.2.1) (ret := M.2.2.2.1) hy rfl ?_
  intro p e s m args below meth c s₁ B hml hv
  obtain ⟨hargs, hsz, hP, hD0, hSt, hRo⟩ := hv
  have hx := B.exec
  have hb := B.bytes
  have hr := B.returns
  have hts := atoms_spec (ws := jm_ws M) B.pre
  have hown : s.vm.findClass M.1.cls = some m.cls := findClass_of_methodNamed B.named
  have hin : meth.name = M.1.name := (name_of_methodNamed B.named B.method).1
  have hlocks := B.notSynchronized
  subst hsz
  have hD := hD0.self (sz := s.heap.size)
  have hA : ∀ q : Nat, s.heap.size ≤ q → va_A (jm_conc g w) s.heap.size q := fun q h => Or.inr h
  have hl := lv_entry (av.map (jm_tr g.2.2.2.1 w.2.1)) (n := M.2.2.1) (jm_sl_len _ _ av _ hav)
  subst hargs
  rw [lg_entry_eq]
  have hb2 := body (p, e, s, m, (av.map (jm_tr g.2.2.2.1 w.2.1)).toArray, below, meth, c, va_A (jm_conc g w) s.heap.size, MQ below (jm_Qc g P (va_A (jm_conc g w) s.heap.size)) (av.map (jm_tr g.2.2.2.1 w.2.1)).toArray s M.2.2.2.2.cells M.2.2.2.2.slots (va_A (jm_conc g w) s.heap.size)) rfl
  refine hb2 ⟨hx, hb, hml, hr, hown, fun w hw => hts w (List.mem_cons_of_mem _ hw), hlocks, fun _ => hin, hSt, hRo, hA⟩ s.heap [] _ hP hD va_S.rf (jm_has hl ?_)
  intro q hq
  obtain ⟨v, h1, h2⟩ := jm_ls_in.mp hq
  rw [← hls] at h1
  by_cases hlen : q.1 < (jm_l0 av).length
  · rw [List.getElem?_append_left hlen] at h1
    have h3 := jm_l0_in g.2.2.2.1 w.2.1 av 0 q.1 v h1
    rw [Nat.zero_add, ← h2] at h3
    exact h3
  · rw [List.getElem?_append_right (by omega)] at h1
    have h4 := List.eq_of_mem_replicate (List.mem_of_getElem? h1)
    cases h4
end JMK
