section JMA
variable {g : jm_G} {M M2 : jm_M} {κ : jm_K} {k n pc : Nat} {ls : List (Option Value)} {st : List Value}
/-- references in locals and stack are below b -/
def jm_rok (b : Nat) (ls : List (Option Value)) (st : List Value) : Prop := (∀ r : Nat, some (Value.ref r) ∈ ls → r < b) ∧ ∀ r : Nat, Value.ref r ∈ st → r < b
def jm_shok (b : Nat) (sh : jm_Sh) : Prop := match sh with
  | .inl o => ∀ r : Nat, some (some r) ∈ o.2 → r < b
  | .inr (_, _, none) => True
  | .inr (_, _, some f) => ∀ j r : Nat, f j = some r → r < b
def jm_wf (Γ : List jm_Sh) : Prop := ∀ sh ∈ Γ, jm_shok Γ.length sh
theorem jm_shok.mono {b b' : Nat} {sh : jm_Sh} (h : jm_shok b sh) (hb : b ≤ b') : jm_shok b' sh := by
  match sh, h with
  | .inl o, h => exact fun r hr => Nat.lt_of_lt_of_le (h r hr) hb
  | .inr (_, _, none), _ => exact trivial
  | .inr (_, _, some f), h => exact fun j r hr => Nat.lt_of_lt_of_le (h j r hr) hb
theorem jm_wf.push {Γ : List jm_Sh} {sh : jm_Sh} (h : jm_wf Γ) (hs : jm_shok (Γ.length + 1) sh) : jm_wf (Γ ++ [sh]) := by
  intro x hx
  rw [List.length_append]
  rcases List.mem_append.mp hx with hx | hx
  · exact (h x hx).mono (Nat.le_add_right _ _)
  · rw [List.mem_singleton.mp hx]; exact hs
theorem jm_wf.set {Γ : List jm_Sh} {k : Nat} {sh : jm_Sh} (h : jm_wf Γ) (hs : jm_shok Γ.length sh) : jm_wf (Γ.set k sh) := by
  intro x hx
  rw [List.length_set]
  rcases List.mem_or_eq_of_mem_set hx with hx | hx
  · exact h x hx
  · rw [hx]; exact hs
/-- addresses with one more cell -/
def jm_adn (ad : Nat → Nat) (b q : Nat) : Nat → Nat := fun x => if x = b then q else ad x
theorem jm_adn_lt {ad : Nat → Nat} {b q r : Nat} (h : r < b) : jm_adn ad b q r = ad r := by simp [jm_adn, Nat.ne_of_lt h]
theorem jm_adn_self {ad : Nat → Nat} {b q : Nat} : jm_adn ad b q b = q := by simp [jm_adn]
theorem jm_fs_eq {ad ad' : Nat → Nat} {fs : List (Option (Option Nat))} {f : Nat → Int32} (h : ∀ r : Nat, some (some r) ∈ fs → ad' r = ad r) : jm_fs ad' fs f = jm_fs ad fs f := by
  unfold jm_fs
  apply List.ext_getElem?
  intro i
  simp only [List.getElem?_mapIdx]
  cases hz : fs[i]? with
  | none => rfl
  | some o =>
    match o, hz with
    | none, _ => rfl
    | some none, _ => rfl
    | some (some r), hz =>
      simp only [Option.map_some, jm_fv]
      rw [h r (List.mem_of_getElem? hz)]
theorem jm_ent_eq {cA : Nat → ClassId} {ad ad' : Nat → Nat} {b : Nat} {sh : jm_Sh} {f : Nat → Int32} (h : jm_shok b sh) (ha : ∀ r, r < b → ad' r = ad r) : jm_ent cA ad' sh f = jm_ent cA ad sh f := by
  match sh, h with
  | .inl o, h => simp only [jm_ent]; rw [jm_fs_eq (fun r hr => ha r (h r hr))]
  | .inr (_, _, none), _ => rfl
  | .inr (_, _, some r), h =>
    simp only [jm_ent]
    have e : (fun j => (r j).map ad') = fun j => (r j).map ad := by
      funext j
      cases hz : r j with
      | none => rfl
      | some x => simp [ha x (h j x hz)]
    rw [e]
theorem jm_conc_push {Γ : List jm_Sh} {ad : Nat → Nat} {μ : Nat → Nat → Int32} (hwf : jm_wf Γ) (q : Nat) (sh : jm_Sh) (hs : jm_shok Γ.length sh) : jm_conc g (Γ ++ [sh], jm_adn ad Γ.length q, jm_up μ Γ.length (fun _ => 0)) = jm_conc g (Γ, ad, μ) ++ [(q, jm_ent g.2.2.1 ad sh (fun _ => 0))] := by
  apply List.ext_getElem?
  intro i
  have hlen : (jm_conc g (Γ, ad, μ)).length = Γ.length := by simp [jm_conc]
  have ha : ∀ r, r < Γ.length → jm_adn ad Γ.length q r = ad r := fun r hr => jm_adn_lt hr
  by_cases hi : i < Γ.length
  · rw [List.getElem?_append_left (by rw [hlen]; exact hi)]
    have hz : (Γ ++ [sh])[i]? = some Γ[i] := by rw [List.getElem?_append_left hi]; exact List.getElem?_eq_getElem hi
    rw [jm_conc_at g (Γ ++ [sh], jm_adn ad Γ.length q, jm_up μ Γ.length (fun _ => 0)) hz, jm_conc_at g (Γ, ad, μ) (List.getElem?_eq_getElem hi)]
    dsimp only
    rw [jm_adn_lt hi, jm_ent_eq (hwf _ (List.getElem_mem hi)) ha, jm_up_n _ _ (Nat.ne_of_lt hi)]
  · rw [List.getElem?_append_right (by rw [hlen]; omega), hlen]
    by_cases hi2 : i = Γ.length
    · subst hi2
      have hz : (Γ ++ [sh])[Γ.length]? = some sh := by simp
      rw [jm_conc_at g (Γ ++ [sh], jm_adn ad Γ.length q, jm_up μ Γ.length (fun _ => 0)) hz]
      dsimp only
      rw [jm_adn_self, jm_up_s, jm_ent_eq hs ha]
      simp
    · have hz : (Γ ++ [sh])[i]? = none := by rw [List.getElem?_eq_none]; simp; omega
      have h1 : (jm_conc g (Γ ++ [sh], jm_adn ad Γ.length q, jm_up μ Γ.length (fun _ => 0)))[i]? = none := by simp [jm_conc, List.getElem?_mapIdx]; omega
      rw [h1]
      exact (List.getElem?_eq_none (by simp; omega)).symm
theorem jm_ls_eq {ro ad ad' : Nat → Nat} {ls : List (Option Value)} (h : ∀ r : Nat, some (Value.ref r) ∈ ls → ad' r = ad r) : ∀ q ∈ jm_ls ro ad' ls, q ∈ jm_ls ro ad ls := by
  intro q hq
  obtain ⟨v, h1, h2⟩ := jm_ls_in.mp hq
  refine jm_ls_in.mpr ⟨v, h1, ?_⟩
  rw [h2]
  cases v <;> first | rfl | (simp only [jm_tr]; rw [h _ (List.mem_of_getElem? h1)])
theorem jm_st_eq {ro ad ad' : Nat → Nat} {st : List Value} (h : ∀ r : Nat, Value.ref r ∈ st → ad' r = ad r) : st.map (jm_tr ro ad') = st.map (jm_tr ro ad) := by
  apply List.map_congr_left
  intro v hv
  cases v <;> first | rfl | (simp only [jm_tr]; rw [h _ hv])
/-- Object's own constructor -/
def jm_LO (own : String) (idx : Nat) : Prop := Cond.methodLink own idx objectInit ∈ jm_TB ∧ Cond.instanceMethod objectInit ∈ jm_TB ∧ Cond.code objectInit ⟨#[0xb1]⟩ 1 none ∈ jm_TB
theorem jr_objInit {w : jm_W} {idx q : Nat} (hL : jm_LO M.1.cls idx) (hdg : decode M.2.1 pc = .ok (.invokespecial idx, 3)) (hR : decide (1 ≤ M.2.2.2.2.frames ∧ 20 ≤ M.2.2.2.2.locals) = true) (hlow : jm_low st = true) (kk : jm_R g M κ k n (pc + 3) ls st w) : jm_R g M κ k n pc ls (.ref q :: st) w := by
  obtain ⟨p, e, s, m, args, below, meth, c, A, Q⟩ := κ
  intro C H locs la hP hD hS hl
  have kk := kk C H locs la hP hD hS hl
  obtain ⟨hx1, hb, hml, hr, hown, hts, hlk, hnm, hSa, hRo, hA⟩ := C
  have hR := of_decide_eq_true hR
  have hlow := jm_low_of (ro := g.2.2.2.1) (ad := w.2.1) hlow
  refine W.objInit hx1 hb hown (hts _ hL.1) (hts _ hL.2.1) (hts _ hL.2.2) rfl (by rw [hml]; exact hl.1) (rest := st.map (jm_tr g.2.2.2.1 w.2.1)) rfl hdg hR.1 ?_ ?_
  · show 2 * 0 + _ + 12 ≤ _
    omega
  · exact kk
/-- a new object -/
def jm_LN (own : String) (idx ci : Nat) (fs : List (Option (Option Nat))) (N : Nat) : Prop := ∃ (r : vw_C) (t0 : Nat → FieldType), jm_Cls ci r t0 ∧ r.2.2 = N ∧ Cond.classLink own idx r.1 ∈ jm_TB ∧ Cond.instantiable r.1 r.2.2 ∈ jm_TB ∧ Cond.initialized r.1 ∈ jm_TB ∧ (∀ ad : Nat → Nat, ∀ j : Nat, j < r.2.2 → defaultValue (t0 j) = vp_V (jm_fs ad fs (fun _ => 0)) j) ∧ ∀ r : Nat, some (some r) ∉ fs
theorem jr_new {Γ : List jm_Sh} {ad : Nat → Nat} {μ : Nat → Nat → Int32} {idx N : Nat} (ci : Nat) (fs : List (Option (Option Nat))) (hL : jm_LN M.1.cls idx ci fs N) (hdg : decode M.2.1 pc = .ok (.new idx, 3)) (hwf : jm_wf Γ) (hok : jm_rok Γ.length ls st) (hkn : decide (k + 1 ≤ M.2.2.2.2.cells ∧ n + N ≤ M.2.2.2.2.slots) = true)
    (kk : ∀ q : Nat, jm_R g M κ (k + 1) (n + N) (pc + 3) ls (.ref Γ.length :: st) (Γ ++ [.inl (ci, fs)], jm_adn ad Γ.length q, jm_up μ Γ.length (fun _ => 0))) : jm_R g M κ k n pc ls st (Γ, ad, μ) := by
  obtain ⟨p, e, s, m, args, below, meth, c, A, Q⟩ := κ
  intro C H locs la hP hD hS hl
  have kk := fun q => kk q C
  obtain ⟨hx1, hb, hml, hr, hown, hts, hlk, hnm, hSa, hRo, hA⟩ := C
  obtain ⟨⟨CN, T, N'⟩, t0, ⟨hc, hin, hty, hnd⟩, hN, w1, w2, w3, hdf, hnr⟩ := hL
  have hN : N' = N := hN
  subst hN
  have hkn := of_decide_eq_true hkn
  have hsok : jm_shok Γ.length (.inl (ci, fs)) := fun r hr => absurd hr (hnr r)
  refine va_new (D := g.2.1) (cl := vwCl) (ci := ci) (fs := jm_fs ad fs (fun _ => 0)) (C := CN) (T := T) (N := N') hx1 hb hts hin t0 hty hown (hts _ w1) (hts _ w2) (hts _ w3) hSa.1 hP hD hS hA hc (hdf ad) hkn.1 hkn.2 hdg (fun q H1 hP1 hD1 hS1 => ?_)
  have e9 := jm_conc_push (g := g) (ad := ad) (μ := μ) hwf q (.inl (ci, fs)) hsok
  have h9 := kk q H1 locs la (by rw [e9]; exact hP1) (by rw [e9]; exact hD1) hS1 (jm_has hl (jm_ls_eq (fun r hr => jm_adn_lt (hok.1 r hr))))
  have e8 : (Value.ref Γ.length :: st).map (jm_tr g.2.2.2.1 (jm_adn ad Γ.length q)) = .ref q :: st.map (jm_tr g.2.2.2.1 ad) := by
    rw [List.map_cons, jm_st_eq (fun r hr => jm_adn_lt (hok.2 r hr))]
    show Value.ref (jm_adn ad Γ.length q Γ.length) :: _ = _
    rw [jm_adn_self]
  dsimp only at h9
  rw [e8] at h9
  exact h9
/-- all arrays of one class have one class: from the tables -/
theorem jm_same_cls {U : State} {D : va_G} {cl : List vw_C} {tys : List (ClassId × FieldType)} {cA c1 : ClassId} {ty : FieldType} {i : Nat} (h : va_K D cl (tys ++ [(cA, ty)]) U) (hi : tys[i]? = some (c1, ty)) : cA = c1 := by
  have hl := (List.getElem?_eq_some_iff.mp hi).1
  have h1 := (h.2 i (c1, ty) (by rw [List.getElem?_append_left hl]; exact hi)).2
  have h2 := (h.2 tys.length (cA, ty) (by simp)).2
  cases ty with
  | object C =>
    obtain ⟨_, _, _, _, _, a4⟩ := h1
    obtain ⟨_, _, _, _, _, b4⟩ := h2
    exact Option.some.inj (b4.symm.trans a4)
  | _ => exact Option.some.inj (h2.symm.trans h1)
/-- a new array of numbers -/
theorem jr_newa {Γ : List jm_Sh} {ad : Nat → Nat} {μ : Nat → Nat → Int32} {atype : ArrayType} {x : Int32} (kd len : Nat) {ty : FieldType} (hdg : decode M.2.1 pc = .ok (.newarray atype, 2)) (hty : newarray.typeOf atype = ty) (hkd : (jm_tys g)[kd]? = some (g.2.2.1 kd, ty)) (hdef : defaultValue ty = .int 0) (hw : Cond.arrayClass (newarray.typeOf atype) ∈ jm_TB) (hx : x = Int32.ofNat len) (hlen : decide (len < 100000) = true) (hcb : componentBytes ty ≤ 8) (hwf : jm_wf Γ) (hok : jm_rok Γ.length ls st) (hkn : decide (k + 1 ≤ M.2.2.2.2.cells ∧ n + len ≤ M.2.2.2.2.slots) = true)
    (kk : ∀ q : Nat, jm_R g M κ (k + 1) (n + len) (pc + 2) ls (.ref Γ.length :: st) (Γ ++ [.inr (kd, len, none)], jm_adn ad Γ.length q, jm_up μ Γ.length (fun _ => 0))) : jm_R g M κ k n pc ls (.int x :: st) (Γ, ad, μ) := by
  obtain ⟨p, e, s, m, args, below, meth, c, A, Q⟩ := κ
  intro C H locs la hP hD hS hl
  have kk := fun q => kk q C
  obtain ⟨hx1, hb, hml, hr, hown, hts, hlk, hnm, hSa, hRo, hA⟩ := C
  have hkn := of_decide_eq_true hkn
  have hlen := of_decide_eq_true hlen
  subst hx
  have hsok : jm_shok Γ.length (.inr (kd, len, none)) := trivial
  have e7 : (Int32.ofNat len).toNatClampNeg = len := Int32.toNatClampNeg_ofNat_of_lt (by omega)
  refine va_newa (D := g.2.1) (cl := vwCl) (a0 := (len, .inl (fun _ => 0))) (N' := len) hx1 hb (hts _ hw) hty hSa.1 hP hD hS hA (fun cA => by rw [vp_cell_i, hdef]) (nI_pos (n := len) (by omega)) e7 (by have := Nat.mul_le_mul (Nat.le_of_lt hlen) hcb; omega) hkn.1 hkn.2 hdg (fun q cA H1 hK1 hP1 hD1 hS1 => ?_)
  have hcA := jm_same_cls hK1 hkd
  subst hcA
  have e9 := jm_conc_push (g := g) (ad := ad) (μ := μ) hwf q (.inr (kd, len, none)) hsok
  have h9 := kk q H1 locs la (by rw [e9]; exact hP1) (by rw [e9]; exact hD1) hS1 (jm_has hl (jm_ls_eq (fun r hr => jm_adn_lt (hok.1 r hr))))
  have e8 : (Value.ref Γ.length :: st).map (jm_tr g.2.2.2.1 (jm_adn ad Γ.length q)) = .ref q :: st.map (jm_tr g.2.2.2.1 ad) := by
    rw [List.map_cons, jm_st_eq (fun r hr => jm_adn_lt (hok.2 r hr))]
    show Value.ref (jm_adn ad Γ.length q Γ.length) :: _ = _
    rw [jm_adn_self]
  dsimp only at h9
  rw [e8] at h9
  exact h9
/-- a new array of references -/
theorem jr_newq {Γ : List jm_Sh} {ad : Nat → Nat} {μ : Nat → Nat → Int32} {idx : Nat} {x : Int32} (kd len : Nat) {CN : String} (hdg : decode M.2.1 pc = .ok (.anewarray idx, 3)) (hkd : (kd = 3 ∧ CN = RX3) ∨ (kd = 4 ∧ CN = RX6)) (hw : Cond.classLink M.1.cls idx CN ∈ jm_TB) (hx : x = Int32.ofNat len) (hlen : decide (len < 100000) = true) (hwf : jm_wf Γ) (hok : jm_rok Γ.length ls st) (hkn : decide (k + 1 ≤ M.2.2.2.2.cells ∧ n + len ≤ M.2.2.2.2.slots) = true)
    (kk : ∀ q : Nat, jm_R g M κ (k + 1) (n + len) (pc + 3) ls (.ref Γ.length :: st) (Γ ++ [.inr (kd, len, some (fun _ => none))], jm_adn ad Γ.length q, jm_up μ Γ.length (fun _ => 0))) : jm_R g M κ k n pc ls (.int x :: st) (Γ, ad, μ) := by
  obtain ⟨p, e, s, m, args, below, meth, c, A, Q⟩ := κ
  intro C H locs la hP hD hS hl
  have kk := fun q => kk q C
  obtain ⟨hx1, hb, hml, hr, hown, hts, hlk, hnm, hSa, hRo, hA⟩ := C
  have hkn := of_decide_eq_true hkn
  have hlen := of_decide_eq_true hlen
  subst hx
  have hsok : jm_shok Γ.length (.inr (kd, len, some (fun _ => none))) := fun j r hr => by cases hr
  have e7 : (Int32.ofNat len).toNatClampNeg = len := Int32.toNatClampNeg_ofNat_of_lt (by omega)
  have hAO : va_AO CN s := by
    rcases hkd with ⟨-, rfl⟩ | ⟨-, rfl⟩
    · exact hSa.2.2.1
    · exact hSa.2.2.2
  refine va_newq (D := g.2.1) (cl := vwCl) (N' := len) hx1 hb hown (hts _ hw) hAO hSa.1 hP hD hS hA (nI_pos (n := len) (by omega)) e7 (by omega) hkn.1 hkn.2 hdg (fun q cA H1 hK1 hP1 hD1 hS1 => ?_)
  have hcA : cA = g.2.2.1 kd := by
    rcases hkd with ⟨rfl, rfl⟩ | ⟨rfl, rfl⟩
    · exact jm_same_cls (i := 3) hK1 rfl
    · exact jm_same_cls (i := 4) hK1 rfl
  subst hcA
  have e9 := jm_conc_push (g := g) (ad := ad) (μ := μ) hwf q (.inr (kd, len, some (fun _ => none))) hsok
  have h9 := kk q H1 locs la (by rw [e9]; exact hP1) (by rw [e9]; exact hD1) hS1 (jm_has hl (jm_ls_eq (fun r hr => jm_adn_lt (hok.1 r hr))))
  have e8 : (Value.ref Γ.length :: st).map (jm_tr g.2.2.2.1 (jm_adn ad Γ.length q)) = .ref q :: st.map (jm_tr g.2.2.2.1 ad) := by
    rw [List.map_cons, jm_st_eq (fun r hr => jm_adn_lt (hok.2 r hr))]
    show Value.ref (jm_adn ad Γ.length q Γ.length) :: _ = _
    rw [jm_adn_self]
  dsimp only at h9
  rw [e8] at h9
  exact h9
/-- a reference is put into an array of references -/
theorem jr_aast {Γ : List jm_Sh} {ad : Nat → Nat} {μ : Nat → Nat → Int32} {q r len kd ci : Nat} {i : Int32} {f : Nat → Option Nat} {fs : List (Option (Option Nat))} (Γ' : List jm_Sh) (hdg : decode M.2.1 pc = .ok (.aastore, 1)) (hkd : (kd = 3 ∧ ci = 3) ∨ (kd = 4 ∧ ci = 6)) (hg : Γ[q]? = some (.inr (kd, len, some f))) (hr : Γ[r]? = some (.inl (ci, fs))) (hi : vp_in i len) (hG : Γ.set q (.inr (kd, len, some (va_up f i.toNatClampNeg (some r)))) = Γ') (kk : jm_R g M κ k n (pc + 1) ls st (Γ', ad, μ)) : jm_R g M κ k n pc ls (.ref r :: .int i :: .ref q :: st) (Γ, ad, μ) := by
  obtain ⟨p, e, s, m, args, below, meth, c, A, Q⟩ := κ
  intro C H locs la hP hD hS hl
  subst hG
  have kk := kk C
  obtain ⟨hx1, hb, hml, hr1, hown, hts, hlk, hnm, hSa, hRo, hA⟩ := C
  have e9 : (jm_conc g (Γ, ad, μ)).set q (ad q, .inl (g.2.2.1 kd, len, .inr (.inr (.inr (.inr (va_up (fun j => (f j).map ad) i.toNatClampNeg (some (ad r)))))))) = jm_conc g (Γ.set q (.inr (kd, len, some (va_up f i.toNatClampNeg (some r)))), ad, μ) := by
    have e7 := jm_conc_shape g Γ ad μ (.inr (kd, len, some (va_up f i.toNatClampNeg (some r)))) (List.getElem?_eq_some_iff.mp hg).1
    rw [← e7]
    congr 1
    simp only [jm_ent]
    congr 8
    funext j
    by_cases hj : j = i.toNatClampNeg <;> simp [va_up, hj]
  rcases hkd with ⟨rfl, rfl⟩ | ⟨rfl, rfl⟩
  · refine va_astq hx1 hb hSa.1 hP hD hS q 3 r 3 (r := (RX3, TX3, 3)) (jm_conc_at g (Γ, ad, μ) hg) rfl (jm_conc_at g (Γ, ad, μ) hr) rfl hi hdg (fun H1 locs1 hP1 hD1 hS1 => ?_)
    dsimp only at hP1 hD1
    rw [e9] at hP1 hD1
    exact kk H1 locs1 la hP1 hD1 hS1 hl
  · refine va_astq hx1 hb hSa.1 hP hD hS q 4 r 6 (r := (RX6, TX6, 6)) (jm_conc_at g (Γ, ad, μ) hg) rfl (jm_conc_at g (Γ, ad, μ) hr) rfl hi hdg (fun H1 locs1 hP1 hD1 hS1 => ?_)
    dsimp only at hP1 hD1
    rw [e9] at hP1 hD1
    exact kk H1 locs1 la hP1 hD1 hS1 hl
/-- a constructor's call; the callee may make cells -/
theorem jr_callI {w : jm_W} {idx q : Nat} (hL : jm_LI M.1.cls idx M2 0) (hfit : jm_fit M M2 = true) (hdg : decode M.2.1 pc = .ok (.invokespecial idx, 3)) (hlow : jm_low st = true) (hok : jm_rok w.1.length ls st) (hmc : decide (k + M2.2.2.2.2.cells ≤ M.2.2.2.2.cells ∧ n + M2.2.2.2.2.slots ≤ M.2.2.2.2.slots) = true)
    (kk : jm_Cp g M2 [.ref q] w (fun v w' => v = none ∧ (∀ r, r < w.1.length → w'.2.1 r = w.2.1 r) ∧ jm_R g M κ (k + M2.2.2.2.2.cells) (n + M2.2.2.2.2.slots) (pc + 3) ls st w')) : jm_R g M κ k n pc ls (.ref q :: st) w := by
  obtain ⟨p, e, s, m, args, below, meth, c, A, Q⟩ := κ
  intro C H locs la hP hD hS hl
  have C2 := C
  obtain ⟨hx1, hb, hml, hr, hown, hts, hlk, hnm, hSa, hRo, hA⟩ := C2
  obtain ⟨⟨b1, b2, b4, b5, b6, b7⟩, hd1, hd2, hd3⟩ := hL
  have hAA := jm_AA hA hD hS
  refine jm_back (A := A) (va_runI (As := []) (rest := st.map (jm_tr g.2.2.2.1 w.2.1)) ⟨hx1, hb, hml, hown, hts⟩ (kk H.size) (cwI 0 hts (jm_gws (by rw [b7]; exact b5)) (by rw [jm_ws, b7]) rfl rfl (hts _ b4) (hts _ b1) (hts _ b2) b6 ⟨hd1, hd2, hd3⟩ (jm_fit_of hfit)) ⟨jm_blind, jm_enter C hP hD hS [.ref q]⟩ rfl rfl hl.1 rfl (lv_room (jm_low_of hlow)) hdg (of_decide_eq_true hmc)) hS (fun q _ h => hAA q h) hAA (fun v w' H1 locs1 hp hP1 hD1 hS1 => ?_)
  obtain ⟨rfl, hw', hR⟩ := hp
  have h9 := hR C H1 locs1 la hP1 (hD1.weaken (fun _ _ _ h => hAA _ h)) hS1 (jm_has hl (jm_ls_eq (fun r hr => hw' r (hok.1 r hr))))
  rw [jm_st_eq (fun r hr => hw' r (hok.2 r hr))] at h9
  exact h9
theorem jr_callNI {w : jm_W} {idx q : Nat} (hL : jm_LNI M.1.cls idx M2 0) (hfit : jm_fit M M2 = true) (hdg : decode M.2.1 pc = .ok (.invokespecial idx, 3)) (hlow : jm_low st = true) (hok : jm_rok w.1.length ls st) (hmc : decide (k + M2.2.2.2.2.cells ≤ M.2.2.2.2.cells ∧ n + M2.2.2.2.2.slots ≤ M.2.2.2.2.slots) = true)
    (kk : jm_Cp g M2 [.ref q] w (fun v w' => v = none ∧ (∀ r, r < w.1.length → w'.2.1 r = w.2.1 r) ∧ jm_R g M κ (k + M2.2.2.2.2.cells) (n + M2.2.2.2.2.slots) (pc + 3) ls st w')) : jm_R g M κ k n pc ls (.ref q :: st) w := by
  obtain ⟨p, e, s, m, args, below, meth, c, A, Q⟩ := κ
  intro C H locs la hP hD hS hl
  have C2 := C
  obtain ⟨hx1, hb, hml, hr, hown, hts, hlk, hnm, hSa, hRo, hA⟩ := C2
  obtain ⟨⟨host, b1⟩, ⟨b2, b4, b5, b6, b7⟩, hd1, hd2, hd3⟩ := hL
  have hAA := jm_AA hA hD hS
  refine jm_back (A := A) (va_runIN (As := []) (rest := st.map (jm_tr g.2.2.2.1 w.2.1)) ⟨hx1, hb, hml, hown, hts⟩ (kk H.size) ⟨va_cnB 0 hts (jm_gws (by rw [b7]; exact b5)) (by rw [jm_ws, b7]) rfl rfl (hSa.2.1 _ b1) (hts _ b4) ⟨hd1, hd2, hd3⟩ (jm_fit_of hfit), b6, hts _ b2⟩ ⟨jm_blind, jm_enter C hP hD hS [.ref q]⟩ rfl rfl hl.1 rfl (lv_room (jm_low_of hlow)) hdg (of_decide_eq_true hmc)) hS (fun q _ h => hAA q h) hAA (fun v w' H1 locs1 hp hP1 hD1 hS1 => ?_)
  obtain ⟨rfl, hw', hR⟩ := hp
  have h9 := hR C H1 locs1 la hP1 (hD1.weaken (fun _ _ _ h => hAA _ h)) hS1 (jm_has hl (jm_ls_eq (fun r hr => hw' r (hok.1 r hr))))
  rw [jm_st_eq (fun r hr => hw' r (hok.2 r hr))] at h9
  exact h9
end JMA
