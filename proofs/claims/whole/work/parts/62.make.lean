section JMO
variable {g : jm_G} {M M2 : jm_M} {κ : jm_K} {k n pc : Nat} {ls : List (Option Value)}
/-! constructors: an object at b behind cells that stay, and the cells that it makes -/
theorem gx0 {Γ0 R : List jm_Sh} {b : Nat} {s : jm_Sh} (hb : Γ0.length = b) : (Γ0 ++ (s :: R))[b]? = some s := by
  rw [List.getElem?_append_right (by omega), hb, Nat.sub_self]
  rfl
theorem gset0 {Γ0 R : List jm_Sh} {b : Nat} {s s' : jm_Sh} (hb : Γ0.length = b) : (Γ0 ++ (s :: R)).set b s' = Γ0 ++ (s' :: R) := by
  rw [List.set_append_right _ _ (by omega), hb, Nat.sub_self]
  rfl
theorem gx1 {Γ0 R : List jm_Sh} {b a : Nat} {s x : jm_Sh} (hb : Γ0.length = b) (h : R[a]? = some x) : (Γ0 ++ (s :: R))[b + 1 + a]? = some x := by
  rw [List.getElem?_append_right (by omega), hb, show b + 1 + a - b = a + 1 by omega]
  exact h
theorem gset1 {Γ0 R : List jm_Sh} {b a : Nat} {s x : jm_Sh} (hb : Γ0.length = b) : (Γ0 ++ (s :: R)).set (b + 1 + a) x = Γ0 ++ (s :: R.set a x) := by
  rw [List.set_append_right _ _ (by omega), hb, show b + 1 + a - b = a + 1 by omega]
  rfl
theorem glen {Γ0 R : List jm_Sh} {b : Nat} {s : jm_Sh} (hb : Γ0.length = b) : (Γ0 ++ (s :: R)).length = b + 1 + R.length := by
  rw [List.length_append, List.length_cons]
  omega
theorem gapp {Γ0 R T : List jm_Sh} {s : jm_Sh} : (Γ0 ++ (s :: R)) ++ T = Γ0 ++ (s :: (R ++ T)) := by
  rw [List.append_assoc]
  rfl
/-- a field that names a cell: still in order -/
theorem wf_fld {Γ0 R : List jm_Sh} {b ci j r : Nat} {fs : List (Option (Option Nat))} (hb : Γ0.length = b) (hwf : jm_wf (Γ0 ++ (.inl (ci, fs) :: R))) (hr : r < b + 1 + R.length) : jm_wf (Γ0 ++ (.inl (ci, fs.set j (some (some r))) :: R)) := by
  have h := hwf.set (k := b) (sh := .inl (ci, fs.set j (some (some r)))) (by
    intro r' hr'
    rcases List.mem_or_eq_of_mem_set hr' with h | h
    · exact hwf (.inl (ci, fs)) (List.mem_append_right _ List.mem_cons_self) r' h
    · have e : r' = r := by simpa using h
      rw [e, glen hb]
      exact hr)
  rw [gset0 hb] at h
  exact h
/-- a constructor's contract -/
def jm_Mk (g : jm_G) (M : jm_M) (ci : Nat) (fs0 : List (Option (Option Nat))) (mk : Nat → List jm_Sh) (fct : Nat → (Nat → Nat → Int32) → Prop) : Prop :=
  ∀ (Γ0 : List jm_Sh) (b : Nat) (ad : Nat → Nat) (μ : Nat → Nat → Int32) (P : Option Value → jm_W → Prop), Γ0.length = b → jm_wf (Γ0 ++ [.inl (ci, fs0)]) → μ b = (fun _ => 0) →
  (∀ (ad' : Nat → Nat) (μ' : Nat → Nat → Int32), (∀ r : Nat, r < b + 1 → ad' r = ad r) → jm_wf (Γ0 ++ mk b) → (∀ c : Nat, c < b → μ' c = μ c) → fct b μ' → P none (Γ0 ++ mk b, ad', μ')) →
  jm_Cp g M [.ref b] (Γ0 ++ [.inl (ci, fs0)], ad, μ) P
/-- this.field = new int[len] -/
theorem mk_arr {Γ0 R : List jm_Sh} {b ci idx pc2 : Nat} {fs : List (Option (Option Nat))} {ad : Nat → Nat} {μ : Nat → Nat → Int32} {atype : ArrayType} (kd len j : Nat) {ty fty : FieldType} (hb : Γ0.length = b) (hwf : jm_wf (Γ0 ++ (.inl (ci, fs) :: R))) (hl0 : ls[0]? = some (some (.ref b))) (hlr : ∀ r : Nat, some (Value.ref r) ∈ ls → r < b + 1)
    (d0 : decode M.2.1 pc = .ok (.aload_n 0, 1)) (push : ∀ (st : List Value) (w : jm_W), jm_R g M κ k n pc2 ls (.int (Int32.ofNat len) :: st) w → jm_R g M κ k n (pc + 1) ls st w)
    (d2 : decode M.2.1 pc2 = .ok (.newarray atype, 2)) (hty : newarray.typeOf atype = ty) (hkd : (jm_tys g)[kd]? = some (g.2.2.1 kd, ty)) (hdef : defaultValue ty = .int 0) (hw : Cond.arrayClass (newarray.typeOf atype) ∈ jm_TB) (hlen : decide (len < 100000) = true) (hcb : componentBytes ty ≤ 8) (hkn : decide (k + 1 ≤ M.2.2.2.2.cells ∧ n + len ≤ M.2.2.2.2.slots) = true)
    (hf : jm_F M.1.cls idx ci j true fty) (hown2 : (vwCl[ci]?).map (fun r => r.1) = some M.1.cls) (hinit : M.1.name = "<init>") (d3 : decode M.2.1 (pc2 + 2) = .ok (.putfield idx, 3)) (hj : j < fs.length) (hn : ∀ a : Nat, narrow fty (.ref a) = .ref a) (hfit : ∀ a : Nat, fits fty (.ref a) = true)
    (kk : ∀ ad' : Nat → Nat, (∀ r : Nat, r < b + 1 + R.length → ad' r = ad r) → jm_wf (Γ0 ++ (.inl (ci, fs.set j (some (some (b + 1 + R.length)))) :: (R ++ [.inr (kd, len, none)]))) → jm_R g M κ (k + 1) (n + len) (pc2 + 2 + 3) ls [] (Γ0 ++ (.inl (ci, fs.set j (some (some (b + 1 + R.length)))) :: (R ++ [.inr (kd, len, none)])), ad', jm_up μ (b + 1 + R.length) (fun _ => 0))) :
    jm_R g M κ k n pc ls [] (Γ0 ++ (.inl (ci, fs) :: R), ad, μ) := by
  have hL := glen (Γ0 := Γ0) (R := R) (s := .inl (ci, fs)) hb
  refine jr_aload_n d0 hl0 (push _ _ ?_)
  refine jr_newa kd len d2 hty hkd hdef hw rfl hlen hcb hwf ⟨fun r hr => by rw [hL]; have := hlr r hr; omega, fun r hr => ?_⟩ hkn (fun q => ?_)
  · have e : r = b := by simpa using hr
    rw [hL]
    omega
  · rw [hL, gapp]
    have hwf2 : jm_wf (Γ0 ++ (.inl (ci, fs) :: (R ++ [.inr (kd, len, none)]))) := by
      rw [← gapp]
      exact hwf.push trivial
    have hwf3 := wf_fld (j := j) (r := b + 1 + R.length) hb hwf2 (by rw [List.length_append, List.length_singleton]; omega)
    exact jr_putF ci j _ hf hown2 hinit d3 (gx0 hb) hj hn hfit (gset0 hb) (kk _ (fun r hr => jm_adn_lt hr) hwf3)
/-- this.field = new X() -/
theorem mk_obj {Γ0 R : List jm_Sh} {b ci ci2 idx idn N : Nat} {fs fs2 : List (Option (Option Nat))} {ad : Nat → Nat} {μ : Nat → Nat → Int32} {mk : Nat → List jm_Sh} {fct : Nat → (Nat → Nat → Int32) → Prop} (j : Nat) {fty : FieldType} (hM : jm_Mk g M2 ci2 fs2 mk fct) (hb : Γ0.length = b) (hwf : jm_wf (Γ0 ++ (.inl (ci, fs) :: R))) (hl0 : ls[0]? = some (some (.ref b))) (hlr : ∀ r : Nat, some (Value.ref r) ∈ ls → r < b + 1)
    (d0 : decode M.2.1 pc = .ok (.aload_n 0, 1)) (hLN : jm_LN M.1.cls idn ci2 fs2 N) (d1 : decode M.2.1 (pc + 1) = .ok (.new idn, 3)) (hfs2 : ∀ r : Nat, some (some r) ∉ fs2) (hkn : decide (k + 1 ≤ M.2.2.2.2.cells ∧ n + N ≤ M.2.2.2.2.slots) = true) (d2 : decode M.2.1 (pc + 1 + 3) = .ok (.dup, 1))
    (call : ∀ (q : Nat) (st : List Value) (w : jm_W), jm_low st = true → jm_rok w.1.length ls st → jm_Cp g M2 [.ref q] w (fun v w' => v = none ∧ (∀ r, r < w.1.length → w'.2.1 r = w.2.1 r) ∧ jm_R g M κ (k + 1 + M2.2.2.2.2.cells) (n + N + M2.2.2.2.2.slots) (pc + 1 + 3 + 1 + 3) ls st w') → jm_R g M κ (k + 1) (n + N) (pc + 1 + 3 + 1) ls (.ref q :: st) w)
    (hf : jm_F M.1.cls idx ci j true fty) (hown2 : (vwCl[ci]?).map (fun r => r.1) = some M.1.cls) (hinit : M.1.name = "<init>") (d3 : decode M.2.1 (pc + 1 + 3 + 1 + 3) = .ok (.putfield idx, 3)) (hj : j < fs.length) (hn : ∀ a : Nat, narrow fty (.ref a) = .ref a) (hfit : ∀ a : Nat, fits fty (.ref a) = true) (hmk : ∀ L : Nat, 0 < (mk L).length)
    (kk : ∀ (ad' : Nat → Nat) (μ' : Nat → Nat → Int32), (∀ r : Nat, r < b + 1 + R.length → ad' r = ad r) → jm_wf (Γ0 ++ (.inl (ci, fs.set j (some (some (b + 1 + R.length)))) :: (R ++ mk (b + 1 + R.length)))) → (∀ c : Nat, c < b + 1 + R.length → μ' c = μ c) → fct (b + 1 + R.length) μ' → jm_R g M κ (k + 1 + M2.2.2.2.2.cells) (n + N + M2.2.2.2.2.slots) (pc + 1 + 3 + 1 + 3 + 3) ls [] (Γ0 ++ (.inl (ci, fs.set j (some (some (b + 1 + R.length)))) :: (R ++ mk (b + 1 + R.length))), ad', μ')) :
    jm_R g M κ k n pc ls [] (Γ0 ++ (.inl (ci, fs) :: R), ad, μ) := by
  have hL := glen (Γ0 := Γ0) (R := R) (s := .inl (ci, fs)) hb
  refine jr_aload_n d0 hl0 ?_
  refine jr_new ci2 fs2 hLN d1 hwf ⟨fun r hr => by rw [hL]; have := hlr r hr; omega, fun r hr => ?_⟩ hkn (fun q => ?_)
  · have e : r = b := by simpa using hr
    rw [hL]
    omega
  · refine jr_dup d2 rfl ?_
    rw [hL]
    have hwf1 : jm_wf ((Γ0 ++ (.inl (ci, fs) :: R)) ++ [.inl (ci2, fs2)]) := hwf.push (fun r hr => absurd hr (hfs2 r))
    refine call _ _ _ rfl ⟨fun r hr => ?_, fun r hr => ?_⟩ ?_
    · have := hlr r hr
      rw [List.length_append, hL]
      show r < b + 1 + R.length + 1
      omega
    · rw [List.length_append, hL]
      show r < b + 1 + R.length + 1
      have e : r = b + 1 + R.length ∨ r = b := by simpa using hr
      omega
    · refine hM (Γ0 ++ (.inl (ci, fs) :: R)) (b + 1 + R.length) _ _ _ hL hwf1 (jm_up_s _ _ _) (fun ad' μ' h1 h2 h3 h4 => ⟨rfl, fun r hr => ?_, ?_⟩)
      · have hlen9 : ((Γ0 ++ ((Sum.inl (ci, fs) : jm_Sh) :: R)) ++ [(Sum.inl (ci2, fs2) : jm_Sh)]).length = b + 1 + R.length + 1 := by
          rw [List.length_append, hL]
          rfl
        exact h1 r (by rw [← hlen9]; exact hr)
      · rw [gapp] at h2 ⊢
        have hwf3 := wf_fld (j := j) (r := b + 1 + R.length) hb h2 (by have := hmk (b + 1 + R.length); rw [List.length_append]; omega)
        exact jr_putF ci j _ hf hown2 hinit d3 (gx0 hb) hj hn hfit (gset0 hb) (kk ad' μ' (fun r hr => by rw [h1 r (by omega)]; exact jm_adn_lt hr) hwf3 (fun c hc => by rw [h3 c hc]; exact jm_up_n _ _ (by omega)) h4)
/-- this.array[i] = new X() -/
theorem mk_slot {Γ0 R : List jm_Sh} {b ci ci2 idx idn N a kd len i : Nat} {fs fs2 : List (Option (Option Nat))} {f : Nat → Option Nat} {ad : Nat → Nat} {μ : Nat → Nat → Int32} {mk : Nat → List jm_Sh} {fct : Nat → (Nat → Nat → Int32) → Prop} (j : Nat) {fin : Bool} {fty : FieldType} (hM : jm_Mk g M2 ci2 fs2 mk fct) (hb : Γ0.length = b) (hwf : jm_wf (Γ0 ++ (.inl (ci, fs) :: R))) (hl0 : ls[0]? = some (some (.ref b))) (hl1 : ls[1]? = some (some (.int (ii i)))) (hlr : ∀ r : Nat, some (Value.ref r) ∈ ls → r < b + 1)
    (d0 : decode M.2.1 pc = .ok (.aload_n 0, 1)) (hf : jm_F M.1.cls idx ci j fin fty) (dg : decode M.2.1 (pc + 1) = .ok (.getfield idx, 3)) (hfj : fs[j]? = some (some (some (b + 1 + a)))) (ha : R[a]? = some (.inr (kd, len, some f))) (hkd : (kd = 3 ∧ ci2 = 3) ∨ (kd = 4 ∧ ci2 = 6)) (hi : i < len) (hlen : len < 1000)
    (d1 : decode M.2.1 (pc + 1 + 3) = .ok (.iload_n 1, 1)) (hLN : jm_LN M.1.cls idn ci2 fs2 N) (d2 : decode M.2.1 (pc + 1 + 3 + 1) = .ok (.new idn, 3)) (hfs2 : ∀ r : Nat, some (some r) ∉ fs2) (hkn : decide (k + 1 ≤ M.2.2.2.2.cells ∧ n + N ≤ M.2.2.2.2.slots) = true) (d3 : decode M.2.1 (pc + 1 + 3 + 1 + 3) = .ok (.dup, 1))
    (call : ∀ (q : Nat) (st : List Value) (w : jm_W), jm_low st = true → jm_rok w.1.length ls st → jm_Cp g M2 [.ref q] w (fun v w' => v = none ∧ (∀ r, r < w.1.length → w'.2.1 r = w.2.1 r) ∧ jm_R g M κ (k + 1 + M2.2.2.2.2.cells) (n + N + M2.2.2.2.2.slots) (pc + 1 + 3 + 1 + 3 + 1 + 3) ls st w') → jm_R g M κ (k + 1) (n + N) (pc + 1 + 3 + 1 + 3 + 1) ls (.ref q :: st) w)
    (d4 : decode M.2.1 (pc + 1 + 3 + 1 + 3 + 1 + 3) = .ok (.aastore, 1)) (hmk : ∀ L : Nat, ∃ fs', (mk L)[0]? = some (.inl (ci2, fs')))
    (kk : ∀ (ad' : Nat → Nat) (μ' : Nat → Nat → Int32), (∀ r : Nat, r < b + 1 + R.length → ad' r = ad r) → jm_wf (Γ0 ++ (.inl (ci, fs) :: (R.set a (.inr (kd, len, some (va_up f i (some (b + 1 + R.length))))) ++ mk (b + 1 + R.length)))) → (∀ c : Nat, c < b + 1 + R.length → μ' c = μ c) → jm_R g M κ (k + 1 + M2.2.2.2.2.cells) (n + N + M2.2.2.2.2.slots) (pc + 1 + 3 + 1 + 3 + 1 + 3 + 1) ls [] (Γ0 ++ (.inl (ci, fs) :: (R.set a (.inr (kd, len, some (va_up f i (some (b + 1 + R.length))))) ++ mk (b + 1 + R.length))), ad', μ')) :
    jm_R g M κ k n pc ls [] (Γ0 ++ (.inl (ci, fs) :: R), ad, μ) := by
  have hL := glen (Γ0 := Γ0) (R := R) (s := .inl (ci, fs)) hb
  have haR : a < R.length := (List.getElem?_eq_some_iff.mp ha).1
  refine jr_aload_n d0 hl0 ?_
  refine jr_get (w := (Γ0 ++ (.inl (ci, fs) :: R), ad, μ)) ci j hf dg (gx0 hb) hfj (.ref (b + 1 + a)) rfl ?_
  refine jr_iload_n d1 hl1 ?_
  refine jr_new ci2 fs2 hLN d2 hwf ⟨fun r hr => by rw [hL]; have := hlr r hr; omega, fun r hr => ?_⟩ hkn (fun q => ?_)
  · have e : r = b + 1 + a := by simpa using hr
    rw [hL]
    omega
  · refine jr_dup d3 rfl ?_
    rw [hL]
    have hwf1 : jm_wf ((Γ0 ++ (.inl (ci, fs) :: R)) ++ [.inl (ci2, fs2)]) := hwf.push (fun r hr => absurd hr (hfs2 r))
    refine call _ _ _ rfl ⟨fun r hr => ?_, fun r hr => ?_⟩ ?_
    · have := hlr r hr
      rw [List.length_append, hL]
      show r < b + 1 + R.length + 1
      omega
    · rw [List.length_append, hL]
      show r < b + 1 + R.length + 1
      have e : r = b + 1 + R.length ∨ r = b + 1 + a := by simpa using hr
      omega
    · refine hM (Γ0 ++ (.inl (ci, fs) :: R)) (b + 1 + R.length) _ _ _ hL hwf1 (jm_up_s _ _ _) (fun ad' μ' h1 h2 h3 h4 => ⟨rfl, fun r hr => ?_, ?_⟩)
      · have hlen9 : ((Γ0 ++ ((Sum.inl (ci, fs) : jm_Sh) :: R)) ++ [(Sum.inl (ci2, fs2) : jm_Sh)]).length = b + 1 + R.length + 1 := by
          rw [List.length_append, hL]
          rfl
        exact h1 r (by rw [← hlen9]; exact hr)
      · obtain ⟨fs', hfs'⟩ := hmk (b + 1 + R.length)
        have hm0 : 0 < (mk (b + 1 + R.length)).length := (List.getElem?_eq_some_iff.mp hfs').1
        rw [gapp] at h2 ⊢
        have hR : (Γ0 ++ (.inl (ci, fs) :: (R ++ mk (b + 1 + R.length))))[b + 1 + R.length]? = some (.inl (ci2, fs')) := by
          refine gx1 hb ?_
          rw [List.getElem?_append_right (Nat.le_refl _), Nat.sub_self]
          exact hfs'
        have hA : (Γ0 ++ (.inl (ci, fs) :: (R ++ mk (b + 1 + R.length))))[b + 1 + a]? = some (.inr (kd, len, some f)) := by
          refine gx1 hb ?_
          rw [List.getElem?_append_left haR]
          exact ha
        have hS : (R ++ mk (b + 1 + R.length)).set a (.inr (kd, len, some (va_up f i (some (b + 1 + R.length))))) = R.set a (.inr (kd, len, some (va_up f i (some (b + 1 + R.length))))) ++ mk (b + 1 + R.length) := List.set_append_left _ _ haR
        have hwf3 : jm_wf (Γ0 ++ (.inl (ci, fs) :: (R.set a (.inr (kd, len, some (va_up f i (some (b + 1 + R.length))))) ++ mk (b + 1 + R.length)))) := by
          rw [← hS, ← gset1 hb]
          refine h2.set ?_
          intro j9 r9 hr9
          rw [glen hb, List.length_append]
          by_cases c : j9 = i
          · have e : r9 = b + 1 + R.length := by
              rw [c] at hr9
              simp [va_up] at hr9
              exact hr9.symm
            omega
          · have h8 : f j9 = some r9 := by simpa [va_up, c] using hr9
            have h7 := hwf (.inr (kd, len, some f)) (List.mem_append_right _ (List.mem_cons_of_mem _ (List.mem_of_getElem? ha))) j9 r9 h8
            rw [hL] at h7
            omega
        refine jr_aast _ d4 hkd hA hR (ii_in (by omega) (by omega) (by omega)) (by rw [ii_natN (by omega), gset1 hb, hS]) (kk ad' μ' (fun r hr => by rw [h1 r (by omega)]; exact jm_adn_lt hr) hwf3 (fun c hc => by rw [h3 c hc]; exact jm_up_n _ _ (by omega)))
end JMO
