section JMC
variable {g : jm_G} {ad : Nat → Nat} {P : Option Value → (Nat → Nat → Int32) → Prop}
theorem drop_at {pad : List Int} {i : Nat} {c : Int} (h : pad[i]? = some c) : pad.drop i = c :: pad.drop (i + 1) := by
  obtain ⟨h1, h2⟩ := List.getElem?_eq_some_iff.mp h
  rw [List.drop_eq_getElem_cons h1, h2]
theorem prun_go {i : Nat} {c : Int} {cs : List Int} {s s' : Int × Int × Int} (h : pstep s c = some (s', [])) : prun i (c :: cs) s = prun (i + 1) cs s' := by
  rw [prun, h]
  rfl
theorem prun_no {i : Nat} {c : Int} {cs : List Int} {s : Int × Int × Int} (h : pstep s c = none) : prun i (c :: cs) s = ((i : Int), []) := by
  rw [prun, h]
/-- the reader's place, ear and time may change, nothing else -/
def aR (μ μ' : Nat → Nat → Int32) : Prop := (∀ j : Nat, j ≠ 24 → j ≠ 25 → j ≠ 26 → μ' 82 j = μ 82 j) ∧ ∀ c : Nat, c ≠ 82 → μ' c = μ c
theorem aR.trans {μ μ' μ'' : Nat → Nat → Int32} (h : aR μ μ') (h' : aR μ' μ'') : aR μ μ'' := ⟨fun j a b c => by rw [h'.1 j a b c]; exact h.1 j a b c, fun c cc => by rw [h'.2 c cc]; exact h.2 c cc⟩
theorem aR.refl {μ : Nat → Nat → Int32} : aR μ μ := ⟨fun _ _ _ _ => rfl, fun _ _ => rfl⟩
theorem aR.st {μ μ' : Nat → Nat → Int32} {j : Nat} {x : Int32} (h : j = 24 ∨ j = 25 ∨ j = 26) (e : μ' = jm_st μ 82 j x) : aR μ μ' := ⟨fun k a b c => by rw [e, jm_st_ni _ _ _ (by omega)], fun c cc => by rw [e, jm_st_nc _ _ _ cc]⟩
theorem MP.aR {μ μ' : Nat → Nat → Int32} {pad : List Int} (h : MP μ pad) (k : aR μ μ') : MP μ' pad := h.kept (k.1 7 (by decide) (by decide) (by decide)) (k.2 88 (by decide))
theorem c_X9_character {μ : Nat → Nat → Int32} {pad : List Int} {i : Nat} (hP : MP μ pad) (hi : i ≤ 80) (h1 : ∀ c : Int, pad[i]? = some c → 33 ≤ c → c ≤ 126 → P (some (.int (ii c))) μ) (h0 : pad[i]? = none → P (some (.int (ii (-1)))) μ) : jD g ad m_X9_character [.ref 82, .int (ii i)] μ P := by
  refine jd_intro [some (.ref 82), some (.int (ii i))] (by decide) rfl rfl (fun κ hE => ?_)
  obtain ⟨a1, a2, a3⟩ := hP
  refine sX9_character_0 hE _ ?_
  rw [a1, ii_le (by omega) (by omega), e_m1]
  refine ⟨fun c => h0 (List.getElem?_eq_none (by omega)), fun c => ⟨ii_in (by omega) (by omega) (by omega), ?_⟩⟩
  have hg : pad[i]? = some (pad[i]'(by omega)) := List.getElem?_eq_getElem (by omega)
  obtain ⟨b1, b2, b3⟩ := a3 i _ hg
  rw [ii_natN (by omega), b1]
  exact h1 _ hg b2 b3
theorem c_X9_isNext {μ : Nat → Nat → Int32} {pad : List Int} {i : Nat} {x : Int} (hP : MP μ pad) (hat : μ 82 24 = ii i) (hi : i ≤ 80) (hx : 0 ≤ x ∧ x ≤ 126) (h1 : ∀ μ' : Nat → Nat → Int32, pad[i]? = some x → μ' 82 24 = ii ((i + 1 : Nat) : Int) → aR μ μ' → μ' 82 25 = μ 82 25 → μ' 82 26 = μ 82 26 → P (some (.int 1)) μ') (h0 : ∀ μ' : Nat → Nat → Int32, pad[i]? ≠ some x → μ' 82 24 = ii i → aR μ μ' → μ' 82 25 = μ 82 25 → μ' 82 26 = μ 82 26 → P (some (.int 0)) μ') : jD g ad m_X9_isNext [.ref 82, .int (ii x)] μ P := by
  refine jd_intro [some (.ref 82), some (.int (ii x)), none] (by decide) rfl rfl (fun κ hE => ?_)
  refine sX9_isNext_0 hE _ ?_
  rw [hat]
  have no : pad[i]? ≠ some x → ∀ μ1 : Nat → Nat → Int32, μ1 = jm_st μ 82 24 (ii i + 0) → P (some (.int 0)) μ1 := by
    intro hne μ1 e1
    refine h0 μ1 hne ?_ (aR.st (Or.inl rfl) e1) (by rw [e1, jm_st_ni _ _ _ (by decide)]) (by rw [e1, jm_st_ni _ _ _ (by decide)])
    rw [e1, jm_st_s, ii_0, ii_add, Int.add_zero]
  refine c_X9_character hP hi (fun c hg c1 c2 => sX9_isNext_8 hE _ _ ?_) (fun hg => sX9_isNext_8 hE _ _ ?_)
  · rw [hat, ii_eq (by omega) (by omega)]
    refine ⟨fun q => ⟨fun _ => no (by rw [hg]; intro q2; exact q (Option.some.inj q2)), fun q2 => absurd rfl q2⟩, fun q => ⟨fun q2 => absurd q2 (by decide), fun _ μ1 e1 => ?_⟩⟩
    refine h1 μ1 (by rw [hg, q]) ?_ (aR.st (Or.inl rfl) e1) (by rw [e1, jm_st_ni _ _ _ (by decide)]) (by rw [e1, jm_st_ni _ _ _ (by decide)])
    rw [e1, jm_st_s]
    simp (disch := omega) only [ii_lit, ii_neg, ii_add, ii_sub, ii_mul, ii_lt, ii_le, ii_eq]
    rfl
  · rw [hat, ii_eq (by omega) (by omega)]
    exact ⟨fun q => ⟨fun _ => no (by rw [hg]; intro q2; cases q2), fun q2 => absurd rfl q2⟩, fun q => by omega⟩
theorem c_X9_takeDigit {μ : Nat → Nat → Int32} {pad : List Int} {i : Nat} {most : Int} (hP : MP μ pad) (hat : μ 82 24 = ii i) (hi : i ≤ 80) (hm : 0 ≤ most ∧ most ≤ 9) (h1 : ∀ (c : Int) (μ' : Nat → Nat → Int32), pad[i]? = some c → 0 ≤ c - 48 → c - 48 ≤ most → μ' 82 24 = ii ((i + 1 : Nat) : Int) → aR μ μ' → μ' 82 25 = μ 82 25 → μ' 82 26 = μ 82 26 → P (some (.int (ii (c - 48)))) μ') (h0 : (∀ c : Int, pad[i]? = some c → ¬ (0 ≤ c - 48 ∧ c - 48 ≤ most)) → P (some (.int (ii (-1)))) μ) : jD g ad m_X9_takeDigit [.ref 82, .int (ii most)] μ P := by
  refine jd_intro [some (.ref 82), some (.int (ii most)), none] (by decide) rfl rfl (fun κ hE => ?_)
  refine sX9_takeDigit_0 hE _ ?_
  rw [hat]
  have e48 : (48 : Int32) = ii 48 := by decide
  refine c_X9_character hP hi (fun c hg c1 c2 => sX9_takeDigit_8 hE _ _ ?_) (fun hg => sX9_takeDigit_8 hE _ _ ?_)
  · rw [e48, ii_sub, ii_0]
    refine c_X9_within (by omega) (by decide) (by omega) (fun d1 d2 => sX9_takeDigit_18 hE _ _ ⟨fun _ μ1 e1 => ?_, fun q => absurd q (by decide)⟩) (fun d => sX9_takeDigit_18 hE _ _ ⟨fun q => absurd rfl q, fun _ => ?_⟩)
    · refine h1 c μ1 hg d1 d2 ?_ (aR.st (Or.inl rfl) e1) (by rw [e1, jm_st_ni _ _ _ (by decide)]) (by rw [e1, jm_st_ni _ _ _ (by decide)])
      rw [e1, jm_st_s, hat]
      simp (disch := omega) only [ii_lit, ii_neg, ii_add, ii_sub, ii_mul, ii_lt, ii_le, ii_eq]
      rfl
    · rw [e_m1]
      refine h0 (fun c' hg' => ?_)
      rw [hg] at hg'
      have e : c = c' := Option.some.inj hg'
      rw [← e]
      exact d
  · rw [e48, ii_sub, ii_0]
    refine c_X9_within (by omega) (by decide) (by omega) (fun d1 d2 => by omega) (fun d => sX9_takeDigit_18 hE _ _ ⟨fun q => absurd rfl q, fun _ => ?_⟩)
    rw [e_m1]
    refine h0 (fun c' hg' => ?_)
    rw [hg] at hg'
    cases hg'
/-- a number ends there -/
def stopP (pad : List Int) (j : Nat) (v : Int) : Prop := v = 0 ∨ 10000 ≤ v ∨ ∀ c : Int, pad[j]? = some c → ¬ (0 ≤ c - 48 ∧ c - 48 ≤ 9)
theorem c_X9_takeNumber {μ : Nat → Nat → Int32} {pad : List Int} {i : Nat} {e t : Int} (hP : MP μ pad) (hat : μ 82 24 = ii i) (hi : i ≤ 80) (h1 : ∀ (v : Int) (j : Nat) (μ' : Nat → Nat → Int32), i < j → j ≤ pad.length → 0 ≤ v → v ≤ 99999 → prun i (pad.drop i) (2, e, t) = prun j (pad.drop j) (3, e, v) → stopP pad j v → μ' 82 24 = ii j → aR μ μ' → μ' 82 25 = μ 82 25 → P (some (.int (ii v))) μ') (h0 : prun i (pad.drop i) (2, e, t) = ((i : Int), []) → P (some (.int (ii (-1)))) μ) : jD g ad m_X9_takeNumber [.ref 82] μ P := by
  refine jd_intro [some (.ref 82), none] (by decide) rfl rfl (fun κ hE => ?_)
  have h80 := hP.2.1
  have e9 : (9 : Int32) = ii 9 := by decide
  have key : ∀ (m j : Nat) (v : Int) (μ1 : Nat → Nat → Int32), j + m = pad.length → i < j → 0 ≤ v → v ≤ 99999 → prun i (pad.drop i) (2, e, t) = prun j (pad.drop j) (3, e, v) → μ1 82 24 = ii j → aR μ μ1 → μ1 82 25 = μ 82 25 → jS g ad m_X9_takeNumber κ 7 [some (.ref 82), some (.int (ii v))] [] μ1 := by
    intro m
    induction m with
    | zero =>
      intro j v μ1 hj hij v0 v9 hpr hat1 k1 k2
      have hP1 := hP.aR k1
      have hnone : pad[j]? = none := List.getElem?_eq_none (by omega)
      have fin : P (some (.int (ii v))) μ1 := h1 v j μ1 hij (by omega) v0 v9 hpr (Or.inr (Or.inr (fun c hg => by rw [hnone] at hg; cases hg))) hat1 k1 k2
      refine sX9_takeNumber_7 hE _ ⟨fun _ => fin, fun _ => ⟨fun _ => fin, fun _ => ?_⟩⟩
      rw [hat1]
      refine c_X9_character hP1 (by omega) (fun c hg _ _ => by rw [hnone] at hg; cases hg) (fun _ => sX9_takeNumber_26 hE _ _ ?_)
      have e48 : (48 : Int32) = ii 48 := by decide
      have e57 : (57 : Int32) = ii 57 := by decide
      rw [e48, e57]
      exact c_X9_within (by decide) (by decide) (by decide) (fun d1 d2 => by omega) (fun _ => sX9_takeNumber_33 hE _ _ ⟨fun _ => fin, fun q => absurd rfl q⟩)
    | succ m ih =>
      intro j v μ1 hj hij v0 v9 hpr hat1 k1 k2
      have hP1 := hP.aR k1
      have fin : stopP pad j v → P (some (.int (ii v))) μ1 := fun hs => h1 v j μ1 hij (by omega) v0 v9 hpr hs hat1 k1 k2
      refine sX9_takeNumber_7 hE _ ?_
      rw [ii_0, ii_le (by omega) (by decide), ii_lit 10000, ii_le (by decide) (by omega)]
      refine ⟨fun c => fin (Or.inl (by omega)), fun c => ⟨fun c2 => fin (Or.inr (Or.inl c2)), fun c2 => ?_⟩⟩
      have c2 : ¬ (10000 : Int) ≤ v := c2
      have hg : pad[j]? = some (pad[j]'(by omega)) := List.getElem?_eq_getElem (by omega)
      generalize pad[j]'(by omega) = c at hg
      rw [hat1]
      refine c_X9_character hP1 (by omega) (fun c' hg' d1 d2 => sX9_takeNumber_26 hE _ _ ?_) (fun hg' => by rw [hg] at hg'; cases hg')
      have ec : c = c' := by rw [hg] at hg'; exact Option.some.inj hg'
      subst ec
      have e48 : (48 : Int32) = ii 48 := by decide
      have e57 : (57 : Int32) = ii 57 := by decide
      rw [e48, e57]
      refine c_X9_within (by omega) (by decide) (by decide) (fun q1 q2 => sX9_takeNumber_33 hE _ _ ⟨fun q => absurd q (by decide), fun _ => ?_⟩) (fun q => sX9_takeNumber_33 hE _ _ ⟨fun _ => fin (Or.inr (Or.inr (fun c' hg' => ?_))), fun q => absurd rfl q⟩)
      · rw [e9]
        refine c_X9_takeDigit hP1 hat1 (by omega) (by decide) (fun c' μ2 hg2 q3 q4 hat2 k3 k4 k5 => sX9_takeNumber_46 hE _ _ ?_) (fun q => absurd ⟨by omega, by omega⟩ (q c hg))
        have ec : c = c' := by rw [hg] at hg2; exact Option.some.inj hg2
        subst ec
        have e10 : (10 : Int32) = ii 10 := by decide
        rw [e10, ii_mul, ii_add]
        refine ih (j + 1) (10 * v + (c - 48)) μ2 (by omega) (by omega) (by omega) (by omega) ?_ hat2 (k1.trans k3) (by rw [k4, k2])
        rw [hpr, drop_at hg]
        refine prun_go ?_
        rw [pstep3, if_neg (by omega), if_pos ⟨⟨q3, q4⟩, by omega, by omega⟩, show v * 10 + (c - 48) = 10 * v + (c - 48) by omega]
      · rw [hg] at hg'
        have ec : c = c' := Option.some.inj hg'
        omega
  refine sX9_takeNumber_0 hE ?_
  rw [e9]
  refine c_X9_takeDigit hP hat hi (by decide) (fun c μ2 hg q3 q4 hat2 k3 k4 k5 => sX9_takeNumber_6 hE _ ?_) (fun q => sX9_takeNumber_6 hE _ (sX9_takeNumber_7 hE _ ⟨fun _ => h0 ?_, fun q => absurd (by decide) q⟩))
  · have hlt : i < pad.length := (List.getElem?_eq_some_iff.mp hg).1
    refine key (pad.length - (i + 1)) (i + 1) (c - 48) μ2 (by omega) (by omega) (by omega) (by omega) ?_ hat2 k3 k4
    rw [drop_at hg]
    refine prun_go ?_
    rw [pstep2, if_pos ⟨q3, q4⟩]
  · cases hg : pad[i]? with
    | none =>
      have hl := List.getElem?_eq_none_iff.mp hg
      rw [List.drop_eq_nil_of_le hl]
      unfold prun
      rw [if_neg (show ¬ (2 : Int) = 3 by decide)]
    | some c =>
      rw [drop_at hg]
      refine prun_no ?_
      rw [pstep2, if_neg (q c hg)]
theorem c_X9_readsPulse {μ : Nat → Nat → Int32} {pad : List Int} {i : Nat} {e0 t0 : Int} (hP : MP μ pad) (hat : μ 82 24 = ii i) (hi : i ≤ pad.length) (h1 : ∀ (e v : Int) (j : Nat) (μ' : Nat → Nat → Int32), i < j → j ≤ pad.length → 0 ≤ e → e < 4 → 0 ≤ v → v ≤ 99999 → prun i (pad.drop i) (0, e0, t0) = prun j (pad.drop j) (3, e, v) → stopP pad j v → μ' 82 24 = ii j → μ' 82 25 = ii e → μ' 82 26 = ii v → aR μ μ' → P (some (.int 1)) μ') (h0 : ∀ (j : Nat) (μ' : Nat → Nat → Int32), j ≤ pad.length → prun i (pad.drop i) (0, e0, t0) = ((j : Int), []) → μ' 82 24 = ii j → aR μ μ' → P (some (.int 0)) μ') : jD g ad m_X9_readsPulse [.ref 82] μ P := by
  refine jd_intro [some (.ref 82)] (by decide) rfl rfl (fun κ hE => ?_)
  have h80 := hP.2.1
  -- the end without a time
  have bad : ∀ (j : Nat) (μ1 μ2 : Nat → Nat → Int32), j ≤ pad.length → prun i (pad.drop i) (0, e0, t0) = ((j : Int), []) → μ1 82 24 = ii j → aR μ μ1 → ∀ x : Int32, x = ii (-1) → μ2 = jm_st μ1 82 26 x → (μ2 82 26 < 0 → P (some (.int 0)) μ2) ∧ (¬ μ2 82 26 < 0 → P (some (.int 1)) μ2) := by
    intro j μ1 μ2 hj hpr hat1 k1 x hx e2
    have x26 : μ2 82 26 = ii (-1) := by rw [e2, jm_st_s, hx]
    rw [x26]
    exact ⟨fun _ => h0 j μ2 hj hpr (by rw [e2, jm_st_ni _ _ _ (by decide)]; exact hat1) (k1.trans (aR.st (Or.inr (Or.inr rfl)) e2)), fun q => absurd (by decide) q⟩
  refine sX9_readsPulse_0 hE ?_
  rw [ii_3]
  refine c_X9_takeDigit hP hat (by omega) (by decide) (fun c μ1 hg q1 q2 hat1 k1 _ _ => sX9_readsPulse_6 hE _ ?_) (fun q => sX9_readsPulse_6 hE _ ?_)
  · have hlt : i < pad.length := (List.getElem?_eq_some_iff.mp hg).1
    have p1 : prun i (pad.drop i) (0, e0, t0) = prun (i + 1) (pad.drop (i + 1)) (1, c - 48, t0) := by
      rw [drop_at hg]
      refine prun_go ?_
      rw [pstep0, if_pos ⟨q1, by omega⟩]
    intro μ2 e2
    have x25 : μ2 82 25 = ii (c - 48) := by rw [e2, jm_st_s]
    have x24 : μ2 82 24 = ii ((i + 1 : Nat) : Int) := by rw [e2, jm_st_ni _ _ _ (by decide)]; exact hat1
    have k2 : aR μ μ2 := k1.trans (aR.st (Or.inr (Or.inl rfl)) e2)
    rw [x25, ii_0, ii_lt (by omega) (by decide)]
    refine ⟨fun q => by omega, fun _ => ?_⟩
    have e58 : (58 : Int32) = ii 58 := by decide
    rw [e58]
    refine c_X9_isNext (hP.aR k2) x24 (by omega) (by decide) (fun μ3 hg3 hat3 k3 y25 _ => sX9_readsPulse_23 hE _ ⟨fun q => absurd q (by decide), fun _ => ?_⟩) (fun μ3 hg3 hat3 k3 y25 _ => sX9_readsPulse_23 hE _ ⟨fun _ μ4 e4 => ?_, fun q => absurd rfl q⟩)
    · have hlt3 : i + 1 < pad.length := (List.getElem?_eq_some_iff.mp hg3).1
      have p2 : prun i (pad.drop i) (0, e0, t0) = prun (i + 1 + 1) (pad.drop (i + 1 + 1)) (2, c - 48, t0) := by
        rw [p1, drop_at hg3]
        refine prun_go ?_
        rw [pstep1, if_pos rfl]
      have k4 : aR μ μ3 := k2.trans k3
      refine c_X9_takeNumber (e := c - 48) (t := t0) (hP.aR k4) hat3 (by omega) (fun v j μ4 hij hj v0 v9 hpr hs hat4 k5 z25 => sX9_readsPulse_30 hE _ ?_) (fun hpr => sX9_readsPulse_30 hE _ (fun μ4 e4 => bad (i + 1 + 1) μ3 μ4 (by omega) (by rw [p2]; exact hpr) hat3 k4 _ rfl e4))
      intro μ5 e5
      have x26 : μ5 82 26 = ii v := by rw [e5, jm_st_s]
      rw [x26, ii_0, ii_lt (by omega) (by decide)]
      refine ⟨fun q => by omega, fun _ => ?_⟩
      exact h1 (c - 48) v j μ5 (by omega) hj q1 (by omega) v0 v9 (by rw [p2]; exact hpr) hs (by rw [e5, jm_st_ni _ _ _ (by decide)]; exact hat4) (by rw [e5, jm_st_ni _ _ _ (by decide), z25, y25]; exact x25) x26 ((k4.trans k5).trans (aR.st (Or.inr (Or.inr rfl)) e5))
    · refine bad (i + 1) μ3 μ4 (by omega) ?_ hat3 (k2.trans k3) _ e_m1 e4
      rw [p1]
      cases hg9 : pad[i + 1]? with
      | none =>
        have hl := List.getElem?_eq_none_iff.mp hg9
        rw [List.drop_eq_nil_of_le hl]
        unfold prun
        rw [if_neg (show ¬ (1 : Int) = 3 by decide)]
      | some c9 =>
        rw [drop_at hg9]
        refine prun_no ?_
        rw [pstep1, if_neg (fun q => hg3 (by rw [hg9, q]))]
  · intro μ1 e1
    have x25 : μ1 82 25 = ii (-1) := by rw [e1, jm_st_s]
    rw [x25]
    refine ⟨fun _ μ2 e2 => ?_, fun q => absurd (by decide) q⟩
    refine bad i μ1 μ2 hi ?_ (by rw [e1, jm_st_ni _ _ _ (by decide)]; exact hat) (aR.st (Or.inr (Or.inl rfl)) e1) _ e_m1 e2
    cases hg9 : pad[i]? with
    | none =>
      have hl := List.getElem?_eq_none_iff.mp hg9
      rw [List.drop_eq_nil_of_le hl]
      unfold prun
      rw [if_neg (show ¬ (0 : Int) = 3 by decide)]
    | some c9 =>
      rw [drop_at hg9]
      refine prun_no ?_
      rw [pstep0, if_neg (fun q2 => q c9 hg9 ⟨q2.1, by omega⟩)]
theorem c_X9_findFault {μ : Nat → Nat → Int32} {pad : List Int} (hP : MP μ pad) (hp : ∀ μ' : Nat → Nat → Int32, aR μ μ' → P (some (.int (ii (pfault pad).1))) μ') : jD g ad m_X9_findFault [.ref 82] μ P := by
  refine jd_intro [some (.ref 82)] (by decide) rfl rfl (fun κ hE => ?_)
  have h80 := hP.2.1
  have e59 : (59 : Int32) = ii 59 := by decide
  have key : ∀ (m i : Nat) (e0 t0 : Int) (μ1 : Nat → Nat → Int32), i + m = pad.length → (prun i (pad.drop i) (0, e0, t0)).1 = (pfault pad).1 → μ1 82 24 = ii i → aR μ μ1 → jS g ad m_X9_findFault κ 5 [some (.ref 82)] [] μ1 := by
    intro m
    induction m using Nat.strongRecOn with
    | ind m ih =>
      intro i e0 t0 μ1 hi hpr hat1 k1
      refine sX9_findFault_5 hE (c_X9_readsPulse (e0 := e0) (t0 := t0) (hP.aR k1) hat1 (by omega) (fun e v j μ2 hij hj e1 e2 v1 v2 hp2 hs hat2 x25 x26 k2 => sX9_findFault_9 hE _ ⟨fun _ => ?_, fun q => absurd q (by decide)⟩) (fun j μ2 hj hp2 hat2 k2 => sX9_findFault_9 hE _ ⟨fun q => absurd rfl q, fun _ => ?_⟩))
      · have hP2 := (hP.aR k1).aR k2
        rw [hat2, hP2.1, ii_eq (by omega) (by omega), e59, e_m6]
        rw [hp2] at hpr
        refine ⟨fun c => ?_, fun c => ?_⟩
        · refine c_X9_isNext hP2 hat2 (by omega) (by decide) (fun μ3 hg hat3 k3 _ _ => sX9_findFault_37 hE _ ⟨fun _ => ?_, fun q => absurd q (by decide)⟩) (fun μ3 hg hat3 k3 _ _ => sX9_findFault_37 hE _ ⟨fun q => absurd rfl q, fun _ => ?_⟩)
          · have hlt : j < pad.length := (List.getElem?_eq_some_iff.mp hg).1
            rw [drop_at hg, prun, pstep3, if_pos rfl] at hpr
            exact ih (pad.length - (j + 1)) (by omega) (j + 1) e v μ3 (by omega) hpr hat3 ((k1.trans k2).trans k3)
          · have hg9 : pad[j]? = some (pad[j]'(by omega)) := List.getElem?_eq_getElem (by omega)
            generalize pad[j]'(by omega) = c9 at hg9
            have hno : prun j (pad.drop j) (3, e, v) = ((j : Int), []) := by
              rw [drop_at hg9]
              refine prun_no ?_
              rw [pstep3, if_neg (fun q => hg (by rw [hg9, q])), if_neg]
              rintro ⟨q1, q2, q3⟩
              rcases hs with h | h | h
              · exact q2 h
              · omega
              · exact h c9 hg9 q1
            rw [hno] at hpr
            have hpr : (j : Int) = (pfault pad).1 := hpr
            rw [hat3, hpr]
            exact hp μ3 ((k1.trans k2).trans k3)
        · have hj2 : j = pad.length := by omega
          rw [hj2, List.drop_eq_nil_of_le (Nat.le_refl _)] at hpr
          have e9 : prun pad.length [] (3, e, v) = (-6, [v * 4 + e]) := by
            unfold prun
            rw [if_pos rfl]
          rw [e9] at hpr
          have hpr : (-6 : Int) = (pfault pad).1 := hpr
          rw [hpr]
          exact hp μ2 (k1.trans k2)
      · rw [hp2] at hpr
        have hpr : (j : Int) = (pfault pad).1 := hpr
        rw [hat2, hpr]
        exact hp μ2 (k1.trans k2)
  refine sX9_findFault_0 hE ?_
  intro μ1 e1
  exact key pad.length 0 0 0 μ1 (by omega) rfl (by rw [e1, jm_st_s]; decide) (aR.st (Or.inl rfl) e1)
theorem MI.aR {μ μ' : Nat → Nat → Int32} {σ : sT} (h : MI μ σ) (k : aR μ μ') : MI μ' σ ∧ aA μ μ' := by
  obtain ⟨a, b, c, d, e, f, s⟩ := h
  have k2 := k.2
  exact ⟨⟨a.kept (k2 _ (by decide)), b, c.kept (k.1 3 (by decide) (by decide) (by decide)) (k2 _ (by decide)), d.kept (k2 _ (by decide)) (k2 _ (by decide)), e.aR k, f.kept (k2 _ (by decide)), s.kept (k.1 10 (by decide) (by decide) (by decide)) (k2 _ (by decide))⟩, fun c cc => k2 c (by omega)⟩
theorem c_X9_fault {μ : Nat → Nat → Int32} {σ : sT} (hc : MI μ σ) (hp : ∀ μ' : Nat → Nat → Int32, MI μ' σ → aA μ μ' → P (some (.int (ii (opFault σ)))) μ') : jD g ad m_X9_fault [.ref 82] μ P := by
  refine jd_intro [some (.ref 82)] (by decide) rfl rfl (fun κ hE => ?_)
  exact sX9_fault_0 hE (c_X9_findFault hc.2.2.2.2.1 (fun μ1 k => sX9_fault_4 hE _ (hp μ1 (hc.aR k).1 (hc.aR k).2)))
end JMC
