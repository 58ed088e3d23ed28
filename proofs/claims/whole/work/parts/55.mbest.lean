section JM8
variable {g : jm_G} {ad : Nat → Nat} {P : Option Value → (Nat → Nat → Int32) → Prop}
/-- what a row takes of an ear: -6 if there is none -/
def rowV (N : Int → List Nat) (c e : Nat) : Int := match (N (e : Int))[bitC c e]? with | some v => (v : Int) | none => -6
theorem rowV_some {N : Int → List Nat} {c e : Nat} (h : bitC c e < (N e).length) : rowV N c e = (rowIx N c e : Nat) := by
  unfold rowV rowIx
  rw [List.getD_eq_getElem?_getD, List.getElem?_eq_getElem h]
  rfl
theorem rowV_none {N : Int → List Nat} {c e : Nat} (h : ¬ bitC c e < (N e).length) : rowV N c e = -6 := by
  unfold rowV
  rw [List.getElem?_eq_none (by omega)]
theorem c_X9_takeRow {μ : Nat → Nat → Int32} {N : Int → List Nat} {c : Nat} (hN : canR μ N) (hc : c < 16) (hp : ∀ μ' : Nat → Nat → Int32, (∀ e : Nat, e < 4 → μ' 96 e = ii (rowV N c e)) → (∀ k : Nat, k ≠ 96 → μ' k = μ k) → P none μ') : jD g ad m_X9_takeRow [.ref 82, .int (ii c)] μ P := by
  refine jd_intro [some (.ref 82), some (.int (ii c)), none] (by decide) rfl rfl (fun κ hE => ?_)
  have key : ∀ (m e : Nat) (μ1 : Nat → Nat → Int32), e + m = 4 → (∀ j : Nat, j < e → μ1 96 j = ii (rowV N c j)) → (∀ k : Nat, k ≠ 96 → μ1 k = μ k) → jS g ad m_X9_takeRow κ 2 [some (.ref 82), some (.int (ii c)), some (.int (ii e))] [] μ1 := by
    intro m
    induction m with
    | zero =>
      intro e μ1 he a1 a2
      refine sX9_takeRow_2 hE _ _ ⟨fun _ => hp μ1 (fun j hj => a1 j (by omega)) a2, fun q => ?_⟩
      simp (disch := omega) only [ii_lit, ii_neg, ii_add, ii_sub, ii_mul, ii_lt, ii_le, ii_eq] at q
      omega
    | succ m ih =>
      intro e μ1 he a1 a2
      have e5 : ii (e : Int) + 1 = ii ((e + 1 : Nat) : Int) := by simp (disch := omega) only [ii_lit, ii_neg, ii_add, ii_sub, ii_mul, ii_lt, ii_le, ii_eq]; rfl
      have hb := bitC_lt c e
      obtain ⟨n1, n2, n3⟩ := hN e (by omega)
      refine sX9_takeRow_2 hE _ _ ⟨fun q => ?_, fun _ => ?_⟩
      · simp (disch := omega) only [ii_lit, ii_neg, ii_add, ii_sub, ii_mul, ii_lt, ii_le, ii_eq] at q
        omega
      · rw [bitC_ii c hc e (by omega), ii_2, ii_mul, ii_add, e5]
        refine ⟨ii_in (by omega) (by omega) (by omega), ii_in (by omega) (by omega) (by omega), ?_⟩
        intro μ2 e2
        rw [ii_natN (by omega), ii_nat (by omega) (by omega), show (2 * (e : Int) + (bitC c e : Nat)).toNat = 2 * e + bitC c e by omega, a2 97 (by decide)] at e2
        have hval : μ 97 (2 * e + bitC c e) = ii (rowV N c e) := by
          unfold rowV
          cases hg : (N (e : Int))[bitC c e]? with
          | some v => exact n2 _ v hg
          | none => exact n3 _ (List.getElem?_eq_none_iff.mp hg) hb
        rw [hval] at e2
        refine ih (e + 1) μ2 (by omega) (fun j hj => ?_) (fun k kk => by rw [e2, jm_st_nc _ _ _ kk]; exact a2 k kk)
        rw [e2]
        by_cases q : j = e
        · rw [q, jm_st_s]
        · rw [jm_st_ni _ _ _ q]; exact a1 j (by omega)
  refine sX9_takeRow_0 hE _ ?_
  exact key 4 0 μ (by omega) (fun j hj => by omega) (fun _ _ => rfl)
theorem c_X9_isRow {μ : Nat → Nat → Int32} {N : Int → List Nat} {c : Nat} (hv : ∀ e : Nat, e < 4 → μ 96 e = ii (rowV N c e)) (hir : ∀ e : Nat, e < 4 → -6 ≤ rowV N c e ∧ rowV N c e < 32) (hne : ∀ e : Nat, e < 4 → bitC c e < (N e).length → rowV N c e ≠ -6) (h1 : rowB N c = true → P (some (.int 1)) μ) (h0 : ¬ rowB N c = true → P (some (.int 0)) μ) : jD g ad m_X9_isRow [.ref 82] μ P := by
  refine jd_intro [some (.ref 82), none, none] (by decide) rfl rfl (fun κ hE => ?_)
  have no : ∀ (m e : Nat), e + m = 4 → ¬ rowB N c = true → jS g ad m_X9_isRow κ 4 [some (.ref 82), some (.int 0), some (.int (ii e))] [] μ := by
    intro m
    induction m with
    | zero =>
      intro e he hr
      refine sX9_isRow_4 hE _ _ ⟨fun _ => ⟨Or.inl rfl, h0 hr⟩, fun q => ?_⟩
      simp (disch := omega) only [ii_lit, ii_neg, ii_add, ii_sub, ii_mul, ii_lt, ii_le, ii_eq] at q
      omega
    | succ m ih =>
      intro e he hr
      have e5 : ii (e : Int) + 1 = ii ((e + 1 : Nat) : Int) := by simp (disch := omega) only [ii_lit, ii_neg, ii_add, ii_sub, ii_mul, ii_lt, ii_le, ii_eq]; rfl
      refine sX9_isRow_4 hE _ _ ⟨fun q => ?_, fun _ => ⟨fun _ => ?_, fun q => absurd rfl q⟩⟩
      · simp (disch := omega) only [ii_lit, ii_neg, ii_add, ii_sub, ii_mul, ii_lt, ii_le, ii_eq] at q
        omega
      · rw [e5]
        exact ih (e + 1) (by omega) hr
  have key : ∀ (m e : Nat), e + m = 4 → (∀ j : Nat, j < e → bitC c j < (N j).length) → jS g ad m_X9_isRow κ 4 [some (.ref 82), some (.int 1), some (.int (ii e))] [] μ := by
    intro m
    induction m with
    | zero =>
      intro e he hr
      refine sX9_isRow_4 hE _ _ ⟨fun _ => ⟨Or.inr rfl, h1 (rowB_iff.mpr (fun j hj => hr j (by omega)))⟩, fun q => ?_⟩
      simp (disch := omega) only [ii_lit, ii_neg, ii_add, ii_sub, ii_mul, ii_lt, ii_le, ii_eq] at q
      omega
    | succ m ih =>
      intro e he hr
      have e5 : ii (e : Int) + 1 = ii ((e + 1 : Nat) : Int) := by simp (disch := omega) only [ii_lit, ii_neg, ii_add, ii_sub, ii_mul, ii_lt, ii_le, ii_eq]; rfl
      have hi := hir e (by omega)
      refine sX9_isRow_4 hE _ _ ⟨fun q => ?_, fun _ => ⟨fun q => absurd q (by decide), fun _ => ⟨ii_in (by omega) (by omega) (by omega), ?_⟩⟩⟩
      · simp (disch := omega) only [ii_lit, ii_neg, ii_add, ii_sub, ii_mul, ii_lt, ii_le, ii_eq] at q
        omega
      · rw [ii_natN (by omega), hv e (by omega), e_m6, ii_eq (by omega) (by decide), e5]
        refine ⟨fun q => no m (e + 1) (by omega) (fun hr2 => ?_), fun q => ih (e + 1) (by omega) (fun j hj => ?_)⟩
        · exact hne e (by omega) (rowB_iff.mp hr2 e (by omega)) q
        · by_cases c4 : j = e
          · rw [c4]
            by_cases c5 : bitC c e < (N e).length
            · exact c5
            · exact absurd (rowV_none c5) q
          · exact hr j (by omega)
  refine sX9_isRow_0 hE ?_
  exact key 4 0 (by omega) (fun j hj => by omega)
set_option maxRecDepth 100000 in
theorem c_X9_findBest {μ : Nat → Nat → Int32} {h : sH} {N : Int → List Nat} {sp : Int} (hf : MS μ h) (hB : fB h.2.1 h.2.2) (hN : canR μ N) (hin : ∀ (e v : Nat), e < 4 → v ∈ N e → v < h.2.1) (hsp : 313 ≤ sp) (hT : MTm μ sp) (hr0 : rowB N 0 = true)
    (hp : ∀ (μ' : Nat → Nat → Int32) (b : Nat), kp N (fun c => (bst sp (rowT h.2.2 N c)).2) 16 = some b → μ' 82 21 = ii (bst sp (rowT h.2.2 N b)).2 → μ' 82 20 = ii ((bst sp (rowT h.2.2 N b)).1 : Nat) → (∀ e : Nat, e < 4 → μ' 98 e = ii (rowIx N b e : Nat)) → (∀ j : Nat, ¬ (20 ≤ j ∧ j ≤ 23) → μ' 82 j = μ 82 j) → (∀ c : Nat, c ≠ 82 → c ≠ 96 → c ≠ 98 → μ' c = μ c) → P none μ') : jD g ad m_X9_findBest [.ref 82] μ P := by
  refine jd_intro [some (.ref 82), none, none] (by decide) rfl rfl (fun κ hE => ?_)
  have hn := hf.2.2.1
  generalize hSe : (fun c => (bst sp (rowT h.2.2 N c)).2 : Nat → Int) = Sc at *
  have hSc : ∀ c : Nat, Sc c = (bst sp (rowT h.2.2 N c)).2 := fun c => by rw [← hSe]
  have hrix : ∀ c : Nat, rowB N c = true → ∀ e : Nat, e < 4 → rowIx N c e < h.2.1 := fun c hc e he => hin e _ he (rowIx_in (rowB_iff.mp hc e he))
  have htB : ∀ c : Nat, rowB N c = true → tB (rowT h.2.2 N c) := by
    intro c hc e he
    have := hB _ (hrix c hc e he)
    unfold rowT
    omega
  have hS0 : ∀ c : Nat, rowB N c = true → 0 ≤ Sc c ∧ Sc c ≤ 101806 := by
    intro c hc
    have hb := bst_best sp (rowT h.2.2 N c)
    rw [hSc, hb.2.1]
    have hp9 := hb.1
    unfold pt at hp9
    exact spr_rng hsp (htB c hc) (by omega) (by omega)
  have hrv : ∀ (c e : Nat), e < 4 → (-6 ≤ rowV N c e ∧ rowV N c e < 32) ∧ (bitC c e < (N e).length → rowV N c e ≠ -6) := by
    intro c e he
    by_cases q : bitC c e < (N e).length
    · rw [rowV_some q]
      have := hin e _ he (rowIx_in q)
      omega
    · rw [rowV_none q]
      omega
  -- what is kept after c rows
  have main : ∀ (m c : Nat) (μ1 : Nat → Nat → Int32), c + m = 16 → (kp N Sc c = none → μ1 82 21 = ii (-6)) → (∀ b : Nat, kp N Sc c = some b → μ1 82 21 = ii (Sc b) ∧ μ1 82 20 = ii ((bst sp (rowT h.2.2 N b)).1 : Nat) ∧ ∀ e : Nat, e < 4 → μ1 98 e = ii (rowIx N b e : Nat)) → (∀ j : Nat, ¬ (20 ≤ j ∧ j ≤ 23) → μ1 82 j = μ 82 j) → (∀ c : Nat, c ≠ 82 → c ≠ 96 → c ≠ 98 → μ1 c = μ c) → jS g ad m_X9_findBest κ 8 [some (.ref 82), some (.int (ii c)), none] [] μ1 := by
    intro m
    induction m with
    | zero =>
      intro c μ1 hc a0 a1 a2 a3
      have e : c = 16 := by omega
      subst e
      refine sX9_findBest_8 hE _ ⟨fun _ => ?_, fun q => absurd (by decide) q⟩
      cases hk : kp N Sc 16 with
      | none =>
        exfalso
        have : ∀ k : Nat, ∃ b, kp N Sc (k + 1) = some b := by
          intro k
          induction k with
          | zero => exact ⟨0, by simp [kp, hr0]⟩
          | succ k ihk =>
            obtain ⟨b, hb⟩ := ihk
            rw [kp]
            by_cases q : rowB N (k + 1) = true ∧ (match kp N Sc (k + 1) with | none => true | some b => decide (Sc (k + 1) < Sc b)) = true
            · exact ⟨k + 1, if_pos q⟩
            · exact ⟨b, (if_neg q).trans hb⟩
        obtain ⟨b, hb⟩ := this 15
        rw [hk] at hb
        cases hb
      | some b =>
        obtain ⟨w1, w2, w3⟩ := a1 b hk
        exact hp μ1 b hk (by rw [w1, hSc]) w2 w3 a2 a3
    | succ m ih =>
      intro c μ1 hc a0 a1 a2 a3
      have e5 : ii (c : Int) + 1 = ii ((c + 1 : Nat) : Int) := by simp (disch := omega) only [ii_lit, ii_neg, ii_add, ii_sub, ii_mul, ii_lt, ii_le, ii_eq]; rfl
      have hN1 : canR μ1 N := fun e he => by rw [a3 97 (by decide) (by decide) (by decide)]; exact hN e he
      have hkp : kp N Sc (c + 1) = if rowB N c = true ∧ (match kp N Sc c with | none => true | some b => decide (Sc c < Sc b)) = true then some c else kp N Sc c := rfl
      refine sX9_findBest_8 hE _ ⟨fun q => ?_, fun _ => ?_⟩
      · rw [ii_lit 16, ii_le (by decide) (by omega)] at q
        have q : (16 : Int) ≤ (c : Int) := q
        omega
      refine c_X9_takeRow hN1 (by omega) (fun μ2 t1 t2 => sX9_findBest_19 hE _ ?_)
      have keep : ∀ μ3 : Nat → Nat → Int32, ¬ (rowB N c = true ∧ (match kp N Sc c with | none => true | some b => decide (Sc c < Sc b)) = true) → μ3 82 21 = μ1 82 21 → μ3 82 20 = μ1 82 20 → μ3 98 = μ1 98 → (∀ j : Nat, ¬ (20 ≤ j ∧ j ≤ 23) → μ3 82 j = μ 82 j) → (∀ c : Nat, c ≠ 82 → c ≠ 96 → c ≠ 98 → μ3 c = μ c) → jS g ad m_X9_findBest κ 8 [some (.ref 82), some (.int (ii ((c + 1 : Nat) : Int))), none] [] μ3 := by
        intro μ3 hno x1 x2 x3 k1 k2
        rw [if_neg hno] at hkp
        refine ih (c + 1) μ3 (by omega) (fun q => by rw [x1]; exact a0 (by rw [← hkp]; exact q)) (fun b hb => ?_) k1 k2
        rw [hkp] at hb
        rw [x1, x2, x3]
        exact a1 b hb
      refine c_X9_isRow t1 (fun e he => (hrv c e he).1) (fun e he => (hrv c e he).2) (fun hr => sX9_findBest_23 hE _ _ ⟨fun q => absurd q (by decide), fun _ => ?_⟩) (fun hr => sX9_findBest_23 hE _ _ ⟨fun _ => ?_, fun q => absurd rfl q⟩)
      · have hMS2 : MS μ2 h := hf.kept (by rw [t2 83 (by decide), a3 83 (by decide) (by decide) (by decide)])
        have htri : triR μ2 h.2.1 (rowIx N c) := fun e he => ⟨by rw [t1 e he, rowV_some (rowB_iff.mp hr e he)], hrix c hr e he⟩
        have hT2 : MTm μ2 sp := hT.kept (by rw [t2 82 (by decide), a2 10 (by omega)]) (by rw [t2 90 (by decide), a3 90 (by decide) (by decide) (by decide)])
        refine c_X9_findPlace hMS2 hB htri hsp hT2 (fun μ3 p1 p2 p3 p4 => sX9_findBest_30 hE _ ?_)
        have p1 : μ3 82 22 = ii ((bst sp (rowT h.2.2 N c)).1 : Nat) := p1
        have p2 : μ3 82 23 = ii (Sc c) := by rw [hSc]; exact p2
        have hSr := hS0 c hr
        have x21 : μ3 82 21 = μ1 82 21 := by rw [p3 21 (by decide) (by decide), t2 82 (by decide)]
        have x20 : μ3 82 20 = μ1 82 20 := by rw [p3 20 (by decide) (by decide), t2 82 (by decide)]
        have x98 : μ3 98 = μ1 98 := by rw [p4 98 (by decide), t2 98 (by decide)]
        have k1 : ∀ j : Nat, ¬ (20 ≤ j ∧ j ≤ 23) → μ3 82 j = μ 82 j := fun j hj => by rw [p3 j (by omega) (by omega), t2 82 (by decide)]; exact a2 j hj
        have k2 : ∀ c : Nat, c ≠ 82 → c ≠ 96 → c ≠ 98 → μ3 c = μ c := fun c c1 c2 c3 => by rw [p4 c c1, t2 c c2]; exact a3 c c1 c2 c3
        -- it becomes the best
        have take : (rowB N c = true ∧ (match kp N Sc c with | none => true | some b => decide (Sc c < Sc b)) = true) → ∀ μ4 : Nat → Nat → Int32, μ4 = jm_st μ3 82 21 (μ3 82 23) → ∀ μ5 : Nat → Nat → Int32, μ5 = jm_st μ4 82 20 (μ4 82 22) → jS g ad m_X9_findBest κ 68 [some (.ref 82), some (.int (ii c)), some (.int 0)] [] μ5 := by
          intro hyes μ4 e4 μ5 e5'
          rw [if_pos hyes] at hkp
          have y22 : μ4 82 22 = ii ((bst sp (rowT h.2.2 N c)).1 : Nat) := by rw [e4, jm_st_ni _ _ _ (by decide)]; exact p1
          rw [y22] at e5'
          rw [p2] at e4
          have z21 : μ5 82 21 = ii (Sc c) := by rw [e5', jm_st_ni _ _ _ (by decide), e4, jm_st_s]
          have z20 : μ5 82 20 = ii ((bst sp (rowT h.2.2 N c)).1 : Nat) := by rw [e5', jm_st_s]
          have kk1 : ∀ j : Nat, ¬ (20 ≤ j ∧ j ≤ 23) → μ5 82 j = μ 82 j := fun j hj => by rw [e5', jm_st_ni _ _ _ (by omega), e4, jm_st_ni _ _ _ (by omega)]; exact k1 j hj
          have kk2 : ∀ c : Nat, c ≠ 82 → μ5 c = μ3 c := fun c cc => by rw [e5', jm_st_nc _ _ _ cc, e4, jm_st_nc _ _ _ cc]
          have copy : ∀ (m2 e : Nat) (μ6 : Nat → Nat → Int32), e + m2 = 4 → (∀ j : Nat, j < e → μ6 98 j = ii (rowIx N c j : Nat)) → (∀ c : Nat, c ≠ 98 → μ6 c = μ5 c) → jS g ad m_X9_findBest κ 68 [some (.ref 82), some (.int (ii c)), some (.int (ii e))] [] μ6 := by
            intro m2
            induction m2 with
            | zero =>
              intro e μ6 he b1 b2
              refine sX9_findBest_68 hE _ _ ⟨fun _ => ?_, fun q => ?_⟩
              · rw [e5]
                refine ih (c + 1) μ6 (by omega) (fun q => by rw [hkp] at q; cases q) (fun b hb => ?_) (fun j hj => by rw [b2 82 (by decide)]; exact kk1 j hj) (fun c c1 c2 c3 => by rw [b2 c c3, kk2 c c1]; exact k2 c c1 c2 c3)
                rw [hkp] at hb
                have eb : c = b := by simpa using hb
                subst eb
                exact ⟨by rw [b2 82 (by decide)]; exact z21, by rw [b2 82 (by decide)]; exact z20, fun e' he' => b1 e' (by omega)⟩
              · simp (disch := omega) only [ii_lit, ii_neg, ii_add, ii_sub, ii_mul, ii_lt, ii_le, ii_eq] at q
                omega
            | succ m2 ihm =>
              intro e μ6 he b1 b2
              have e6 : ii (e : Int) + 1 = ii ((e + 1 : Nat) : Int) := by simp (disch := omega) only [ii_lit, ii_neg, ii_add, ii_sub, ii_mul, ii_lt, ii_le, ii_eq]; rfl
              refine sX9_findBest_68 hE _ _ ⟨fun q => ?_, fun _ => ⟨ii_in (by omega) (by omega) (by omega), ii_in (by omega) (by omega) (by omega), ?_⟩⟩
              · simp (disch := omega) only [ii_lit, ii_neg, ii_add, ii_sub, ii_mul, ii_lt, ii_le, ii_eq] at q
                omega
              · intro μ7 e7
                rw [ii_natN (by omega), b2 96 (by decide), kk2 96 (by decide), p4 96 (by decide), t1 e (by omega), rowV_some (rowB_iff.mp hr e (by omega))] at e7
                rw [e6]
                refine ihm (e + 1) μ7 (by omega) (fun j hj => ?_) (fun c cc => by rw [e7, jm_st_nc _ _ _ cc]; exact b2 c cc)
                rw [e7]
                by_cases q : j = e
                · rw [q, jm_st_s]
                · rw [jm_st_ni _ _ _ q]; exact b1 j (by omega)
          exact copy 4 0 μ5 (by omega) (fun j hj => by omega) (fun _ _ => rfl)
        cases hk : kp N Sc c with
        | none =>
          rw [hk] at take
          have z := a0 hk
          rw [x21, z]
          refine ⟨fun _ => take ⟨hr, rfl⟩, fun q => absurd (by decide) q⟩
        | some b =>
          rw [hk] at take keep
          obtain ⟨w1, w2, w3⟩ := a1 b hk
          have hb9 := hS0 b (kp_lt hk).2
          rw [x21, w1, p2, e_m6, ii_eq (by omega) (by decide), ii_le (by omega) (by omega), e5]
          refine ⟨fun q => by omega, fun _ => ⟨fun q => ?_, fun q => ?_⟩⟩
          · exact keep μ3 (fun q2 => by have := of_decide_eq_true q2.2; omega) x21 x20 x98 k1 k2
          · intro μ4 e4 μ5 e5'
            refine take ⟨hr, decide_eq_true (by omega)⟩ μ4 ?_ μ5 e5'
            rw [p2]
            exact e4
      · rw [e5]
        exact keep μ2 (fun q => hr q.1) (by rw [t2 82 (by decide)]) (by rw [t2 82 (by decide)]) (t2 98 (by decide)) (fun j hj => by rw [t2 82 (by decide)]; exact a2 j hj) (fun c c1 c2 c3 => by rw [t2 c c2]; exact a3 c c1 c2 c3)
  refine sX9_findBest_0 hE ?_
  intro μ1 e1
  exact main 16 0 μ1 (by omega) (fun _ => by rw [e1, jm_st_s]; decide) (fun b hb => by simp [kp] at hb) (fun j hj => by rw [e1, jm_st_ni _ _ _ (by omega)]) (fun c c1 _ _ => by rw [e1, jm_st_nc _ _ _ c1])
end JM8
