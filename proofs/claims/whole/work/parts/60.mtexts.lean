section JMD
variable {g : jm_G} {ad : Nat → Nat} {P : Option Value → (Nat → Nat → Int32) → Prop}
theorem c_X9_hearAll {μ : Nat → Nat → Int32} {σ : sT} (hc : MI μ σ) (hp : ∀ μ' : Nat → Nat → Int32, MI μ' (opHearAll σ).2 → aA μ μ' → P (some (.int (ii (opHearAll σ).1))) μ') : jD g ad m_X9_hearAll [.ref 82] μ P := by
  refine jd_intro [some (.ref 82), none, none] (by decide) rfl rfl (fun κ hE => ?_)
  unfold opHearAll at hp
  have h80 := hc.2.2.2.2.1.2.1
  have hfr : -6 ≤ (pfault σ.2.2.2).1 ∧ (pfault σ.2.2.2).1 ≤ 80 := by
    have : ∀ (cs : List Int) (i : Nat) (s : Int × Int × Int), -6 ≤ (prun i cs s).1 ∧ (prun i cs s).1 ≤ i + cs.length := by
      intro cs
      induction cs with
      | nil =>
        intro i s
        unfold prun
        split
        · show -6 ≤ (-6 : Int) ∧ (-6 : Int) ≤ (i : Int) + ((0 : Nat) : Int)
          omega
        · show -6 ≤ (i : Int) ∧ (i : Int) ≤ (i : Int) + ((0 : Nat) : Int)
          omega
      | cons c cs ih =>
        intro i s
        rw [prun]
        cases pstep s c with
        | none =>
          show -6 ≤ (i : Int) ∧ (i : Int) ≤ (i : Int) + ((cs.length + 1 : Nat) : Int)
          omega
        | some q =>
          obtain ⟨s', out⟩ := q
          have h1 := ih (i + 1) s'
          show -6 ≤ (prun (i + 1) cs s').1 ∧ (prun (i + 1) cs s').1 ≤ (i : Int) + ((cs.length + 1 : Nat) : Int)
          omega
    have h1 := this σ.2.2.2 0 (0, 0, 0)
    unfold pfault
    omega
  refine sX9_hearAll_0 hE (c_X9_findFault hc.2.2.2.2.1 (fun μ1 k1 => sX9_hearAll_4 hE _ ?_))
  obtain ⟨hc1, b1⟩ := hc.aR k1
  rw [e_m6, ii_eq (by omega) (by decide), e_m3]
  refine ⟨fun c => ?_, fun c => ?_⟩
  · rw [if_pos c] at hp
    refine c_X9_record hc1.1 hc1.2.1 hc1.2.2.1 (fun μ2 h1 h2 h3 => sX9_hearAll_16 hE ?_)
    intro μ3 e3
    have hpf : prun 0 (σ.2.2.2.drop 0) (0, 0, 0) = (-6, (pfault σ.2.2.2).2) := by
      show pfault σ.2.2.2 = _
      exact Prod.ext c rfl
    generalize (pfault σ.2.2.2).2 = A0 at hp hpf
    generalize hpad : σ.2.2.2 = pad at *
    have e59 : (59 : Int32) = ii 59 := by decide
    -- what stays while marks come
    have fin : ∀ (k : Nat) (h : sH) (μ4 : Nat → Nat → Int32), (hearM σ.1 A0).2 = k → (hearM σ.1 A0).1 = h → MS μ4 h → vH h → (∀ j : Nat, j ≠ 24 → j ≠ 25 → j ≠ 26 → μ4 82 j = μ2 82 j) → (∀ c : Nat, c ≠ 82 → c ≠ 83 → μ4 c = μ2 c) → ∀ μ5 : Nat → Nat → Int32, μ5 = jm_st μ4 82 7 0 → P (some (.int (ii k))) μ5 := by
      intro k h μ4 x1 x2 hS hv a3 a4 μ5 e5
      rw [x1, x2] at hp
      obtain ⟨d1, d2, d3, d4, d5, d6, d7⟩ := hc1
      have kk : ∀ c : Nat, c ≠ 82 → c ≠ 83 → c ≠ 85 → μ5 c = μ1 c := fun c c1 c2 c3 => by rw [e5, jm_st_nc _ _ _ c1, a4 c c1 c2, h3 c c1 c3]
      refine hp μ5 ⟨hS.kept (by rw [e5, jm_st_nc _ _ _ (by decide)]), hv, h1.kept (by rw [e5, jm_st_ni _ _ _ (by decide), a3 3 (by decide) (by decide) (by decide)]) (by rw [e5, jm_st_nc _ _ _ (by decide), a4 85 (by decide) (by decide)]), d4.kept (kk _ (by decide) (by decide) (by decide)) (kk _ (by decide) (by decide) (by decide)), ⟨by rw [e5, jm_st_s]; exact (by decide : (0 : Int32) = ii ((0 : Nat) : Int)), by show 0 ≤ 80; omega, fun k c hk => by simp at hk⟩, d6.kept (kk _ (by decide) (by decide) (by decide)), d7.kept (by rw [e5, jm_st_ni _ _ _ (by decide), a3 10 (by decide) (by decide) (by decide), h2 10 (by decide)]) (kk _ (by decide) (by decide) (by decide))⟩ (fun c cc => by rw [kk c (by omega) (by omega) (by omega)]; exact b1 c cc)
    have key : ∀ (m i k : Nat) (A : List Int) (h : sH) (μ4 : Nat → Nat → Int32), i + m = pad.length → ((i < pad.length ∧ ∃ e0 t0 : Int, prun i (pad.drop i) (0, e0, t0) = (-6, A)) ∨ (i = pad.length ∧ A = [])) → k ≤ 40 + i → (hearM σ.1 A0).2 = k + (hearM h A).2 → (hearM σ.1 A0).1 = (hearM h A).1 → μ4 82 24 = ii i → MS μ4 h → vH h → (∀ j : Nat, j ≠ 24 → j ≠ 25 → j ≠ 26 → μ4 82 j = μ2 82 j) → (∀ c : Nat, c ≠ 82 → c ≠ 83 → μ4 c = μ2 c) → jS g ad m_X9_hearAll κ 25 [some (.ref 82), some (.int (ii k)), some (.int 1)] [] μ4 := by
      intro m
      induction m using Nat.strongRecOn with
      | ind m ih =>
        intro i k A h μ4 hi hA hk40 x1 x2 hat hS hv a3 a4
        have hP4 : MP μ4 pad := by
          have h9 := hc1.2.2.2.2.1
          rw [hpad] at h9
          exact h9.kept (by rw [a3 7 (by decide) (by decide) (by decide), h2 7 (by decide)]) (by rw [a4 88 (by decide) (by decide), h3 88 (by decide) (by decide)])
        refine sX9_hearAll_25 hE _ _ ⟨fun q => absurd q (by decide), fun _ => ?_⟩
        rw [hP4.1, hat, ii_le (by omega) (by omega)]
        rcases hA with ⟨hlt, e0, t0, hpr⟩ | ⟨hl, hA⟩
        · refine ⟨fun q => by omega, fun _ => ?_⟩
          refine c_X9_readsPulse (e0 := e0) (t0 := t0) hP4 hat (by omega) (fun e v j μ5 hij hj e1 e2 v1 v2 hp2 hs hat5 x25 x26 k5 => sX9_hearAll_44 hE _ _ ?_) (fun j μ5 hj hp2 _ _ => ?_)
          · have hP5 := hP4.aR k5
            rw [e59]
            rw [hp2] at hpr
            -- behind the pulse, wherever the reader stands
            have behind : ∀ (r : Int32) (j2 : Nat) (A' : List Int) (μ6 : Nat → Nat → Int32), i < j2 → A = (v * 4 + e) :: A' → ((j2 < pad.length ∧ ∃ e0 t0 : Int, prun j2 (pad.drop j2) (0, e0, t0) = (-6, A')) ∨ (j2 = pad.length ∧ A' = [])) → μ6 82 24 = ii j2 → μ6 82 25 = ii e → μ6 82 26 = ii v → aR μ4 μ6 → jS g ad m_X9_hearAll κ 51 [some (.ref 82), some (.int (ii k)), none] [.int r] μ6 := by
              intro r j2 A' μ6 hij2 hAe hA' y24 y25 y26 k6
              have hS6 : MS μ6 h := hS.kept (k6.2 83 (by decide))
              have eM : hearM h ((v * 4 + e) :: A') = if whyM h (v * 4 + e) = 0 then ((hearM (insH h (v * 4 + e)) A').1, (hearM (insH h (v * 4 + e)) A').2 + 1) else (h, 0) := rfl
              rw [hAe, eM] at x1 x2
              have a36 : ∀ j : Nat, j ≠ 24 → j ≠ 25 → j ≠ 26 → μ6 82 j = μ2 82 j := fun j q1 q2 q3 => by rw [k6.1 j q1 q2 q3]; exact a3 j q1 q2 q3
              have a46 : ∀ c : Nat, c ≠ 82 → c ≠ 83 → μ6 c = μ2 c := fun c q1 q2 => by rw [k6.2 c q1]; exact a4 c q1 q2
              refine sX9_hearAll_51 hE _ _ ?_
              rw [y25, y26]
              refine c_X9_whyNotHeard hS6 hv.2.2.2.2.1 (by omega) (by omega) (fun q => absurd ⟨e1, e2⟩ q) (fun _ q => absurd ⟨v1, v2⟩ q) (fun _ _ => sX9_hearAll_64 hE _ _ ?_)
              have hwr := whyM_rng h (v * 4 + e)
              rw [ii_0, ii_eq (by omega) (by decide)]
              refine ⟨fun q => ⟨fun _ => ?_, fun q2 => absurd (by decide) q2⟩, fun q => ⟨fun q2 => absurd q2 (by decide), fun _ => ?_⟩⟩
              · rw [if_neg q] at x1 x2
                refine sX9_hearAll_25 hE _ _ ⟨fun _ => ?_, fun q2 => absurd (by decide) q2⟩
                exact fin k h μ6 x1 x2 hS6 hv a36 a46
              · rw [if_pos q] at x1 x2
                obtain ⟨hno, hn32⟩ := whyM_0 q hv.2.2.2.1
                rw [y25, y26]
                refine c_X9_comes hS6 hv.2.2.2.2.1 hv.2.2.2.2.2 ⟨e1, e2⟩ ⟨v1, v2⟩ hn32 hno (fun μ7 s7 a7 => sX9_hearAll_89 hE _ _ _ ?_)
                have e5 : ii (k : Int) + 1 = ii ((k + 1 : Nat) : Int) := by rw [ii_1, ii_add]; rfl
                rw [e5]
                have hj2 : j2 ≤ pad.length := by
                  rcases hA' with ⟨q1, -⟩ | ⟨q1, -⟩ <;> omega
                refine ih (pad.length - j2) (by omega) j2 (k + 1) A' (insH h (v * 4 + e)) μ7 (by omega) hA' (by omega) ?_ x2 (by rw [a7 82 (by decide)]; exact y24) s7 (insH_v hv (by omega) hn32 hno) (fun j q1 q2 q3 => by rw [a7 82 (by decide)]; exact a36 j q1 q2 q3) (fun c q1 q2 => by rw [a7 c q2]; exact a46 c q1 q2)
                rw [x1]
                show k + ((hearM (insH h (v * 4 + e)) A').2 + 1) = k + 1 + (hearM (insH h (v * 4 + e)) A').2
                omega
            refine c_X9_isNext hP5 hat5 (by omega) (by decide) (fun μ6 hg hat6 k6 y25 y26 => ?_) (fun μ6 hg hat6 k6 y25 y26 => ?_)
            · have hlt2 : j < pad.length := (List.getElem?_eq_some_iff.mp hg).1
              rw [drop_at hg, prun, pstep3, if_pos rfl] at hpr
              have hp1 : (prun (j + 1) (pad.drop (j + 1)) (0, e, v)).1 = -6 := congrArg (fun q => q.1) hpr
              have hp3 : (v * 4 + e) :: (prun (j + 1) (pad.drop (j + 1)) (0, e, v)).2 = A := congrArg (fun q => q.2) hpr
              refine behind 1 (j + 1) (prun (j + 1) (pad.drop (j + 1)) (0, e, v)).2 μ6 (by omega) hp3.symm (Or.inl ⟨?_, e, v, Prod.ext hp1 rfl⟩) hat6 (by rw [y25]; exact x25) (by rw [y26]; exact x26) (k5.trans k6)
              by_cases q : j + 1 < pad.length
              · exact q
              · exfalso
                rw [List.drop_eq_nil_of_le (by omega)] at hp1
                unfold prun at hp1
                rw [if_neg (show ¬ (0 : Int) = 3 by decide)] at hp1
                have hp1 : ((j + 1 : Nat) : Int) = -6 := hp1
                omega
            · have hjl : j = pad.length := by
                by_cases q : j < pad.length
                · exfalso
                  have hg9 : pad[j]? = some (pad[j]'q) := List.getElem?_eq_getElem q
                  generalize pad[j]'q = c9 at hg9
                  have hno : prun j (pad.drop j) (3, e, v) = ((j : Int), []) := by
                    rw [drop_at hg9]
                    refine prun_no ?_
                    rw [pstep3, if_neg (fun q => hg (by rw [hg9, q])), if_neg]
                    rintro ⟨q1, q2, q3⟩
                    rcases hs with h | h | h
                    · exact q2 h
                    · omega
                    · exact h c9 hg9 q1
                  rw [hno] at hpr
                  have hp1 : (j : Int) = -6 := congrArg (fun q => q.1) hpr
                  omega
                · omega
              rw [hjl, List.drop_eq_nil_of_le (Nat.le_refl _)] at hpr
              have e9 : prun pad.length [] (3, e, v) = (-6, [v * 4 + e]) := by
                unfold prun
                rw [if_pos rfl]
              rw [e9] at hpr
              have hp3 : [v * 4 + e] = A := congrArg (fun q => q.2) hpr
              exact behind 0 j [] μ6 hij hp3.symm (Or.inr ⟨hjl, rfl⟩) hat6 (by rw [y25]; exact x25) (by rw [y26]; exact x26) (k5.trans k6)
          · rw [hp2] at hpr
            have hp1 : (j : Int) = -6 := congrArg (fun q => q.1) hpr
            omega
        · refine ⟨fun _ => ?_, fun q => by omega⟩
          rw [hA] at x1 x2
          exact fin k h μ4 x1 x2 hS hv a3 a4
    refine key pad.length 0 0 A0 σ.1 μ3 (by omega) ?_ (by omega) (by omega) rfl (by rw [e3, jm_st_s]; decide) (hc1.1.kept (by rw [e3, jm_st_nc _ _ _ (by decide), h3 83 (by decide) (by decide)])) hc1.2.1 (fun j q1 q2 q3 => by rw [e3, jm_st_ni _ _ _ q1]) (fun c q1 q2 => by rw [e3, jm_st_nc _ _ _ q1])
    by_cases q : 0 < pad.length
    · exact Or.inl ⟨q, 0, 0, hpf⟩
    · exfalso
      have : pad = [] := List.length_eq_zero_iff.mp (by omega)
      rw [this] at hpf
      have hp1 : (0 : Int) = -6 := congrArg (fun q => q.1) hpf
      omega
  · rw [if_neg c] at hp
    exact hp μ1 hc1 b1
theorem c_X9_put {μ : Nat → Nat → Int32} {σ : sT} {x : Int64} (hc : MI μ σ) (hp : ∀ μ' : Nat → Nat → Int32, MI μ' (opPut σ (bx x)).2 → aA μ μ' → P (some (.int (ii (opPut σ (bx x)).1))) μ') : jD g ad m_X9_put [.ref 82, .long x] μ P := by
  refine jd_intro [some (.ref 82), some (.long x), none, none, none, none, none, none] (by decide) rfl rfl (fun κ hE => ?_)
  unfold opPut at hp
  have hc9 := hc
  obtain ⟨a, b, c, d, cp, f, s⟩ := hc
  obtain ⟨p1, p2, p3⟩ := id cp
  -- the signs come
  have come : ∀ n : Nat, scanB 8 (bx x) 0 = some n → σ.2.2.2.length + n ≤ 80 → ∀ (k : Nat) (pad : List Int) (μ1 : Nat → Nat → Int32), k ≤ n → MP μ1 pad → pad ++ bytesL (bx x) k = σ.2.2.2 ++ bytesL (bx x) n → (∀ j : Nat, j ≠ 7 → μ1 82 j = μ 82 j) → (∀ c : Nat, c ≠ 82 → c ≠ 88 → μ1 c = μ c) → jS g ad m_X9_put κ 105 [some (.ref 82), some (.long x), none, none, none, none, none, some (.int (ii ((k : Int) - 1)))] [] μ1 := by
    intro n hn h80 k
    have hsc := scanB_le hn
    rw [hn] at hp
    have hp : ∀ μ' : Nat → Nat → Int32, MI μ' (if 80 < σ.2.2.2.length + n then ((-4, σ) : Int × sT) else (((σ.2.2.2.length + n : Nat) : Int), (σ.1, σ.2.1, σ.2.2.1, σ.2.2.2 ++ bytesL (bx x) n))).2 → aA μ μ' → P (some (.int (ii (if 80 < σ.2.2.2.length + n then ((-4, σ) : Int × sT) else (((σ.2.2.2.length + n : Nat) : Int), (σ.1, σ.2.1, σ.2.2.1, σ.2.2.2 ++ bytesL (bx x) n))).1))) μ' := hp
    rw [if_neg (by omega)] at hp
    induction k with
    | zero =>
      intro pad μ1 hk hR he a1 a2
      have he : pad = σ.2.2.2 ++ bytesL (bx x) n := by rw [← he]; show pad = pad ++ []; rw [List.append_nil]
      refine sX9_put_105 hE _ _ ⟨fun _ => ?_, fun c => ?_⟩
      · have hl : pad.length = σ.2.2.2.length + n := by rw [he, List.length_append, bytesL_len]
        rw [hR.1, hl]
        refine hp μ1 ⟨a.kept (a2 _ (by decide) (by decide)), b, c.kept (a1 3 (by decide)) (a2 _ (by decide) (by decide)), d.kept (a2 _ (by decide) (by decide)) (a2 _ (by decide) (by decide)), ?_, f.kept (a2 _ (by decide) (by decide)), s.kept (a1 10 (by decide)) (a2 _ (by decide) (by decide))⟩ (fun c cc => a2 c (by omega) (by omega))
        show MP μ1 (σ.2.2.2 ++ bytesL (bx x) n)
        rw [← he]
        exact hR
      · exact absurd (by decide) c
    | succ k ih =>
      intro pad μ1 hk hR he a1 a2
      have e0 : ((k + 1 : Nat) : Int) - 1 = (k : Int) := by omega
      have hbr := hsc.2.2.2 k (by omega)
      rw [e0]
      have hpl : pad.length < 80 := by
        have h9 := congrArg List.length he
        rw [List.length_append, List.length_append, bytesL_len, bytesL_len] at h9
        omega
      obtain ⟨r1, r2, r3⟩ := id hR
      refine sX9_put_105 hE _ _ ⟨fun c => ?_, fun _ => ?_⟩
      · simp (disch := omega) only [ii_lit, ii_neg, ii_add, ii_sub, ii_mul, ii_lt, ii_le, ii_eq] at c
        omega
      · rw [r1]
        refine ⟨ii_in (by omega) (by omega) (by omega), ?_⟩
        intro μ2 e2 μ3 e3
        rw [bx_low, bx_sk x (by omega), by_i _ (Nat.mod_lt _ (by decide)), ii_natN (by omega)] at e2
        have x7 : μ2 82 7 = ii pad.length := by rw [e2, jm_st_nc _ _ _ (by decide)]; exact r1
        rw [x7] at e3
        have hll : (pad ++ [((bx x / 256 ^ k % 256 : Nat) : Int)]).length = pad.length + 1 := by simp
        rw [e_m1, ii_add, show (k : Int) + (-1) = (k : Int) - 1 by omega]
        refine ih (pad ++ [((bx x / 256 ^ k % 256 : Nat) : Int)]) μ3 (by omega) ⟨?_, by omega, fun i d hi => ?_⟩ ?_ (fun j jj => by rw [e3, jm_st_ni _ _ _ jj, e2, jm_st_nc _ _ _ (by decide)]; exact a1 j jj) (fun c c1 c2 => by rw [e3, jm_st_nc _ _ _ c1, e2, jm_st_nc _ _ _ c2]; exact a2 c c1 c2)
        · rw [e3, jm_st_s, hll]
          simp (disch := omega) only [ii_lit, ii_neg, ii_add, ii_sub, ii_mul, ii_lt, ii_le, ii_eq]
          rfl
        · rw [e3, jm_st_nc _ _ _ (by decide), e2]
          by_cases hk2 : i < pad.length
          · rw [List.getElem?_append_left hk2] at hi
            rw [jm_st_ni _ _ _ (by omega)]
            exact r3 i d hi
          · rw [List.getElem?_append_right (by omega)] at hi
            have hz : i - pad.length < 1 := (List.getElem?_eq_some_iff.mp hi).1
            rw [show i - pad.length = 0 by omega] at hi
            have hv : ((bx x / 256 ^ k % 256 : Nat) : Int) = d := by simpa using hi
            subst hv
            rw [show i = pad.length by omega, jm_st_s]
            exact ⟨rfl, by omega, by omega⟩
        · rw [← he, List.append_assoc]
          rfl
  have bad : scanB 8 (bx x) 0 = none → P (some (.int (-2))) μ := by
    intro hs
    rw [hs] at hp
    rw [e_m2]
    exact hp μ hc9 (fun _ _ => rfl)
  -- behind the walk over the bytes
  have done : ∀ (n : Nat) (y : Int64) (w : Int32), ((w = 1 ∧ scanB 8 (bx x) 0 = (if bx y = 0 ∧ n ≠ 0 then some n else none)) ∨ (w = 0 ∧ scanB 8 (bx x) 0 = none)) → n ≤ 8 → ((ii (n : Int) = 0 → P (some (.int (-2 : Int32))) μ) ∧ (¬ ii (n : Int) = 0 → ((w = 0 → P (some (.int (-2 : Int32))) μ) ∧ (¬ w = 0 → ((lg_cmp y (0 : Int64) = 0 → ((μ 82 7 + ii (n : Int) ≤ 80 → jS g ad m_X9_put κ 105 [some (.ref 82), some (.long x), none, none, none, none, none, some (.int (ii (n : Int) - 1))] [] μ) ∧ (¬ μ 82 7 + ii (n : Int) ≤ 80 → P (some (.int (-4 : Int32))) μ))) ∧ (¬ lg_cmp y (0 : Int64) = 0 → P (some (.int (-2 : Int32))) μ)))))) := by
    intro n y w hs hn
    have z0 : ii (n : Int) = 0 ↔ (n : Int) = 0 := by
      rw [ii_0]
      exact ii_eq (by omega) (by omega)
    rw [bx_z, z0]
    rcases hs with ⟨hw, hs⟩ | ⟨hw, hs⟩
    · subst hw
      refine ⟨fun c => ?_, fun c => ⟨fun q => absurd q (by decide), fun _ => ⟨fun c2 => ?_, fun c2 => ?_⟩⟩⟩
      · rw [if_neg (by omega)] at hs
        exact bad hs
      · rw [if_pos (by omega)] at hs
        rw [p1, ii_add, ii_lit 80, ii_le (by omega) (by decide), ii_1, ii_sub, e_m4]
        refine ⟨fun c3 => ?_, fun c3 => ?_⟩
        · have c3 : (σ.2.2.2.length : Int) + (n : Int) ≤ 80 := c3
          exact come n hs (by omega) n σ.2.2.2 μ (Nat.le_refl _) cp rfl (fun _ _ => rfl) (fun _ _ _ => rfl)
        · have c3 : ¬ (σ.2.2.2.length : Int) + (n : Int) ≤ 80 := c3
          rw [hs] at hp
          have hp : ∀ μ' : Nat → Nat → Int32, MI μ' (if 80 < σ.2.2.2.length + n then ((-4, σ) : Int × sT) else (((σ.2.2.2.length + n : Nat) : Int), (σ.1, σ.2.1, σ.2.2.1, σ.2.2.2 ++ bytesL (bx x) n))).2 → aA μ μ' → P (some (.int (ii (if 80 < σ.2.2.2.length + n then ((-4, σ) : Int × sT) else (((σ.2.2.2.length + n : Nat) : Int), (σ.1, σ.2.1, σ.2.2.1, σ.2.2.2 ++ bytesL (bx x) n))).1))) μ' := hp
          rw [if_pos (by omega)] at hp
          have h9 := hp μ hc9 (fun _ _ => rfl)
          first | exact h9 | (rw [ii_neg]; exact h9)
      · rw [if_neg (by omega)] at hs
        exact bad hs
    · subst hw
      exact ⟨fun _ => bad hs, fun _ => ⟨fun _ => bad hs, fun q => absurd rfl q⟩⟩
  have walk : ∀ (k n : Nat) (y : Int64) (w : Int32), n + k = 8 → ((w = 1 ∧ scanB 8 (bx x) 0 = scanB k (bx y) n) ∨ (w = 0 ∧ scanB 8 (bx x) 0 = none)) → jS g ad m_X9_put κ 8 [some (.ref 82), some (.long x), none, some (.int (ii (n : Int))), some (.long y), none, some (.int w), none] [] μ := by
    intro k
    induction k with
    | zero =>
      intro n y w hn hs
      refine sX9_put_8 hE _ _ _ _ ⟨fun _ => done n y w hs (by omega), fun c => ?_⟩
      rw [ii_lit 8, ii_le (by decide) (by omega)] at c
      have c : ¬ (8 : Int) ≤ (n : Int) := c
      omega
    | succ k ih =>
      intro n y w hn hs
      have hlt : bx y % 256 < 256 := Nat.mod_lt _ (by decide)
      have eS : scanB (k + 1) (bx y) n = if bx y % 256 = 0 then (if bx y = 0 ∧ n ≠ 0 then some n else none) else if 33 ≤ bx y % 256 ∧ bx y % 256 ≤ 126 then scanB k (bx y / 256) (n + 1) else none := rfl
      rw [eS] at hs
      have e5 : ii (n : Int) + 1 = ii ((n + 1 : Nat) : Int) := by simp (disch := omega) only [ii_lit, ii_neg, ii_add, ii_sub, ii_mul, ii_lt, ii_le, ii_eq]; rfl
      refine sX9_put_8 hE _ _ _ _ ⟨fun c => ?_, fun _ => ?_⟩
      · rw [ii_lit 8, ii_le (by decide) (by omega)] at c
        have c : (8 : Int) ≤ (n : Int) := c
        omega
      · rw [bx_low, by_z _ hlt, by_i _ hlt, e5]
        refine ⟨fun c => ?_, fun c => ⟨fun c2 => ?_, fun c2 => ?_⟩⟩
        · rw [if_pos c] at hs
          exact done n y w hs (by omega)
        · rcases hs with ⟨hw, hs⟩ | ⟨hw, hs⟩
          · rw [hw] at c2
            exact absurd c2 (by decide)
          · exact ih (n + 1) _ 0 (by omega) (Or.inr ⟨rfl, hs⟩)
        · rcases hs with ⟨hw, hs⟩ | ⟨hw, hs⟩
          · rw [if_neg c] at hs
            have e33 : (33 : Int32) = ii 33 := by decide
            have e126 : (126 : Int32) = ii 126 := by decide
            rw [e33, e126]
            refine c_X9_within (by omega) (by decide) (by decide) (fun d1 d2 => sX9_put_44 hE _ _ _ _ ⟨fun q => absurd q (by decide), fun _ => ?_⟩) (fun d => sX9_put_44 hE _ _ _ _ ⟨fun _ => ?_, fun q => absurd rfl q⟩)
            · rw [if_pos (by omega), ← bx_s8] at hs
              rw [e5]
              exact ih (n + 1) _ 1 (by omega) (Or.inl ⟨rfl, hs⟩)
            · rw [if_neg (by omega)] at hs
              rw [e5]
              exact ih (n + 1) _ 0 (by omega) (Or.inr ⟨rfl, hs⟩)
          · exact absurd hw c2
  refine sX9_put_0 hE _ ?_
  exact walk 8 0 x 1 rfl (Or.inl ⟨rfl, rfl⟩)
end JMD
