section JTX
variable {g : jm_G} {ad : Nat → Nat} {P : Option Value → (Nat → Nat → Int32) → Prop}
theorem c_X8_hearAll {μ : Nat → Nat → Int32} {σ : sT} (hc : CI μ σ) (hp : ∀ μ' : Nat → Nat → Int32, CI μ' (opHearAll σ).2 → aB μ μ' → P (some (.int (ii (opHearAll σ).1))) μ') : jD g ad m_X8_hearAll [.ref 0] μ P := by
  refine jd_intro [some (.ref 0), none] (by decide) rfl rfl (fun κ hE => ?_)
  unfold opHearAll at hp
  refine sX8_hearAll_0 hE (c_X5_read hc.2.2.2.2.1 (fun μ1 p1 m1 k1 => sX8_hearAll_7 hE _ ?_))
  have hc1 := hc.pad p1 k1
  have hfr : -6 ≤ (pfault σ.2.2.2).1 ∧ (pfault σ.2.2.2).1 ≤ 80 := by
    have h80 := hc.2.2.2.2.1.2.1
    have : ∀ (cs : List Int) (i : Nat) (s : Int × Int × Int), -6 ≤ (prun i cs s).1 ∧ (prun i cs s).1 ≤ i + cs.length := by
      intro cs
      induction cs with
      | nil =>
        intro i s
        unfold prun
        split
        · show -6 ≤ (-6 : Int) ∧ (-6 : Int) ≤ (i : Int) + ((0 : Nat) : Int)
          omega
        · show -6 ≤ (i : Int) ∧ (i : Int) ≤ (i : Int) + ((0 : Nat) : Int)
          omega
      | cons c cs ih =>
        intro i s
        rw [prun]
        cases pstep s c with
        | none =>
          show -6 ≤ (i : Int) ∧ (i : Int) ≤ (i : Int) + ((cs.length + 1 : Nat) : Int)
          omega
        | some q =>
          obtain ⟨s', out⟩ := q
          have h1 := ih (i + 1) s'
          show -6 ≤ (prun (i + 1) cs s').1 ∧ (prun (i + 1) cs s').1 ≤ (i : Int) + ((cs.length + 1 : Nat) : Int)
          omega
    have h1 := this σ.2.2.2 0 (0, 0, 0)
    unfold pfault
    omega
  refine ⟨fun c => ?_, fun c => ?_⟩
  · rw [e_m6, ii_eq (by omega) (by omega)] at c
    rw [if_pos c] at hp
    have m1 := m1 c
    generalize (pfault σ.2.2.2).2 = A at m1 hp
    obtain ⟨b1, b2, b3⟩ := m1
    refine c_X8_beginChange hc1.1 hc1.2.1 hc1.2.2.1 (fun μ2 h1 h2 h3 => sX8_hearAll_19 hE ?_)
    have fin : ∀ (k : Nat) (h : sH) (μ3 : Nat → Nat → Int32), (hearM σ.1 A).2 = k → (hearM σ.1 A).1 = h → HR μ3 1 h → vH h → (∀ c : Nat, ¬ (1 ≤ c ∧ c ≤ 3) → μ3 c = μ2 c) → ∀ μ4 : Nat → Nat → Int32, μ4 = jm_st μ3 26 2 0 → P (some (.int (ii k))) μ4 := by
      intro k h μ3 e1 e2 hR hv a3 μ4 e4
      rw [e1, e2] at hp
      have a4 : ∀ c : Nat, ¬ (1 ≤ c ∧ c ≤ 3) → c ≠ 26 → μ4 c = μ2 c := fun c c1 c2 => by rw [e4, jm_st_nc _ _ _ c2]; exact a3 c c1
      have a5 : ∀ c : Nat, 24 ≤ c → c ≠ 26 → μ4 c = μ1 c := fun c c1 c2 => by rw [a4 c (by omega) c2, h3 c (by omega) (by omega)]
      obtain ⟨d1, d2, d3, d4, d5, d6, d7⟩ := hc1
      refine hp μ4 ⟨hR.kept (by rw [e4, jm_st_nc _ _ _ (by decide)]) (by rw [e4, jm_st_nc _ _ _ (by decide)]) (by rw [e4, jm_st_nc _ _ _ (by decide)]), hv, h1.kept (fun c c1 c2 => a4 c (by omega) (by omega)), d4.kept (a5 _ (by decide) (by decide)) (fun c c1 c2 => a5 c (by omega) (by omega)), ⟨by rw [e4, jm_st_s]; exact (by decide : (0 : Int32) = ii ((0 : Nat) : Int)), by show 0 ≤ 80; omega, fun k c hk => by simp at hk⟩, d6.kept (a5 _ (by decide) (by decide)) (a5 _ (by decide) (by decide)) (a5 _ (by decide) (by decide)), Or.inl (by rw [a4 0 (by omega) (by decide)]; exact h2)⟩ (fun c cc => by rw [a5 c (by omega) (by omega)]; exact k1 c (by omega) (by omega))
    have key : ∀ (ms : List Int) (k : Nat) (h : sH) (μ3 : Nat → Nat → Int32), A.drop k = ms → k ≤ A.length → (hearM σ.1 A).2 = k + (hearM h ms).2 → (hearM σ.1 A).1 = (hearM h ms).1 → HR μ3 1 h → vH h → (∀ c : Nat, ¬ (1 ≤ c ∧ c ≤ 3) → μ3 c = μ2 c) → jS g ad m_X8_hearAll κ 21 [some (.ref 0), some (.int (ii k))] [] μ3 := by
      intro ms
      induction ms with
      | nil =>
        intro k h μ3 hd hk e1 e2 hR hv a3
        have hkl : k = A.length := by
          have h9 := congrArg List.length hd
          rw [List.length_drop] at h9
          have h8 : A.length - k = 0 := h9
          omega
        refine sX8_hearAll_21 hE _ ⟨fun _ => fin k h μ3 e1 e2 hR hv a3, fun c => ?_⟩
        rw [a3 26 (by omega), h3 26 (by omega) (by omega), b1] at c
        simp (disch := omega) only [ii_lit, ii_neg, ii_add, ii_sub, ii_mul, ii_lt, ii_le, ii_eq] at c
        omega
      | cons m ms ih =>
        intro k h μ3 hd hk e1 e2 hR hv a3
        have hkl : k < A.length := by
          have h9 := congrArg List.length hd
          rw [List.length_drop] at h9
          have h8 : A.length - k = ms.length + 1 := h9
          omega
        have hget : A[k]? = some m := by
          have h9 : (A.drop k)[0]? = some m := by rw [hd]; rfl
          rw [List.getElem?_drop] at h9
          exact h9
        have hd2 : A.drop (k + 1) = ms := by
          rw [← List.drop_drop, hd]
          rfl
        obtain ⟨w1, w2, w3⟩ := b3 k m hget
        have x28 : μ3 28 k = ii m := by rw [a3 28 (by omega), h3 28 (by omega) (by omega)]; exact w1
        have e5 : ii (k : Int) + 1 = ii ((k + 1 : Nat) : Int) := by simp (disch := omega) only [ii_lit, ii_neg, ii_add, ii_sub, ii_mul, ii_lt, ii_le, ii_eq]; rfl
        have eM : hearM h (m :: ms) = if whyM h m = 0 then ((hearM (insH h m) ms).1, (hearM (insH h m) ms).2 + 1) else (h, 0) := rfl
        rw [eM] at e1 e2
        refine sX8_hearAll_21 hE _ ⟨fun c => ?_, fun _ => ⟨ii_in (by omega) (by omega) (by omega), ?_⟩⟩
        · rw [a3 26 (by omega), h3 26 (by omega) (by omega), b1] at c
          simp (disch := omega) only [ii_lit, ii_neg, ii_add, ii_sub, ii_mul, ii_lt, ii_le, ii_eq] at c
          omega
        · rw [ii_natN (by omega), x28]
          unfold whyM at e1 e2
          refine c_X3_refusalOf jm_heard1 hR.2 hv.2.2.2.2.1 hv.2.2.2.2.2 (by omega) (fun h9 => sX8_hearAll_48 hE _ _ ⟨fun _ => ?_, fun q => absurd q (by decide)⟩) (fun h9 h8 => sX8_hearAll_48 hE _ _ ⟨fun _ => ?_, fun q => absurd q (by decide)⟩) (fun h9 h8 => sX8_hearAll_48 hE _ _ ⟨fun q => absurd (by decide) q, fun _ => ⟨ii_in (by omega) (by omega) (by omega), ?_⟩⟩)
          · rw [if_pos (hasB_iff.mpr h9), if_neg (by decide)] at e1 e2
            exact fin k h μ3 e1 e2 hR hv a3
          · rw [if_neg (fun q => h9 (hasB_iff.mp q)), if_pos h8, if_neg (by decide)] at e1 e2
            exact fin k h μ3 e1 e2 hR hv a3
          · rw [if_neg (fun q => h9 (hasB_iff.mp q)), if_neg (show ¬ h.2.1 = 32 by omega), if_pos rfl] at e1 e2
            rw [ii_natN (by omega), x28]
            refine c_X3_add jm_heard1 hR.2 hv.2.2.2.2.1 hv.2.2.2.2.2 ⟨w2, w3⟩ h8 (fun p μ4 hpl hF4 a4 => sX8_hearAll_67 hE _ _ ?_)
            have epl := hpl.uniq (plc_is hv.2.2.2.2.2)
            subst epl
            rw [e5]
            refine ih (k + 1) (insH h m) μ4 hd2 (by omega) ?_ e2 ⟨fun i hi => by rw [a4 (1 + 1) (by decide) (by decide)]; exact hR.1 i hi, hF4⟩ (insH_v hv ⟨w2, w3⟩ h8 h9) (fun c cc => by rw [a4 c (by omega) (by omega)]; exact a3 c cc)
            rw [e1]
            show k + ((hearM (insH h m) ms).2 + 1) = k + 1 + (hearM (insH h m) ms).2
            omega
    exact key A 0 σ.1 μ2 rfl (by omega) (by omega) rfl (hc1.1.old h3) hc1.2.1 (fun _ _ => rfl)
  · rw [e_m6, ii_eq (by omega) (by omega)] at c
    rw [if_neg c] at hp
    rw [e_m3]
    exact hp μ1 hc1 (fun c cc => k1 c (by omega) (by omega))
theorem c_X8_put {μ : Nat → Nat → Int32} {σ : sT} {x : Int64} (hc : CI μ σ) (hp : ∀ μ' : Nat → Nat → Int32, CI μ' (opPut σ (bx x)).2 → aB μ μ' → P (some (.int (ii (opPut σ (bx x)).1))) μ') : jD g ad m_X8_put [.ref 0, .long x] μ P := by
  refine jd_intro [some (.ref 0), some (.long x), none, none, none, none, none, none] (by decide) rfl rfl (fun κ hE => ?_)
  unfold opPut at hp
  have hc9 := hc
  obtain ⟨cR, cv, cH, cs, cp, cF, cS⟩ := hc
  obtain ⟨p1, p2, p3⟩ := id cp
  -- the signs come
  have come : ∀ n : Nat, scanB 8 (bx x) 0 = some n → σ.2.2.2.length + n ≤ 80 → ∀ (k : Nat) (pad : List Int) (μ1 : Nat → Nat → Int32), k ≤ n → pdR μ1 pad → pad ++ bytesL (bx x) k = σ.2.2.2 ++ bytesL (bx x) n → (∀ c : Nat, c ≠ 26 → c ≠ 27 → μ1 c = μ c) → jS g ad m_X8_put κ 100 [some (.ref 0), some (.long x), none, none, none, none, some (.int (ii ((k : Int) - 1))), none] [] μ1 := by
    intro n hn h80 k
    have hsc := scanB_le hn
    rw [hn] at hp
    have hp : ∀ μ' : Nat → Nat → Int32, CI μ' (if 80 < σ.2.2.2.length + n then ((-4, σ) : Int × sT) else (((σ.2.2.2.length + n : Nat) : Int), (σ.1, σ.2.1, σ.2.2.1, σ.2.2.2 ++ bytesL (bx x) n))).2 → aB μ μ' → P (some (.int (ii (if 80 < σ.2.2.2.length + n then ((-4, σ) : Int × sT) else (((σ.2.2.2.length + n : Nat) : Int), (σ.1, σ.2.1, σ.2.2.1, σ.2.2.2 ++ bytesL (bx x) n))).1))) μ' := hp
    rw [if_neg (by omega)] at hp
    induction k with
    | zero =>
      intro pad μ1 hk hR he a1
      have he : pad = σ.2.2.2 ++ bytesL (bx x) n := by rw [← he]; show pad = pad ++ []; rw [List.append_nil]
      refine sX8_put_100 hE _ _ ⟨fun _ => ?_, fun c => ?_⟩
      · have hl : pad.length = σ.2.2.2.length + n := by rw [he, List.length_append, bytesL_len]
        rw [hR.1, hl]
        refine hp μ1 ⟨cR.kept (a1 _ (by decide) (by decide)) (a1 _ (by decide) (by decide)) (a1 _ (by decide) (by decide)), cv, cH.kept (fun k _ h2 => a1 k (by omega) (by omega)), cs.kept (a1 _ (by decide) (by decide)) (fun k h1 h2 => a1 k (by omega) (by omega)), ?_, cF.kept (a1 _ (by decide) (by decide)) (a1 _ (by decide) (by decide)) (a1 _ (by decide) (by decide)), cS.kept (a1 _ (by decide) (by decide)) (fun k h1 h2 => a1 k (by omega) (by omega))⟩ (fun c cc => a1 c (by omega) (by omega))
        show pdR μ1 (σ.2.2.2 ++ bytesL (bx x) n)
        rw [← he]
        exact hR
      · exact absurd (by decide) c
    | succ k ih =>
      intro pad μ1 hk hR he a1
      have e0 : ((k + 1 : Nat) : Int) - 1 = (k : Int) := by omega
      have hbr := hsc.2.2.2 k (by omega)
      rw [e0]
      refine sX8_put_100 hE _ _ ⟨fun c => ?_, fun _ => ?_⟩
      · simp (disch := omega) only [ii_lit, ii_neg, ii_add, ii_sub, ii_mul, ii_lt, ii_le, ii_eq] at c
        omega
      · rw [bx_low, bx_sk x (by omega), by_c _ (Nat.mod_lt _ (by decide))]
        have hpl : pad.length < 80 := by
          have h9 := congrArg List.length he
          rw [List.length_append, List.length_append, bytesL_len, bytesL_len] at h9
          omega
        refine c_X5_append hR hpl hbr (fun μ2 r2 a2 => sX8_put_125 hE _ _ ?_)
        rw [e_m1, ii_add, show (k : Int) + (-1) = (k : Int) - 1 by omega]
        refine ih (pad ++ [((bx x / 256 ^ k % 256 : Nat) : Int)]) μ2 (by omega) r2 ?_ (fun c c1 c2 => by rw [a2 c c1 c2]; exact a1 c c1 c2)
        rw [← he, List.append_assoc]
        rfl
  -- behind the walk over the bytes
  have done : ∀ (n : Nat) (y : Int64), scanB 8 (bx x) 0 = (if bx y = 0 ∧ n ≠ 0 then some n else none) → n ≤ 8 → ((ii (n : Int) = 0 → P (some (.int (-2 : Int32))) μ) ∧ (¬ ii (n : Int) = 0 → ((lg_cmp y (0 : Int64) = 0 → ((μ 26 2 + ii (n : Int) ≤ 80 → jS g ad m_X8_put κ 100 [some (.ref 0), some (.long x), none, none, none, none, some (.int (ii (n : Int) - 1)), none] [] μ) ∧ (¬ μ 26 2 + ii (n : Int) ≤ 80 → P (some (.int (-4 : Int32))) μ))) ∧ (¬ lg_cmp y (0 : Int64) = 0 → P (some (.int (-2 : Int32))) μ)))) := by
    intro n y hs hn
    rw [bx_z, ii_0, ii_eq (by omega) (by omega), e_m2, e_m4, p1, ii_add, ii_lit 80, ii_le (by omega) (by decide), ii_1, ii_sub]
    refine ⟨fun c => ?_, fun c => ⟨fun c2 => ⟨fun c3 => ?_, fun c3 => ?_⟩, fun c2 => ?_⟩⟩
    · rw [if_neg (by omega)] at hs
      rw [hs] at hp
      exact hp μ hc9 (fun _ _ => rfl)
    · rw [if_pos (by omega)] at hs
      have c3 : (σ.2.2.2.length : Int) + (n : Int) ≤ 80 := c3
      exact come n hs (by omega) n σ.2.2.2 μ (Nat.le_refl _) cp rfl (fun _ _ _ => rfl)
    · rw [if_pos (by omega)] at hs
      have c3 : ¬ (σ.2.2.2.length : Int) + (n : Int) ≤ 80 := c3
      rw [hs] at hp
      have hp : ∀ μ' : Nat → Nat → Int32, CI μ' (if 80 < σ.2.2.2.length + n then ((-4, σ) : Int × sT) else (((σ.2.2.2.length + n : Nat) : Int), (σ.1, σ.2.1, σ.2.2.1, σ.2.2.2 ++ bytesL (bx x) n))).2 → aB μ μ' → P (some (.int (ii (if 80 < σ.2.2.2.length + n then ((-4, σ) : Int × sT) else (((σ.2.2.2.length + n : Nat) : Int), (σ.1, σ.2.1, σ.2.2.1, σ.2.2.2 ++ bytesL (bx x) n))).1))) μ' := hp
      rw [if_pos (by omega)] at hp
      exact hp μ hc9 (fun _ _ => rfl)
    · rw [if_neg (by omega)] at hs
      rw [hs] at hp
      exact hp μ hc9 (fun _ _ => rfl)
  have bad : scanB 8 (bx x) 0 = none → P (some (.int (-2))) μ := by
    intro hs
    rw [hs] at hp
    rw [e_m2]
    exact hp μ hc9 (fun _ _ => rfl)
  have walk : ∀ (k n : Nat) (y : Int64), n + k = 8 → scanB 8 (bx x) 0 = scanB k (bx y) n → jS g ad m_X8_put κ 5 [some (.ref 0), some (.long x), none, some (.int (ii (n : Int))), some (.long y), none, none, none] [] μ := by
    intro k
    induction k with
    | zero =>
      intro n y hn hs
      refine sX8_put_5 hE _ _ _ ⟨fun _ => done n y hs (by omega), fun c => ?_⟩
      rw [ii_lit 8, ii_le (by decide) (by omega)] at c
      have c : ¬ (8 : Int) ≤ (n : Int) := c
      omega
    | succ k ih =>
      intro n y hn hs
      have hlt : bx y % 256 < 256 := Nat.mod_lt _ (by decide)
      have eS : scanB (k + 1) (bx y) n = if bx y % 256 = 0 then (if bx y = 0 ∧ n ≠ 0 then some n else none) else if 33 ≤ bx y % 256 ∧ bx y % 256 ≤ 126 then scanB k (bx y / 256) (n + 1) else none := rfl
      rw [eS] at hs
      refine sX8_put_5 hE _ _ _ ⟨fun c => ?_, fun _ => ?_⟩
      · rw [ii_lit 8, ii_le (by decide) (by omega)] at c
        have c : (8 : Int) ≤ (n : Int) := c
        omega
      · rw [bx_low, by_z _ hlt, by_33 _ hlt, by_126 _ hlt]
        refine ⟨fun c => ?_, fun c => ⟨fun c2 => ?_, fun c2 => ⟨fun c3 => ?_, fun c3 => ?_⟩⟩⟩
        · rw [if_pos c] at hs
          exact done n y hs (by omega)
        · rw [if_neg c, if_neg (by omega)] at hs
          exact bad hs
        · rw [if_neg c, if_pos (by omega), ← bx_s8] at hs
          have e5 : ii (n : Int) + 1 = ii ((n + 1 : Nat) : Int) := by simp (disch := omega) only [ii_lit, ii_neg, ii_add, ii_sub, ii_mul, ii_lt, ii_le, ii_eq]; rfl
          rw [e5]
          exact ih (n + 1) _ (by omega) hs
        · rw [if_neg c, if_neg (by omega)] at hs
          exact bad hs
  refine sX8_put_0 hE _ ?_
  exact walk 8 0 x rfl rfl
end JTX
