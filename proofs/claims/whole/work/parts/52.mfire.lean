section JM5
variable {g : jm_G} {ad : Nat → Nat} {P : Option Value → (Nat → Nat → Int32) → Prop}
theorem c_X9_fire {μ : Nat → Nat → Int32} {σ : sT} {x y t : Int} (hc : MI μ σ) (hx : ir x) (hy : ir y) (ht : ir t) (hp : ∀ μ' : Nat → Nat → Int32, MI μ' (opFire σ x y t).2 → aA μ μ' → P (some (.int (ii (opFire σ x y t).1))) μ') : jD g ad m_X9_fire [.ref 82, .int (ii x), .int (ii y), .int (ii t)] μ P := by
  refine jd_intro [some (.ref 82), some (.int (ii x)), some (.int (ii y)), some (.int (ii t)), none, none, none] (by decide) rfl rfl (fun κ hE => ?_)
  unfold opFire at hp
  have hc9 := hc
  obtain ⟨cS, cv, cH, -, -, cD, -⟩ := hc
  have hsp := spd_rng cv.1.1 cv.1.2
  refine sX9_fire_0 hE _ _ _ (c_X9_isPoint hx hy (fun x1 x2 y1 y2 => sX9_fire_5 hE _ _ _ _ ⟨fun _ => ?_, fun c => absurd c (by decide)⟩) (fun c => sX9_fire_5 hE _ _ _ _ ⟨fun c2 => absurd rfl c2, fun _ => ?_⟩))
  · have e9 : (90000 : Int32) = ii 90000 := by decide
    rw [ii_0, e9]
    refine c_X9_within ht (by decide) (by decide) (fun t1 t2 => sX9_fire_17 hE _ _ _ _ ⟨fun _ => ?_, fun q => absurd q (by decide)⟩) (fun c => sX9_fire_17 hE _ _ _ _ ⟨fun q => absurd rfl q, fun _ => ?_⟩)
    · rw [if_neg (by omega), if_neg (by omega)] at hp
      rw [cS.1 0 (by omega)]
      refine c_X9_speedBy cv.1 (sX9_fire_32 hE _ _ _ _ ?_)
      have hmr := fun e (he : e < 4) => fireM_rng (x := x) (y := y) (t := t) cv ⟨x1, x2⟩ ⟨y1, y2⟩ (by omega) he
      have htk : ∀ e : Nat, 0 ≤ tk (spd (σ.1.1 0)) e x y ∧ tk (spd (σ.1.1 0)) e x y ≤ 1807 := fun e => tk_rng hsp.1 ⟨x1, x2⟩ ⟨y1, y2⟩
      have yes : anyF σ.1 x y t 4 = true → ∀ (m e : Nat), e + m = 4 → jS g ad m_X9_fire κ 40 [some (.ref 82), some (.int (ii x)), some (.int (ii y)), some (.int (ii t)), some (.int (ii (spd (σ.1.1 0)))), some (.int 1), some (.int (ii e))] [] μ := by
        intro hany m
        rw [if_pos hany] at hp
        induction m with
        | zero =>
          intro e he
          refine sX9_fire_40 hE _ _ _ _ _ _ ⟨fun _ => ⟨fun _ => ⟨fun q => absurd q (by decide), fun _ => ?_⟩, fun q => absurd q (by decide)⟩, fun c => ?_⟩
          · rw [e_m5]
            exact hp μ hc9 (fun _ _ => rfl)
          · simp (disch := omega) only [ii_lit, ii_neg, ii_add, ii_sub, ii_mul, ii_lt, ii_le, ii_eq] at c
            omega
        | succ m ih =>
          intro e he
          have e5 : ii (e : Int) + 1 = ii ((e + 1 : Nat) : Int) := by simp (disch := omega) only [ii_lit, ii_neg, ii_add, ii_sub, ii_mul, ii_lt, ii_le, ii_eq]; rfl
          refine sX9_fire_40 hE _ _ _ _ _ _ ⟨fun c => ?_, fun _ => ⟨fun _ => ?_, fun q => absurd q (by decide)⟩⟩
          · simp (disch := omega) only [ii_lit, ii_neg, ii_add, ii_sub, ii_mul, ii_lt, ii_le, ii_eq] at c
            omega
          · rw [e5]
            exact ih (e + 1) (by omega)
      have scan : ∀ (m e : Nat), e + m = 4 → (∀ e' : Nat, e' < e → ¬ hasF σ.1.2.1 σ.1.2.2 (fireM σ.1 x y t e')) → jS g ad m_X9_fire κ 40 [some (.ref 82), some (.int (ii x)), some (.int (ii y)), some (.int (ii t)), some (.int (ii (spd (σ.1.1 0)))), some (.int 0), some (.int (ii e))] [] μ := by
        intro m
        induction m with
        | zero =>
          intro e he hno
          have e4 : e = 4 := by omega
          subst e4
          have hany : ¬ anyF σ.1 x y t 4 = true := by
            rw [anyF_iff]
            rintro ⟨e', h1, h2⟩
            exact hno e' h1 h2
          rw [if_neg hany] at hp
          have hn9 := cv.2.2.2.1
          refine sX9_fire_40 hE _ _ _ _ _ _ ⟨fun _ => ⟨fun q => absurd rfl q, fun _ => ?_⟩, fun c => absurd (by decide) c⟩
          rw [cS.2.1, ii_4, ii_add, ii_lit 32, ii_le (by omega) (by decide)]
          refine ⟨fun c => ?_, fun c => ⟨fun _ => ?_, fun q => absurd rfl q⟩⟩
          · have c : (σ.1.2.1 : Int) + 4 ≤ 32 := c
            rw [if_neg (by omega)] at hp
            have hok := fireH_ok cv ⟨x1, x2⟩ ⟨y1, y2⟩ ⟨by omega, by omega⟩ (by omega) hno
            refine c_X9_record cS cv cH (fun μ2 h1 h2 h3 => sX9_fire_120 hE _ _ _ _ ?_)
            have come : ∀ (m e : Nat) (μ3 : Nat → Nat → Int32), e + m = 4 → MS μ3 (fireH σ.1 x y t e) → (∀ c : Nat, c ≠ 83 → μ3 c = μ2 c) → jS g ad m_X9_fire κ 123 [some (.ref 82), some (.int (ii x)), some (.int (ii y)), some (.int (ii t)), some (.int (ii (spd (σ.1.1 0)))), none, some (.int (ii e))] [] μ3 := by
              intro m
              induction m with
              | zero =>
                intro e μ3 he hR a3
                have e4 : e = 4 := by omega
                subst e4
                obtain ⟨w1, w2, w3, w4⟩ := hok 4 (by omega)
                obtain ⟨k1, k2⟩ := hc9.chg h1 h2 h3 hR w1 a3
                refine sX9_fire_123 hE _ _ _ _ _ ⟨fun _ => ?_, fun c3 => absurd (by decide) c3⟩
                rw [hR.2.1, w2]
                exact hp μ3 k1 k2
              | succ m ihm =>
                intro e μ3 he hR a3
                obtain ⟨w1, w2, w3, w4⟩ := hok e (by omega)
                have e5 : ii (e : Int) + 1 = ii ((e + 1 : Nat) : Int) := by simp (disch := omega) only [ii_lit, ii_neg, ii_add, ii_sub, ii_mul, ii_lt, ii_le, ii_eq]; rfl
                have hr := htk e
                have hD3 : MD μ3 := cD.kept (by rw [a3 89 (by decide), h3 89 (by decide) (by decide)])
                refine sX9_fire_123 hE _ _ _ _ _ ⟨fun c4 => ?_, fun _ => ?_⟩
                · simp (disch := omega) only [ii_lit, ii_neg, ii_add, ii_sub, ii_mul, ii_lt, ii_le, ii_eq] at c4
                  omega
                · refine c_X9_takesBy hsp ⟨x1, x2⟩ ⟨y1, y2⟩ (by omega) hD3 (sX9_fire_143 hE _ _ _ _ _ _ _ _ ?_)
                  rw [ii_add]
                  refine c_X9_comes hR w1.2.2.2.2.1 w1.2.2.2.2.2 (by omega) (by omega) (by omega) (w4 e (Nat.le_refl _) (by omega)) (fun μ4 s4 a4 => sX9_fire_147 hE _ _ _ _ _ _ ?_)
                  rw [e5]
                  exact ihm (e + 1) μ4 (by omega) s4 (fun c cc => by rw [a4 c cc]; exact a3 c cc)
            exact come 4 0 μ2 (by omega) (cS.old h3) (fun _ _ => rfl)
          · have c : ¬ (σ.1.2.1 : Int) + 4 ≤ 32 := c
            rw [if_pos (by omega)] at hp
            rw [ii_neg]
            exact hp μ hc9 (fun _ _ => rfl)
        | succ m ih =>
          intro e he hno
          have e5 : ii (e : Int) + 1 = ii ((e + 1 : Nat) : Int) := by simp (disch := omega) only [ii_lit, ii_neg, ii_add, ii_sub, ii_mul, ii_lt, ii_le, ii_eq]; rfl
          have hr := htk e
          refine sX9_fire_40 hE _ _ _ _ _ _ ⟨fun c => ?_, fun _ => ⟨fun q => absurd rfl q, fun _ => ?_⟩⟩
          · simp (disch := omega) only [ii_lit, ii_neg, ii_add, ii_sub, ii_mul, ii_lt, ii_le, ii_eq] at c
            omega
          · refine c_X9_takesBy hsp ⟨x1, x2⟩ ⟨y1, y2⟩ (by omega) cD (sX9_fire_65 hE _ _ _ _ _ _ _ _ ?_)
            rw [ii_add]
            refine c_X9_isThere cS cv.2.2.2.2.1 (by omega) (by omega) (fun h9 => sX9_fire_69 hE _ _ _ _ _ _ ⟨fun q => absurd q (by decide), fun _ => ?_⟩) (fun h9 => sX9_fire_69 hE _ _ _ _ _ _ ⟨fun _ => ?_, fun q => absurd rfl q⟩)
            · rw [e5]
              exact yes ((anyF_iff 4).mpr ⟨e, by omega, h9⟩) m (e + 1) (by omega)
            · rw [e5]
              refine ih (e + 1) (by omega) (fun e' he' => ?_)
              by_cases c : e' = e
              · rw [c]; exact h9
              · exact hno e' (by omega)
      exact scan 4 0 (by omega) (fun e' he' => by omega)
    · rw [if_neg (by omega), if_pos c] at hp
      rw [e_m2]
      exact hp μ hc9 (fun _ _ => rfl)
  · rw [if_pos c] at hp
    rw [e_m1]
    exact hp μ hc9 (fun _ _ => rfl)
end JM5
