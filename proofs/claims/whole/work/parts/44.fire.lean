section JFE
variable {g : jm_G} {ad : Nat → Nat} {P : Option Value → (Nat → Nat → Int32) → Prop}
theorem has_ins {n p : Nat} {f : Nat → Int} {m m' : Int} (hp : p ≤ n) (hm : m' ≠ m) (h : ¬ hasF n f m') : ¬ hasF (n + 1) (insF f p m) m' := by
  rintro ⟨j, hj, e⟩
  unfold insF at e
  by_cases c1 : j < p
  · rw [if_pos c1] at e; exact h ⟨j, by omega, e⟩
  · rw [if_neg c1] at e
    by_cases c2 : j = p
    · rw [if_pos c2] at e; exact hm e.symm
    · rw [if_neg c2] at e; exact h ⟨j - 1, by omega, e⟩
theorem fireM_rng {h : sH} {x y t : Int} {e : Nat} (hv : vH h) (hx : 0 ≤ x ∧ x ≤ 40) (hy : 0 ≤ y ∧ y ≤ 40) (ht : 0 ≤ t ∧ t ≤ 90000) (he : e < 4) : 0 ≤ fireM h x y t e ∧ fireM h x y t e ≤ 399999 := by
  have hs := spd_rng hv.1.1 hv.1.2
  have := tk_rng (sp := spd (h.1 0)) (e := e) (by omega) hx hy
  unfold fireM
  omega
theorem fireM_ne {h : sH} {x y t : Int} {e e' : Nat} (he : e < 4) (he' : e' < 4) (hne : e ≠ e') : fireM h x y t e ≠ fireM h x y t e' := by
  unfold fireM
  omega
theorem anyF_iff {h : sH} {x y t : Int} : ∀ k : Nat, anyF h x y t k = true ↔ ∃ e : Nat, e < k ∧ hasF h.2.1 h.2.2 (fireM h x y t e) := by
  intro k
  induction k with
  | zero =>
    constructor
    · intro q; cases q
    · rintro ⟨e, he, -⟩; omega
  | succ k ih =>
    show (anyF h x y t k || hasB h.2.2 (fireM h x y t k) h.2.1) = true ↔ _
    rw [Bool.or_eq_true, ih, hasB_iff]
    constructor
    · rintro (⟨e, h1, h2⟩ | h2)
      · exact ⟨e, by omega, h2⟩
      · exact ⟨k, by omega, h2⟩
    · rintro ⟨e, h1, h2⟩
      by_cases c : e = k
      · exact Or.inr (by rw [← c]; exact h2)
      · exact Or.inl ⟨e, by omega, h2⟩
theorem fireH_ok {h : sH} {x y t : Int} (hv : vH h) (hx : 0 ≤ x ∧ x ≤ 40) (hy : 0 ≤ y ∧ y ≤ 40) (ht : 0 ≤ t ∧ t ≤ 90000) (hn : h.2.1 ≤ 28) (hno : ∀ e : Nat, e < 4 → ¬ hasF h.2.1 h.2.2 (fireM h x y t e)) : ∀ k : Nat, k ≤ 4 → vH (fireH h x y t k) ∧ (fireH h x y t k).2.1 = h.2.1 + k ∧ (fireH h x y t k).1 = h.1 ∧ ∀ e : Nat, k ≤ e → e < 4 → ¬ hasF (fireH h x y t k).2.1 (fireH h x y t k).2.2 (fireM h x y t e) := by
  intro k
  induction k with
  | zero => intro _; exact ⟨hv, rfl, rfl, fun e _ he => hno e he⟩
  | succ k ih =>
    intro hk
    obtain ⟨a, b, c, d⟩ := ih (by omega)
    have hm := fireM_rng (e := k) hv hx hy ht (by omega)
    refine ⟨insH_v a hm (by omega) (d k (Nat.le_refl _) (by omega)), ?_, c, fun e h1 h2 => ?_⟩
    · show (fireH h x y t k).2.1 + 1 = _
      omega
    · exact has_ins (plc_is a.2.2.2.2.2).1 (fireM_ne h2 (by omega) (by omega)) (d e (by omega) h2)
theorem c_X8_fire {μ : Nat → Nat → Int32} {σ : sT} {x y t : Int} (hc : CI μ σ) (hx : ir x) (hy : ir y) (ht : ir t) (hp : ∀ μ' : Nat → Nat → Int32, CI μ' (opFire σ x y t).2 → aB μ μ' → P (some (.int (ii (opFire σ x y t).1))) μ') : jD g ad m_X8_fire [.ref 0, .int (ii x), .int (ii y), .int (ii t)] μ P := by
  refine jd_intro [some (.ref 0), some (.int (ii x)), some (.int (ii y)), some (.int (ii t)), none] (by decide) rfl rfl (fun κ hE => ?_)
  unfold opFire at hp
  refine sX8_fire_0 hE _ _ _ (c_X8_isPoint hx hy (fun x1 x2 y1 y2 => sX8_fire_5 hE _ _ _ _ ⟨fun _ => ⟨fun c => ?_, fun c => ⟨fun c2 => ?_, fun c2 => ?_⟩⟩, fun c => absurd c (by decide)⟩) (fun c => sX8_fire_5 hE _ _ _ _ ⟨fun c2 => absurd rfl c2, fun _ => ?_⟩))
  · simp (disch := omega) only [ii_lit, ii_neg, ii_add, ii_sub, ii_mul, ii_lt, ii_le, ii_eq] at c
    rw [if_neg (by omega), if_pos (by omega)] at hp
    rw [e_m2]
    exact hp μ hc (fun _ _ => rfl)
  · simp (disch := omega) only [ii_lit, ii_neg, ii_add, ii_sub, ii_mul, ii_lt, ii_le, ii_eq] at c c2
    rw [if_neg (by omega), if_neg (by omega)] at hp
    have s0 : μ 2 0 = ii (σ.1.1 0) := hc.1.1 0 (by omega)
    rw [s0]
    refine c_tun hc (fun μ1 k d tt b => sX8_fire_39 hE _ _ _ ?_)
    have cv := k.2.1
    have hsp := spd_rng cv.1.1 cv.1.2
    have hmr := fun e (he : e < 4) => fireM_rng (x := x) (y := y) (t := t) cv ⟨x1, x2⟩ ⟨y1, y2⟩ (by omega) he
    -- the first walk: is one there already
    have scan : ∀ (m e : Nat), e + m = 4 → (∀ e' : Nat, e' < e → ¬ hasF σ.1.2.1 σ.1.2.2 (fireM σ.1 x y t e')) → jS g ad m_X8_fire κ 42 [some (.ref 0), some (.int (ii x)), some (.int (ii y)), some (.int (ii t)), some (.int (ii e))] [] μ1 := by
      intro m
      induction m with
      | zero =>
        intro e he hno
        have e4 : e = 4 := by omega
        subst e4
        have hany : ¬ anyF σ.1 x y t 4 = true := by
          rw [anyF_iff]
          rintro ⟨e', h1, h2⟩
          exact hno e' h1 h2
        rw [if_neg hany] at hp
        refine sX8_fire_42 hE _ _ _ _ ⟨fun _ => ⟨fun c3 => ?_, fun c3 => ?_⟩, fun c3 => absurd (by decide) c3⟩
        · have hn9 := cv.2.2.2.1
          rw [k.1.2.1] at c3
          simp (disch := omega) only [ii_lit, ii_neg, ii_add, ii_sub, ii_mul, ii_lt, ii_le, ii_eq] at c3
          rw [if_neg (by omega)] at hp
          have hok := fireH_ok cv ⟨x1, x2⟩ ⟨y1, y2⟩ ⟨by omega, by omega⟩ (by omega) hno
          refine c_X8_beginChange k.1 cv k.2.2.1 (fun μ2 h1 h2 h3 => sX8_fire_106 hE _ _ _ ?_)
          -- the second walk: the four pulses come
          have come : ∀ (m e : Nat) (μ3 : Nat → Nat → Int32), e + m = 4 → HR μ3 1 (fireH σ.1 x y t e) → (∀ c : Nat, ¬ (1 ≤ c ∧ c ≤ 3) → μ3 c = μ2 c) → jS g ad m_X8_fire κ 109 [some (.ref 0), some (.int (ii x)), some (.int (ii y)), some (.int (ii t)), some (.int (ii e))] [] μ3 := by
            intro m
            induction m with
            | zero =>
              intro e μ3 he hR a3
              have e4 : e = 4 := by omega
              subst e4
              obtain ⟨w1, w2, w3, w4⟩ := hok 4 (by omega)
              obtain ⟨k1, k2⟩ := k.chg h1 h2 h3 hR w1 a3
              refine sX8_fire_109 hE _ _ _ _ ⟨fun _ => ?_, fun c3 => absurd (by decide) c3⟩
              rw [hR.2.1, w2]
              exact hp μ3 k1 (fun c cc => by rw [k2 c cc]; exact b c cc)
            | succ m ihm =>
              intro e μ3 he hR a3
              obtain ⟨w1, w2, w3, w4⟩ := hok e (by omega)
              have e5 : ii (e : Int) + 1 = ii ((e + 1 : Nat) : Int) := by simp (disch := omega) only [ii_lit, ii_neg, ii_add, ii_sub, ii_mul, ii_lt, ii_le, ii_eq]; rfl
              have hT3 : FTm μ3 (spd (σ.1.1 0)) := ⟨by rw [a3 29 (by omega), h3 29 (by omega) (by omega)]; exact tt.1, fun j hj => by rw [a3 31 (by omega), h3 31 (by omega) (by omega)]; exact tt.2 j hj⟩
              refine sX8_fire_109 hE _ _ _ _ ⟨fun c4 => ?_, fun _ => ?_⟩
              · simp (disch := omega) only [ii_lit, ii_neg, ii_add, ii_sub, ii_mul, ii_lt, ii_le, ii_eq] at c4
                omega
              · refine c_X2_crackTime hT3 ⟨x1, x2⟩ ⟨y1, y2⟩ (by omega) (sX8_fire_133 hE _ _ _ _ _ _ _ ?_)
                rw [ii_add]
                refine c_X8_markOf (sX8_fire_137 hE _ _ _ _ _ ?_)
                refine c_X3_add (m := fireM σ.1 x y t e) jm_heard1 hR.2 w1.2.2.2.2.1 w1.2.2.2.2.2 (hmr e (by omega)) (by omega) (fun p μ4 hpl hF4 a4 => sX8_fire_140 hE _ _ _ _ _ ?_)
                have epl := hpl.uniq (plc_is w1.2.2.2.2.2)
                subst epl
                rw [e5]
                exact ihm (e + 1) μ4 (by omega) ⟨fun i hi => by rw [a4 (1 + 1) (by decide) (by decide)]; exact hR.1 i hi, hF4⟩ (fun c cc => by rw [a4 c (by omega) (by omega)]; exact a3 c cc)
          exact come 4 0 μ2 (by omega) (k.1.old h3) (fun _ _ => rfl)
        · have hn9 := cv.2.2.2.1
          rw [k.1.2.1] at c3
          simp (disch := omega) only [ii_lit, ii_neg, ii_add, ii_sub, ii_mul, ii_lt, ii_le, ii_eq] at c3
          rw [if_pos (by omega)] at hp
          rw [e_m4]
          exact hp μ1 k b
      | succ m ihm =>
        intro e he hno
        have e5 : ii (e : Int) + 1 = ii ((e + 1 : Nat) : Int) := by simp (disch := omega) only [ii_lit, ii_neg, ii_add, ii_sub, ii_mul, ii_lt, ii_le, ii_eq]; rfl
        refine sX8_fire_42 hE _ _ _ _ ⟨fun c4 => ?_, fun _ => ?_⟩
        · simp (disch := omega) only [ii_lit, ii_neg, ii_add, ii_sub, ii_mul, ii_lt, ii_le, ii_eq] at c4
          omega
        · refine c_X2_crackTime tt ⟨x1, x2⟩ ⟨y1, y2⟩ (by omega) (sX8_fire_66 hE _ _ _ _ _ _ _ ?_)
          rw [ii_add]
          refine c_X8_markOf (sX8_fire_70 hE _ _ _ _ _ ?_)
          have hmm := hmr e (by omega)
          refine c_X3_has (m := fireM σ.1 x y t e) jm_heard1 k.1.2 cv.2.2.2.2.1 cv.2.2.2.2.2 (by omega) (fun h9 => sX8_fire_73 hE _ _ _ _ _ ⟨fun c5 => absurd c5 (by decide), fun _ => ?_⟩) (fun h9 => sX8_fire_73 hE _ _ _ _ _ ⟨fun _ => ?_, fun c5 => absurd rfl c5⟩)
          · rw [if_pos ((anyF_iff 4).mpr ⟨e, by omega, h9⟩)] at hp
            rw [e_m5]
            exact hp μ1 k b
          · rw [e5]
            refine ihm (e + 1) (by omega) (fun e' he' => ?_)
            by_cases c5 : e' = e
            · rw [c5]; exact h9
            · exact hno e' (by omega)
    exact scan 4 0 (by omega) (fun e' he' => by omega)
  · simp (disch := omega) only [ii_lit, ii_neg, ii_add, ii_sub, ii_mul, ii_lt, ii_le, ii_eq] at c c2
    rw [if_neg (by omega), if_pos (by omega)] at hp
    rw [e_m2]
    exact hp μ hc (fun _ _ => rfl)
  · rw [if_pos c] at hp
    rw [e_m1]
    exact hp μ hc (fun _ _ => rfl)
end JFE
