section JMB
variable {g : jm_G} {ad : Nat → Nat} {P : Option Value → (Nat → Nat → Int32) → Prop}
theorem c_X9_isShot {μ : Nat → Nat → Int32} {σ : sT} {z : Int} (hc : MI μ σ) (hz : ir z)
    (h1 : ∀ (μ' : Nat → Nat → Int32) (j : Nat), MI μ' σ → MTm μ' (spd (σ.1.1 0)) → mSH μ' (fdT σ) → aA μ μ' → z = j → j < (fdT σ).2.2 → P (some (.int 1)) μ')
    (h0 : ∀ μ' : Nat → Nat → Int32, MI μ' σ → aA μ μ' → ¬ (0 ≤ z ∧ z < (fdT σ).2.2) → P (some (.int 0)) μ') : jD g ad m_X9_isShot [.ref 82, .int (ii z)] μ P := by
  refine jd_intro [some (.ref 82), some (.int (ii z))] (by decide) rfl rfl (fun κ hE => ?_)
  refine sX9_isShot_0 hE _ (c_X9_find hc (fun μ1 k t s b => sX9_isShot_4 hE _ ?_))
  have h8 := s.2.2.1
  rw [s.2.1, ii_0, ii_1, ii_sub]
  exact c_X9_within hz (by decide) (by omega) (fun c c2 => sX9_isShot_15 hE _ ⟨Or.inr rfl, h1 μ1 z.toNat k t s b (by omega) (by omega)⟩) (fun c => sX9_isShot_15 hE _ ⟨Or.inl rfl, h0 μ1 k b (by omega)⟩)
theorem fd_used {h : sH} {t z : Int} (hv : vH h) {j : Nat} (hj : j < h.2.1) : (fd h t z).1 j ≠ -1 ∧ -6 ≤ (fd h t z).1 j ∧ (fd h t z).1 j < 8 := by
  obtain ⟨v0, v1, v2, vn, vB, vS⟩ := hv
  have h0 : ∀ j : Nat, j < h.2.1 → own0F h.2.1 z j = -1 ∨ own0F h.2.1 z j = -6 := by
    intro j hj
    unfold own0F
    split
    · exact Or.inr rfl
    · exact Or.inl rfl
  obtain ⟨a, b⟩ := find_ok (win := h.1 1) (slack := h.1 2) (sp := spd t) vB vn h0 h.2.1 (Nat.le_refl _)
  have h1 := a.1 j hj
  have h2 := a.2.1 j hj
  unfold fd
  omega
theorem c_X9_pulse {μ : Nat → Nat → Int32} {σ : sT} {z w : Int} (hc : MI μ σ) (hz : ir z) (hw : ir w) (hp : ∀ μ' : Nat → Nat → Int32, MI μ' σ → aA μ μ' → P (some (.int (ii (opPulse σ z w)))) μ') : jD g ad m_X9_pulse [.ref 82, .int (ii z), .int (ii w)] μ P := by
  refine jd_intro [some (.ref 82), some (.int (ii z)), some (.int (ii w))] (by decide) rfl rfl (fun κ hE => ?_)
  have hn := hc.2.1.2.2.2.1
  unfold opPulse at hp
  refine sX9_pulse_0 hE _ _ (c_X9_isPulse hc.1 hz (fun j e1 e2 => sX9_pulse_5 hE _ _ _ ⟨fun _ => ?_, fun c => absurd c (by decide)⟩) (fun c => sX9_pulse_5 hE _ _ _ ⟨fun c2 => absurd rfl c2, fun _ => ?_⟩))
  · subst e1
    rw [if_neg (by omega), Int.toNat_natCast] at hp
    rw [ii_toInt hw.1 hw.2]
    refine ⟨fun c => ?_, fun c => ?_, fun c => ?_, fun c => ?_⟩
    · rw [if_neg (by omega), if_neg (by omega), if_neg (by omega)] at hp
      rw [e_m2]
      exact hp μ hc (fun _ _ => rfl)
    · rw [if_pos c] at hp
      exact c_X9_earOf hc.1 e2 (sX9_pulse_41 hE _ (hp μ hc (fun _ _ => rfl)))
    · rw [if_neg (by omega), if_pos c] at hp
      exact c_X9_timeOf hc.1 e2 (sX9_pulse_47 hE _ (hp μ hc (fun _ _ => rfl)))
    · rw [if_neg (by omega), if_neg (by omega), if_pos c] at hp
      refine c_X9_find hc (fun μ1 k t s b => sX9_pulse_52 hE _ ⟨ii_in (by omega) (by omega) (by omega), ?_⟩)
      have hu := fd_used (t := σ.1.1 0) (z := -1) hc.2.1 e2
      have e9 : oc ((fdT σ).1 j) = (fdT σ).1 j := by
        unfold oc
        rw [if_neg]
        exact hu.1
      rw [ii_natN (by omega), s.1 j (by omega), e9]
      exact hp μ1 k b
  · rw [if_pos c] at hp
    rw [e_m1]
    exact hp μ hc (fun _ _ => rfl)
theorem c_X9_shot {μ : Nat → Nat → Int32} {σ : sT} {z w : Int} (hc : MI μ σ) (hz : ir z) (hw : ir w) (hp : ∀ μ' : Nat → Nat → Int32, MI μ' σ → aA μ μ' → P (some (.int (ii (opShot σ z w)))) μ') : jD g ad m_X9_shot [.ref 82, .int (ii z), .int (ii w)] μ P := by
  refine jd_intro [some (.ref 82), some (.int (ii z)), some (.int (ii w))] (by decide) rfl rfl (fun κ hE => ?_)
  unfold opShot at hp
  have hok := (fd_ok (z := -1) hc.2.1 hc.2.1.1).2
  refine sX9_shot_0 hE _ _ (c_X9_isShot hc hz (fun μ1 j k t s b e1 e2 => sX9_shot_5 hE _ _ _ ⟨fun _ => ?_, fun c => absurd c (by decide)⟩) (fun μ1 k b c => sX9_shot_5 hE _ _ _ ⟨fun c2 => absurd rfl c2, fun _ => ?_⟩))
  · subst e1
    have h8 := s.2.2.1
    rw [if_pos (by omega), Int.toNat_natCast] at hp
    have hpt := (hok.2 j e2).1
    obtain ⟨a1, a2, a3, a4⟩ := s.2.2.2 j e2
    have hp := hp μ1 k b
    have hpt : pt ((fdT σ).2.1 j).2.1 ((fdT σ).2.1 j).2.2.1 := hpt
    rw [ii_toInt hw.1 hw.2, ii_natN (by omega), a1, a2, a3, plX hpt, plY hpt]
    have h95 : ∀ q : Nat, q < 4 → w = 5 + q → vp_in (4 * ii (j : Int) + ii w - 5) 32 ∧ μ1 95 (4 * ii (j : Int) + ii w - 5).toNatClampNeg = ii (((fdT σ).2.1 j).1 q) := by
      intro q hq ew
      have e5 : (5 : Int32) = ii 5 := by decide
      rw [ew, ii_4, ii_mul, ii_add, e5, ii_sub]
      refine ⟨ii_in (by omega) (by omega) (by omega), ?_⟩
      rw [ii_nat (by omega) (by omega), show (4 * (j : Int) + (5 + (q : Int)) - 5).toNat = 4 * j + q by omega]
      exact a4 q hq
    refine ⟨fun c => ?_, fun c => ?_, fun c => ?_, fun c => ?_, fun c => ?_, fun c => ?_, fun c => ?_, fun c => ?_, fun c => ?_, fun c => ?_⟩
    · have e9 : tellS ((fdT σ).2.1 j) w = -2 := by
        unfold tellS
        rw [if_neg (by omega), if_neg (by omega), if_neg (by omega), if_neg (by omega), if_neg (by omega), if_neg (by omega)]
      rw [e9] at hp
      rw [e_m2]
      exact hp
    · subst c
      exact ⟨ii_in (by omega) (by omega) (by omega), hp⟩
    · subst c
      exact ⟨ii_in (by omega) (by omega) (by omega), hp⟩
    · subst c
      exact ⟨ii_in (by omega) (by omega) (by omega), hp⟩
    · subst c
      rw [ii_lit 10000, ii_add]
      exact ⟨ii_in (by omega) (by omega) (by omega), hp⟩
    · subst c
      exact c_X9_ringOf k.2.2.2.2.2.1 s e2 hpt (sX9_shot_103 hE _ hp)
    · obtain ⟨u1, u2⟩ := h95 0 (by decide) c
      rw [u2]
      subst c
      exact ⟨u1, hp⟩
    · obtain ⟨u1, u2⟩ := h95 1 (by decide) c
      rw [u2]
      subst c
      exact ⟨u1, hp⟩
    · obtain ⟨u1, u2⟩ := h95 2 (by decide) c
      rw [u2]
      subst c
      exact ⟨u1, hp⟩
    · obtain ⟨u1, u2⟩ := h95 3 (by decide) c
      rw [u2]
      subst c
      exact ⟨u1, hp⟩
  · rw [if_neg c] at hp
    rw [e_m1]
    exact hp μ1 k b
theorem c_X9_count {μ : Nat → Nat → Int32} {σ : sT} {w : Int} (hc : MI μ σ) (hw : ir w) (hp : ∀ μ' : Nat → Nat → Int32, MI μ' σ → aA μ μ' → P (some (.int (ii (opCount σ w)))) μ') : jD g ad m_X9_count [.ref 82, .int (ii w)] μ P := by
  refine jd_intro [some (.ref 82), some (.int (ii w))] (by decide) rfl rfl (fun κ hE => ?_)
  have hpt : ∀ k : Nat, k < (fdT σ).2.2 → pt ((fdT σ).2.1 k).2.1 ((fdT σ).2.1 k).2.2.1 := fun k hk => ((fd_ok (z := -1) hc.2.1 hc.2.1.1).2.2 k hk).1
  unfold opCount at hp
  have e12 : (12 : Int32) = ii 12 := by decide
  refine sX9_count_0 hE _ ?_
  rw [ii_0, e12]
  refine c_X9_within hw (by decide) (by decide) (fun w1 w2 => sX9_count_7 hE _ _ ⟨fun _ => ?_, fun q => absurd q (by decide)⟩) (fun w1 => sX9_count_7 hE _ _ ⟨fun q => absurd rfl q, fun _ => ?_⟩)
  · refine c_X9_find hc (fun μ1 k t s b => sX9_count_17 hE _ ?_)
    have h8 := s.2.2.1
    have s0 : μ1 83 0 = ii (σ.1.1 0) := k.1.1 0 (by decide)
    have hp := hp μ1 k b
    rw [ii_toInt hw.1 hw.2, k.1.2.1, s.2.1, s0, k.2.2.1.1, k.2.2.2.2.1.1]
    refine ⟨fun c => ?_, fun c => ?_, fun c => ?_, fun c => ?_, fun c => ?_, fun c => ?_, fun c => ?_, fun c => ?_, fun c => ?_, fun c => ?_, fun c => ?_, fun c => ?_, fun c => ?_⟩
    · have e : w = 12 := by omega
      subst e
      exact hp
    · subst c; exact hp
    · subst c; exact hp
    · subst c
      rw [ii_4, ii_mul, ii_sub]
      exact hp
    · subst c
      exact c_X9_sumOfRings k.2.2.2.2.2.1 s hpt (sX9_count_110 hE _ hp)
    · subst c
      exact c_X9_bestShot k.2.2.2.2.2.1 s hpt (sX9_count_115 hE _ hp)
    · subst c
      exact c_X9_sumOfSpreads s (sX9_count_120 hE _ hp)
    · subst c
      exact c_X9_widest k.2.2.2.2.2.1 s hpt (sX9_count_125 hE _ hp)
    · subst c
      exact c_X9_speedBy hc.2.1.1 (sX9_count_135 hE _ hp)
    · subst c
      rw [ii_lit 100, ii_add]
      exact hp
    · subst c
      have e1 : (ii 9 - 8).toNatClampNeg = 1 := by decide
      rw [e1, k.1.1 1 (by decide)]
      exact ⟨jm_inD (by decide), hp⟩
    · subst c
      have e1 : (ii 10 - 8).toNatClampNeg = 2 := by decide
      rw [e1, k.1.1 2 (by decide)]
      exact ⟨jm_inD (by decide), hp⟩
    · subst c; exact hp
  · rw [if_neg (by omega), if_neg (by omega), if_neg (by omega), if_neg (by omega), if_neg (by omega), if_neg (by omega), if_neg (by omega), if_neg (by omega), if_neg (by omega), if_neg (by omega), if_neg (by omega), if_neg (by omega), if_neg (by omega)] at hp
    rw [e_m2]
    exact hp μ hc (fun _ _ => rfl)
theorem c_X9_fits {μ : Nat → Nat → Int32} {σ : sT} {z x y : Int} (hc : MI μ σ) (hz : ir z) (hx : ir x) (hy : ir y) (hp : ∀ μ' : Nat → Nat → Int32, MI μ' σ → aA μ μ' → P (some (.int (ii (opFits σ z x y)))) μ') : jD g ad m_X9_fits [.ref 82, .int (ii z), .int (ii x), .int (ii y)] μ P := by
  refine jd_intro [some (.ref 82), some (.int (ii z)), some (.int (ii x)), some (.int (ii y)), none] (by decide) rfl rfl (fun κ hE => ?_)
  unfold opFits at hp
  have hok := (fd_ok (z := -1) hc.2.1 hc.2.1.1).2.2
  have hsp := spd_rng hc.2.1.1.1 hc.2.1.1.2
  refine sX9_fits_0 hE _ _ _ (c_X9_isShot hc hz (fun μ1 j k t s b e1 e2 => sX9_fits_5 hE _ _ _ _ ⟨fun c => absurd c (by decide), fun _ => ?_⟩) (fun μ1 k b c => sX9_fits_5 hE _ _ _ _ ⟨fun _ => ?_, fun q => absurd rfl q⟩))
  · subst e1
    have h8 := s.2.2.1
    refine c_X9_isPoint hx hy (fun x1 x2 y1 y2 => sX9_fits_13 hE _ _ _ _ ⟨fun _ => ?_, fun c => absurd c (by decide)⟩) (fun c => sX9_fits_13 hE _ _ _ _ ⟨fun c2 => absurd rfl c2, fun _ => ?_⟩)
    · rw [if_pos (by omega), Int.toNat_natCast] at hp
      obtain ⟨a1, a2, a3, a4⟩ := s.2.2.2 j e2
      have hpl := (hok j e2).2.2.2
      have key : ∀ (m e : Nat) (μ2 : Nat → Nat → Int32), e + m = 4 → (∀ i : Nat, i < e → μ2 96 i = ii ((((fdT σ).2.1 j).1 i).toNat : Nat)) → (∀ c : Nat, c ≠ 96 → μ2 c = μ1 c) → jS g ad m_X9_fits κ 21 [some (.ref 82), some (.int (ii j)), some (.int (ii x)), some (.int (ii y)), some (.int (ii e))] [] μ2 := by
        intro m
        induction m with
        | zero =>
          intro e μ2 he b1 b2
          refine sX9_fits_21 hE _ _ _ _ ⟨fun _ => ?_, fun c => ?_⟩
          · have e41 : (41 : Int32) = ii 41 := by decide
            rw [e41, ii_mul, ii_add, show 41 * y + x = (((41 * y + x).toNat : Nat) : Int) by omega]
            refine c_X9_spreadAt (h := σ.1) (r := fun e => (((fdT σ).2.1 j).1 e).toNat) (k.1.kept (b2 _ (by decide))) hc.2.1.2.2.2.2.1 (fun e' he' => ⟨b1 e' (by omega), ?_⟩) hsp.1 (t.kept (by rw [b2 82 (by decide)]) (b2 90 (by decide))) (by omega) (sX9_fits_61 hE _ ?_)
            · obtain ⟨i, i1, i2⟩ := hpl e' he'
              have i2 : ((fdT σ).2.1 j).1 e' = i := i2
              show (((fdT σ).2.1 j).1 e').toNat < σ.1.2.1
              rw [i2, Int.toNat_natCast]
              exact i1
            · unfold spP
              rw [show (((41 * y + x).toNat % 41 : Nat) : Int) = x by omega, show (((41 * y + x).toNat / 41 : Nat) : Int) = y by omega]
              obtain ⟨q1, q2⟩ := k.fr (μ' := μ2) (k.2.2.2.2.2.2.kept (by rw [b2 82 (by decide)]) (b2 90 (by decide))) ⟨fun j _ => by rw [b2 82 (by decide)], fun c c1 c2 => b2 c (by omega)⟩
              exact hp μ2 q1 (fun c cc => by rw [q2 c cc]; exact b c cc)
          · simp (disch := omega) only [ii_lit, ii_neg, ii_add, ii_sub, ii_mul, ii_lt, ii_le, ii_eq] at c
            omega
        | succ m ih =>
          intro e μ2 he b1 b2
          have e5 : ii (e : Int) + 1 = ii ((e + 1 : Nat) : Int) := by simp (disch := omega) only [ii_lit, ii_neg, ii_add, ii_sub, ii_mul, ii_lt, ii_le, ii_eq]; rfl
          refine sX9_fits_21 hE _ _ _ _ ⟨fun c => ?_, fun _ => ?_⟩
          · simp (disch := omega) only [ii_lit, ii_neg, ii_add, ii_sub, ii_mul, ii_lt, ii_le, ii_eq] at c
            omega
          · rw [ii_natN (j := e) (by omega), ii_4, ii_mul, ii_add, ii_nat (by omega) (by omega), show (4 * (j : Int) + e).toNat = 4 * j + e by omega, b2 95 (by decide), a4 e (by omega), e5]
            refine ⟨ii_in (by omega) (by omega) (by omega), ii_in (by omega) (by omega) (by omega), ?_⟩
            intro μ3 e3
            refine ih (e + 1) μ3 (by omega) (fun i hi => ?_) (fun c cc => by rw [e3, jm_st_nc _ _ _ cc]; exact b2 c cc)
            rw [e3]
            by_cases q : i = e
            · obtain ⟨i9, i1, i2⟩ := hpl e (by omega)
              have i2 : ((fdT σ).2.1 j).1 e = i9 := i2
              rw [q, jm_st_s, i2, Int.toNat_natCast]
            · rw [jm_st_ni _ _ _ q]; exact b1 i (by omega)
      exact key 4 0 μ1 (by omega) (fun i hi => by omega) (fun _ _ => rfl)
    · rw [if_neg (by omega)] at hp
      rw [e_m1]
      exact hp μ1 k b
  · rw [if_neg (by omega)] at hp
    rw [e_m1]
    exact hp μ1 k b
theorem c_X9_mean {μ : Nat → Nat → Int32} {σ : sT} {w : Int} (hc : MI μ σ) (hw : ir w) (hp : ∀ μ' : Nat → Nat → Int32, MI μ' σ → aA μ μ' → P (some (.int (ii (opMean σ w)))) μ') : jD g ad m_X9_mean [.ref 82, .int (ii w)] μ P := by
  refine jd_intro [some (.ref 82), some (.int (ii w)), none, none] (by decide) rfl rfl (fun κ hE => ?_)
  unfold opMean at hp
  have hok := (fd_ok (z := -1) hc.2.1 hc.2.1.1).2
  refine sX9_mean_0 hE _ ?_
  rw [ii_0, ii_1]
  refine c_X9_within hw (by decide) (by decide) (fun w1 w2 => sX9_mean_6 hE _ _ ⟨fun _ => ?_, fun q => absurd q (by decide)⟩) (fun w1 => sX9_mean_6 hE _ _ ⟨fun q => absurd rfl q, fun _ => ?_⟩)
  · rw [if_neg (by omega)] at hp
    refine c_X9_find hc (fun μ1 k t s b => sX9_mean_16 hE _ ?_)
    have hp := hp μ1 k b
    have h8 := s.2.2.1
    have hpt : ∀ k : Nat, k < (fdT σ).2.2 → pt ((fdT σ).2.1 k).2.1 ((fdT σ).2.1 k).2.2.1 := fun k hk => (hok.2 k hk).1
    have key : ∀ φ : sR → Int, (w = 0 → φ = fun s => s.2.1) → (w = 1 → φ = fun s => s.2.2.1) → ∀ m i : Nat, i + m = (fdT σ).2.2 → jS g ad m_X9_mean κ 20 [some (.ref 82), some (.int (ii w)), some (.int (ii (sumK φ (fdT σ).2.1 i))), some (.int (ii i))] [] μ1 := by
      intro φ f0 f1 m
      have hφ : ∀ j : Nat, j < (fdT σ).2.2 → 0 ≤ φ ((fdT σ).2.1 j) ∧ φ ((fdT σ).2.1 j) ≤ 40 := by
        intro j hj
        have := hpt j hj
        unfold pt at this
        rcases (show w = 0 ∨ w = 1 by omega) with c | c
        · rw [f0 c]; exact ⟨this.1, this.2.1⟩
        · rw [f1 c]; exact ⟨this.2.2.1, this.2.2.2⟩
      induction m with
      | zero =>
        intro i hi
        have hs := sumK_rng (φ := φ) (sh := (fdT σ).2.1) (lo := 0) (hi := 40) i (fun j hj => hφ j (by omega))
        refine sX9_mean_20 hE _ _ _ ⟨fun _ => ?_, fun c => ?_⟩
        · have ei : i = (fdT σ).2.2 := by omega
          rw [ei] at hs ⊢
          rw [s.2.1, ii_0, ii_eq (by omega) (by decide), e_m6]
          refine ⟨fun c => ⟨fun q => by rw [ii_eq (by omega) (by decide)] at q; omega, ?_⟩, fun c => ?_⟩
          · rw [if_neg (by omega)] at hp
            have e100 : (100 : Int32) = ii 100 := by decide
            rw [e100, ii_mul, ii_div (by omega) (by omega) (by omega) (by omega), Int.mul_comm]
            rcases (show w = 0 ∨ w = 1 by omega) with c | c
            · rw [if_pos c] at hp
              rw [f0 c]
              exact hp
            · rw [if_neg (by omega)] at hp
              rw [f1 c]
              exact hp
          · rw [if_pos (by omega)] at hp
            exact hp
        · rw [s.2.1] at c
          simp (disch := omega) only [ii_lit, ii_neg, ii_add, ii_sub, ii_mul, ii_lt, ii_le, ii_eq] at c
          omega
      | succ m ih =>
        intro i hi
        have e5 : ii (i : Int) + 1 = ii ((i + 1 : Nat) : Int) := by simp (disch := omega) only [ii_lit, ii_neg, ii_add, ii_sub, ii_mul, ii_lt, ii_le, ii_eq]; rfl
        obtain ⟨a1, -⟩ := s.2.2.2 i (by omega)
        have h9 := ih (i + 1) (by omega)
        have eK : sumK φ (fdT σ).2.1 (i + 1) = sumK φ (fdT σ).2.1 i + φ ((fdT σ).2.1 i) := rfl
        rw [eK] at h9
        refine sX9_mean_20 hE _ _ _ ⟨fun c => ?_, fun _ => ?_⟩
        · rw [s.2.1] at c
          simp (disch := omega) only [ii_lit, ii_neg, ii_add, ii_sub, ii_mul, ii_lt, ii_le, ii_eq] at c
          omega
        · rw [ii_natN (by omega), a1, plX (hpt i (by omega)), plY (hpt i (by omega)), ii_add, ii_add, ii_0, ii_eq (by omega) (by decide), e5]
          refine ⟨fun c => ⟨ii_in (by omega) (by omega) (by omega), ?_⟩, fun c => ⟨ii_in (by omega) (by omega) (by omega), ?_⟩⟩
          · rw [f1 (by omega)] at h9 ⊢
            exact h9
          · rw [f0 c] at h9 ⊢
            exact h9
    rcases (show w = 0 ∨ w = 1 by omega) with c | c
    · exact key (fun s => s.2.1) (fun _ => rfl) (fun q => by omega) (fdT σ).2.2 0 (by omega)
    · exact key (fun s => s.2.2.1) (fun q => by omega) (fun _ => rfl) (fdT σ).2.2 0 (by omega)
  · rw [if_pos (by omega)] at hp
    rw [e_m2]
    exact hp μ hc (fun _ _ => rfl)
theorem c_X9_ifHeat {μ : Nat → Nat → Int32} {σ : sT} {t w : Int} (hc : MI μ σ) (ht : ir t) (hw : ir w) (hp : ∀ μ' : Nat → Nat → Int32, MI μ' σ → aA μ μ' → P (some (.int (ii (opIfHeat σ t w)))) μ') : jD g ad m_X9_ifHeat [.ref 82, .int (ii t), .int (ii w)] μ P := by
  refine jd_intro [some (.ref 82), some (.int (ii t)), some (.int (ii w))] (by decide) rfl rfl (fun κ hE => ?_)
  unfold opIfHeat at hp
  have no : (¬ (-30 ≤ t ∧ t ≤ 50) ∨ ¬ (0 ≤ w ∧ w ≤ 2)) → P (some (.int (-2))) μ := by
    intro c
    rw [if_pos c] at hp
    rw [e_m2]
    exact hp μ hc (fun _ _ => rfl)
  refine sX9_ifHeat_0 hE _ _ ?_
  have e30 : (-30 : Int32) = ii (-30) := by decide
  have e50 : (50 : Int32) = ii 50 := by decide
  rw [e30, e50]
  refine c_X9_within ht (by decide) (by decide) (fun t1 t2 => sX9_ifHeat_8 hE _ _ _ ⟨fun q => absurd q (by decide), fun _ => ?_⟩) (fun c => sX9_ifHeat_8 hE _ _ _ ⟨fun _ => no (by omega), fun q => absurd rfl q⟩)
  rw [ii_0, ii_2]
  refine c_X9_within hw (by decide) (by decide) (fun w1 w2 => sX9_ifHeat_17 hE _ _ _ ⟨fun _ => ?_, fun q => absurd q (by decide)⟩) (fun c => sX9_ifHeat_17 hE _ _ _ ⟨fun q => absurd rfl q, fun _ => no (by omega)⟩)
  rw [if_neg (by omega)] at hp
  refine c_mfd hc ⟨t1, t2⟩ (fun μ1 k tm s b => sX9_ifHeat_28 hE _ ?_)
  have hpt : ∀ j : Nat, j < (fd σ.1 t (-1)).2.2 → pt ((fd σ.1 t (-1)).2.1 j).2.1 ((fd σ.1 t (-1)).2.1 j).2.2.1 := fun j hj => ((fd_ok (z := -1) hc.2.1 ⟨t1, t2⟩).2.2 j hj).1
  rw [ii_0, ii_1, ii_eq (by omega) (by decide), ii_eq (by omega) (by decide), s.2.1]
  refine ⟨fun c => ⟨fun c2 => ?_, fun c2 => ?_⟩, fun c => ?_⟩
  · rw [if_neg c, if_neg c2] at hp
    exact c_X9_sumOfSpreads s (sX9_ifHeat_55 hE _ (hp μ1 k b))
  · rw [if_neg c, if_pos c2] at hp
    exact c_X9_sumOfRings k.2.2.2.2.2.1 s hpt (sX9_ifHeat_48 hE _ (hp μ1 k b))
  · rw [if_pos c] at hp
    exact hp μ1 k b
theorem c_X9_bestHeat {μ : Nat → Nat → Int32} {σ : sT} (hc : MI μ σ) (hp : ∀ μ' : Nat → Nat → Int32, MI μ' σ → aA μ μ' → P (some (.int (ii (opBestHeat σ)))) μ') : jD g ad m_X9_bestHeat [.ref 82] μ P := by
  refine jd_intro [some (.ref 82), none, none, none, none, none] (by decide) rfl rfl (fun κ hE => ?_)
  have hv := hc.2.1
  have key : ∀ (m k : Nat) (a b c : Int) (μ1 : Nat → Nat → Int32), k + m = 9 → (k = 0 → a = -6 ∧ b = 0 ∧ c = 0) → (0 < k → a = (bhK σ.1 k).1 + 100 ∧ b = (bhK σ.1 k).2.1 ∧ c = (bhK σ.1 k).2.2) → MI μ1 σ → aA μ μ1 → jS g ad m_X9_bestHeat κ 11 [some (.ref 82), some (.int (ii a)), some (.int (ii b)), some (.int (ii c)), some (.int (ii (-30 + 10 * k))), none] [] μ1 := by
    intro m
    induction m with
    | zero =>
      intro k a b c μ1 hk h0 h1 hc1 b1
      have e : k = 9 := by omega
      subst e
      obtain ⟨x1, x2, x3⟩ := h1 (by decide)
      refine sX9_bestHeat_11 hE _ _ _ _ ⟨fun _ => ?_, fun q => absurd (by decide) q⟩
      rw [x1]
      exact hp μ1 hc1 b1
    | succ m ih =>
      intro k a b c μ1 hk h0 h1 hc1 b1
      have hb := bhK_rng hv k (by omega)
      have hs := sSp_rng (t := -30 + 10 * k) hv (by omega)
      have hf := (fd_ok (z := -1) (heat := -30 + 10 * k) hv (by omega)).2.1
      have e9 : bhK σ.1 (k + 1) = if (bhK σ.1 k).2.1 < (((fd σ.1 (-30 + 10 * (k : Int)) (-1)).2.2 : Nat) : Int) ∨ ((((fd σ.1 (-30 + 10 * (k : Int)) (-1)).2.2 : Nat) : Int) = (bhK σ.1 k).2.1 ∧ sSp σ.1 (-30 + 10 * (k : Int)) < (bhK σ.1 k).2.2) then ((-30 + 10 * (k : Int) : Int), (((fd σ.1 (-30 + 10 * (k : Int)) (-1)).2.2 : Nat) : Int), sSp σ.1 (-30 + 10 * (k : Int))) else bhK σ.1 k := rfl
      have hr : (-6 ≤ a ∧ a ≤ 150) ∧ (-1 ≤ b ∧ b ≤ 8) ∧ (0 ≤ c ∧ c ≤ 2400) := by
        rcases Nat.eq_zero_or_pos k with q | q
        · have := h0 q; omega
        · have := h1 q; omega
      refine sX9_bestHeat_11 hE _ _ _ _ ⟨fun q => ?_, fun _ => ?_⟩
      · rw [ii_lit 50, ii_lt (by decide) (by omega)] at q
        have q : (50 : Int) < -30 + 10 * k := q
        omega
      · refine c_mfd hc1 (by omega) (fun μ2 k2 tm s b2 => sX9_bestHeat_24 hE _ _ _ _ ?_)
        have eS : sumK (fun s => s.2.2.2.1) (fd σ.1 (-30 + 10 * k) (-1)).2.1 (fd σ.1 (-30 + 10 * k) (-1)).2.2 = sSp σ.1 (-30 + 10 * k) := rfl
        have b3 : aA μ μ2 := fun c cc => by rw [b2 c cc]; exact b1 c cc
        have e10 : ii (-30 + 10 * (k : Int)) + 10 = ii (-30 + 10 * ((k + 1 : Nat) : Int)) := by
          rw [ii_lit 10, ii_add]
          congr 1
          show -30 + 10 * (k : Int) + 10 = _
          omega
        generalize hsz : (((fd σ.1 (-30 + 10 * k) (-1)).2.2 : Nat) : Int) = sz at *
        -- it is the best so far
        have yes : (k = 0 ∨ b < sz ∨ (sz = b ∧ sSp σ.1 (-30 + 10 * k) < c)) → jS g ad m_X9_bestHeat κ 61 [some (.ref 82), some (.int (ii a)), some (.int (ii b)), some (.int (ii c)), some (.int (ii (-30 + 10 * k))), some (.int 1)] [] μ2 := by
          intro hyes
          refine sX9_bestHeat_61 hE _ _ _ _ _ ⟨fun q => absurd q (by decide), fun _ => sX9_bestHeat_76 hE _ _ _ _ _ ⟨fun q => absurd q (by decide), fun _ => sX9_bestHeat_90 hE _ _ _ _ _ ⟨fun q => absurd q (by decide), fun _ => ?_⟩⟩⟩
          refine c_X9_sumOfSpreads s (sX9_bestHeat_99 hE _ _ _ _ ?_)
          rw [eS, s.2.1, hsz, e10, ii_lit 100, ii_add]
          refine ih (k + 1) _ _ _ μ2 (by omega) (fun q => by omega) (fun _ => ?_) k2 b3
          rw [e9, if_pos]
          · exact ⟨rfl, rfl, rfl⟩
          · rcases Nat.eq_zero_or_pos k with q | q
            · subst q
              left
              show (-1 : Int) < sz
              omega
            · obtain ⟨x1, x2, x3⟩ := h1 q
              rw [← x2, ← x3]
              omega
        have no : ¬ (k = 0 ∨ b < sz ∨ (sz = b ∧ sSp σ.1 (-30 + 10 * k) < c)) → jS g ad m_X9_bestHeat κ 61 [some (.ref 82), some (.int (ii a)), some (.int (ii b)), some (.int (ii c)), some (.int (ii (-30 + 10 * k))), some (.int 0)] [] μ2 := by
          intro hno
          refine sX9_bestHeat_61 hE _ _ _ _ _ ⟨fun _ => sX9_bestHeat_76 hE _ _ _ _ _ ⟨fun _ => sX9_bestHeat_90 hE _ _ _ _ _ ⟨fun _ => ?_, fun q => absurd rfl q⟩, fun q => absurd rfl q⟩, fun q => absurd rfl q⟩
          rw [e10]
          obtain ⟨x1, x2, x3⟩ := h1 (by omega)
          refine ih (k + 1) _ _ _ μ2 (by omega) (fun q => by omega) (fun _ => ?_) k2 b3
          rw [e9, if_neg]
          · exact ⟨x1, x2, x3⟩
          · rw [← x2, ← x3]
            omega
        rw [s.2.1, hsz, e_m6, ii_eq (by omega) (by decide), ii_lt (by omega) (by omega), ii_eq (by omega) (by omega)]
        refine ⟨fun q => yes ?_, fun q => ⟨fun q2 => yes (by omega), fun q2 => ⟨fun q3 => no ?_, fun q3 => ?_⟩⟩⟩
        · rcases Nat.eq_zero_or_pos k with q2 | q2
          · exact Or.inl q2
          · have := h1 q2; omega
        · rcases Nat.eq_zero_or_pos k with q4 | q4
          · have := h0 q4; omega
          · omega
        · have hk0 : k ≠ 0 := by
            intro q4
            have := h0 q4
            omega
          refine c_X9_sumOfSpreads s (sX9_bestHeat_50 hE _ _ _ _ _ ?_)
          rw [eS, ii_le (by omega) (by omega)]
          exact ⟨fun q4 => no (by omega), fun q4 => yes (by omega)⟩
  refine sX9_bestHeat_0 hE ?_
  exact key 9 0 (-6) 0 0 μ (by omega) (fun _ => ⟨rfl, rfl, rfl⟩) (fun q => by omega) hc (fun _ _ => rfl)
end JMB
