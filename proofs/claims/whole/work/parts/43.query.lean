section JQY
variable {g : jm_G} {ad : Nat → Nat} {P : Option Value → (Nat → Nat → Int32) → Prop}
theorem CI.scr {μ μ' : Nat → Nat → Int32} {σ : sT} (h : CI μ σ) (hF : FI μ') (hS : ST μ' σ.1) (hk : ∀ c : Nat, c ≠ 0 → ¬ (29 ≤ c ∧ c ≤ 75) → μ' c = μ c) : CI μ' σ := by
  obtain ⟨a, b, c, d, e, f, s⟩ := h
  exact ⟨a.kept (hk _ (by decide) (by omega)) (hk _ (by decide) (by omega)) (hk _ (by decide) (by omega)), b, c.kept (fun k _ h2 => hk k (by omega) (by omega)), d.kept (hk _ (by decide) (by omega)) (fun k h1 h2 => hk k (by omega) (by omega)), e.kept (hk _ (by decide) (by omega)) (hk _ (by decide) (by omega)), hF, hS⟩
theorem FI.of {μ : Nat → Nat → Int32} {t : Int} (ht : -30 ≤ t ∧ t ≤ 50) (hD : FD μ) (hT : FTm μ (spd t)) : FI μ := ⟨hD, Or.inr ⟨spd t, (spd_rng ht.1 ht.2).1, (spd_rng ht.1 ht.2).2, hT⟩⟩
theorem c_cur {μ : Nat → Nat → Int32} {σ : sT} (hc : CI μ σ) (hp : ∀ μ' : Nat → Nat → Int32, CI μ' σ → FD μ' → FTm μ' (spd (σ.1.1 0)) → SH μ' 38 (fdT σ) → aB μ μ' → P (some (.ref 38)) μ') : jD g ad m_X8_current [.ref 0] μ P :=
  c_X8_current hc.1 hc.2.1 hc.2.2.2.2.2.1 hc.2.2.2.2.2.2 (fun μ' d t s h k => hp μ' (hc.scr (FI.of hc.2.1.1 d t) s (fun c c1 c2 => k c c1 (by omega))) d t h (fun c cc => k c (by omega) (by omega)))
theorem c_try {μ : Nat → Nat → Int32} {σ : sT} {t z : Int} (hc : CI μ σ) (ht : -30 ≤ t ∧ t ≤ 50) (hz : ir z) (hp : ∀ μ' : Nat → Nat → Int32, CI μ' σ → SH μ' 57 (fd σ.1 t z) → aB μ μ' → P none μ') : jD g ad m_X8_tryOut [.ref 0, .int (ii t), .int (ii z)] μ P :=
  c_X8_tryOut hc.1 hc.2.1 hc.2.2.2.2.2.1 ht hz (fun μ' f s k => hp μ' (hc.scr f (hc.2.2.2.2.2.2.kept (k 0 (by omega) (by omega)) (fun c c1 c2 => k c (by omega) (by omega))) (fun c c1 c2 => k c (by omega) (by omega))) s (fun c cc => k c (by omega) (by omega)))
theorem c_tun {μ : Nat → Nat → Int32} {σ : sT} (hc : CI μ σ) (hp : ∀ μ' : Nat → Nat → Int32, CI μ' σ → FD μ' → FTm μ' (spd (σ.1.1 0)) → aB μ μ' → P none μ') : jD g ad m_X2_tune [.ref 29, .int (ii (σ.1.1 0))] μ P :=
  c_X2_tune hc.2.1.1 hc.2.2.2.2.2.1 (fun μ' d t k => hp μ' (hc.scr (FI.of hc.2.1.1 d t) (hc.2.2.2.2.2.2.kept (k 0 (by decide) (by decide)) (fun c c1 c2 => k c (by omega) (by omega))) (fun c c1 c2 => k c (by omega) (by omega))) d t (fun c cc => k c (by omega) (by omega)))
theorem c_X8_takes {μ : Nat → Nat → Int32} {σ : sT} {x y e : Int} (hc : CI μ σ) (hx : ir x) (hy : ir y) (he : ir e) (hp : ∀ μ' : Nat → Nat → Int32, CI μ' σ → aB μ μ' → P (some (.int (ii (opTakes σ x y e)))) μ') : jD g ad m_X8_takes [.ref 0, .int (ii x), .int (ii y), .int (ii e)] μ P := by
  refine jd_intro [some (.ref 0), some (.int (ii x)), some (.int (ii y)), some (.int (ii e))] (by decide) rfl rfl (fun κ hE => ?_)
  unfold opTakes at hp
  refine sX8_takes_0 hE _ _ _ (c_X8_isPoint hx hy (fun x1 x2 y1 y2 => sX8_takes_5 hE _ _ _ _ ⟨fun c => absurd c (by decide), fun _ => ?_⟩) (fun c => sX8_takes_5 hE _ _ _ _ ⟨fun _ => ?_, fun c2 => absurd rfl c2⟩))
  · refine c_X8_isEar he (fun e1 e2 => sX8_takes_12 hE _ _ _ _ ⟨fun _ => ?_, fun c => absurd c (by decide)⟩) (fun c => sX8_takes_12 hE _ _ _ _ ⟨fun c2 => absurd rfl c2, fun _ => ?_⟩)
    · rw [if_pos (by omega)] at hp
      have s0 : μ 2 0 = ii (σ.1.1 0) := hc.1.1 0 (by omega)
      rw [s0]
      exact c_tun hc (fun μ1 k d t b => sX8_takes_33 hE _ _ _ (c_X2_crackTime t (by omega) (by omega) (by omega) (sX8_takes_43 hE _ (hp μ1 k b))))
    · rw [if_neg (by omega)] at hp
      rw [e_m1]
      exact hp μ hc (fun _ _ => rfl)
  · rw [if_neg (by omega)] at hp
    rw [e_m1]
    exact hp μ hc (fun _ _ => rfl)
theorem c_X8_pulse {μ : Nat → Nat → Int32} {σ : sT} {z w : Int} (hc : CI μ σ) (hz : ir z) (hw : ir w) (hp : ∀ μ' : Nat → Nat → Int32, CI μ' σ → aB μ μ' → P (some (.int (ii (opPulse σ z w)))) μ') : jD g ad m_X8_pulse [.ref 0, .int (ii z), .int (ii w)] μ P := by
  refine jd_intro [some (.ref 0), some (.int (ii z)), some (.int (ii w))] (by decide) rfl rfl (fun κ hE => ?_)
  have hB := hc.2.1.2.2.2.2.1
  have hn := hc.2.1.2.2.2.1
  unfold opPulse at hp
  refine sX8_pulse_0 hE _ _ (c_X3_isPulse jm_heard1 hc.1.2 hz (fun j e1 e2 => sX8_pulse_8 hE _ _ _ ⟨fun _ => ?_, fun c => absurd c (by decide)⟩) (fun c => sX8_pulse_8 hE _ _ _ ⟨fun c2 => absurd rfl c2, fun _ => ?_⟩))
  · subst e1
    rw [if_neg (by omega), Int.toNat_natCast] at hp
    rw [ii_toInt hw.1 hw.2]
    refine ⟨fun c => ?_, fun c => ?_, fun c => ?_, fun c => ?_⟩
    · rw [if_neg (by omega), if_neg (by omega), if_neg (by omega)] at hp
      rw [e_m2]
      exact hp μ hc (fun _ _ => rfl)
    · rw [if_pos c] at hp
      exact c_X3_earOf jm_heard1 hc.1.2 hB e2 (sX8_pulse_48 hE _ (hp μ hc (fun _ _ => rfl)))
    · rw [if_neg (by omega), if_pos c] at hp
      exact c_X3_timeOf jm_heard1 hc.1.2 hB e2 (sX8_pulse_57 hE _ (hp μ hc (fun _ _ => rfl)))
    · rw [if_neg (by omega), if_neg (by omega), if_pos c] at hp
      refine c_cur hc (fun μ1 k d t s b => sX8_pulse_62 hE _ ⟨ii_in (by omega) (by omega) (by omega), ?_⟩)
      rw [ii_natN (by omega), show μ1 40 j = ii ((fdT σ).1 j) from s.1 j (by omega)]
      exact hp μ1 k b
  · rw [if_pos c] at hp
    rw [e_m1]
    exact hp μ hc (fun _ _ => rfl)
theorem c_X8_shot {μ : Nat → Nat → Int32} {σ : sT} {z w : Int} (hc : CI μ σ) (hz : ir z) (hw : ir w) (hp : ∀ μ' : Nat → Nat → Int32, CI μ' σ → aB μ μ' → P (some (.int (ii (opShot σ z w)))) μ') : jD g ad m_X8_shot [.ref 0, .int (ii z), .int (ii w)] μ P := by
  refine jd_intro [some (.ref 0), some (.int (ii z)), some (.int (ii w)), none] (by decide) rfl rfl (fun κ hE => ?_)
  unfold opShot at hp
  refine sX8_shot_0 hE _ _ (c_cur hc (fun μ1 k d t s b => sX8_shot_4 hE _ _ (c_X7_isShot jm_shots38 s hz (fun j e1 e2 => sX8_shot_10 hE _ _ _ ⟨fun _ => ?_, fun c => absurd c (by decide)⟩) (fun c => sX8_shot_10 hE _ _ _ ⟨fun c2 => absurd rfl c2, fun _ => ?_⟩))))
  · subst e1
    have h8 := s.2.2.1
    rw [if_pos (by omega), Int.toNat_natCast] at hp
    refine ⟨ii_in (by omega) (by omega) (by omega), ?_⟩
    rw [ii_natN (by omega)]
    exact c_X6_tell (jm_shots38.2.2.2 j (by omega)) (s.2.2.2 j e2) hw (sX8_shot_25 hE _ (hp μ1 k b))
  · rw [if_neg c] at hp
    rw [e_m1]
    exact hp μ1 k b
theorem c_X8_fits {μ : Nat → Nat → Int32} {σ : sT} {z x y : Int} (hc : CI μ σ) (hz : ir z) (hx : ir x) (hy : ir y) (hp : ∀ μ' : Nat → Nat → Int32, CI μ' σ → aB μ μ' → P (some (.int (ii (opFits σ z x y)))) μ') : jD g ad m_X8_fits [.ref 0, .int (ii z), .int (ii x), .int (ii y)] μ P := by
  refine jd_intro [some (.ref 0), some (.int (ii z)), some (.int (ii x)), some (.int (ii y)), none] (by decide) rfl rfl (fun κ hE => ?_)
  unfold opFits at hp
  have hok := (fd_ok (z := -1) hc.2.1 hc.2.1.1).2.2
  have hsp := spd_rng hc.2.1.1.1 hc.2.1.1.2
  refine sX8_fits_0 hE _ _ _ (c_cur hc (fun μ1 k d t s b => sX8_fits_4 hE _ _ _ (c_X7_isShot jm_shots38 s hz (fun j e1 e2 => sX8_fits_12 hE _ _ _ _ ⟨fun c => absurd c (by decide), fun _ => ?_⟩) (fun c => sX8_fits_12 hE _ _ _ _ ⟨fun _ => ?_, fun c2 => absurd rfl c2⟩))))
  · subst e1
    have h8 := s.2.2.1
    refine c_X8_isPoint hx hy (fun x1 x2 y1 y2 => sX8_fits_20 hE _ _ _ _ ⟨fun _ => ?_, fun c => absurd c (by decide)⟩) (fun c => sX8_fits_20 hE _ _ _ _ ⟨fun c2 => absurd rfl c2, fun _ => ?_⟩)
    · rw [if_pos (by omega), Int.toNat_natCast] at hp
      refine ⟨ii_in (by omega) (by omega) (by omega), ?_⟩
      rw [ii_natN (by omega)]
      refine c_X0_spreadOf (h := σ.1) (jm_shots38.2.2.2 j (by omega)) (by omega) k.1 hc.2.1.2.2.2.2.1 (s.2.2.2 j e2) (hok j e2).2.2.2 (by omega) t (by omega) (by omega) (fun μ2 a2 => sX8_fits_49 hE _ ?_)
      refine hp μ2 (k.scr ((k.2.2.2.2.2.1).kept (a2 _ (by decide)) (a2 _ (by decide)) (a2 _ (by decide))) (k.2.2.2.2.2.2.kept (a2 _ (by decide)) (fun c c1 _ => a2 c (by omega))) (fun c c1 c2 => a2 c (by omega))) (fun c cc => by rw [a2 c (by omega)]; exact b c cc)
    · rw [if_neg (by omega)] at hp
      rw [e_m1]
      exact hp μ1 k b
  · rw [if_neg (by omega)] at hp
    rw [e_m1]
    exact hp μ1 k b
theorem sumK_rng {φ : sR → Int} {sh : Nat → sR} {lo hi : Int} : ∀ k : Nat, (∀ j : Nat, j < k → lo ≤ φ (sh j) ∧ φ (sh j) ≤ hi) → lo * k ≤ sumK φ sh k ∧ sumK φ sh k ≤ hi * k := by
  intro k
  induction k with
  | zero => intro _; show lo * ((0 : Nat) : Int) ≤ 0 ∧ 0 ≤ hi * ((0 : Nat) : Int); simp
  | succ k ih =>
    intro h
    have h1 := ih (fun j hj => h j (by omega))
    have h2 := h k (by omega)
    have e1 : lo * ((k + 1 : Nat) : Int) = lo * k + lo := by rw [Int.natCast_add, Int.mul_add]; simp
    have e2 : hi * ((k + 1 : Nat) : Int) = hi * k + hi := by rw [Int.natCast_add, Int.mul_add]; simp
    show lo * ((k + 1 : Nat) : Int) ≤ sumK φ sh k + φ (sh k) ∧ sumK φ sh k + φ (sh k) ≤ hi * ((k + 1 : Nat) : Int)
    omega
theorem c_X8_mean {μ : Nat → Nat → Int32} {σ : sT} {w : Int} (hc : CI μ σ) (hw : ir w) (hp : ∀ μ' : Nat → Nat → Int32, CI μ' σ → aB μ μ' → P (some (.int (ii (opMean σ w)))) μ') : jD g ad m_X8_mean [.ref 0, .int (ii w)] μ P := by
  refine jd_intro [some (.ref 0), some (.int (ii w)), none] (by decide) rfl rfl (fun κ hE => ?_)
  unfold opMean at hp
  have hok := (fd_ok (z := -1) hc.2.1 hc.2.1.1).2
  have go : w = 0 ∨ w = 1 → jD g ad m_X8_current [.ref 0] μ (fun v μ' => jS g ad m_X8_mean κ 16 [none, some (.int (ii w)), none] (jm_ps v []) μ') := by
    intro hw1
    rw [if_neg (by omega)] at hp
    refine c_cur hc (fun μ1 k d t s b => sX8_mean_16 hE _ ?_)
    have h8 : (fdT σ).2.2 ≤ 8 := hok.1
    rw [s.2.1]
    refine ⟨fun c => ⟨fun c2 => ?_, fun c2 => ?_⟩, fun c => ?_⟩
    · rw [ii_0, ii_eq (by omega) (by omega)] at c
      rw [ii_0, ii_eq (by omega) (by omega)] at c2
      have hr := sumK_rng (φ := fun s => s.2.2.1) (sh := (fdT σ).2.1) (lo := 0) (hi := 40) (fdT σ).2.2 (fun j hj => by have := (hok.2 j hj).1; unfold pt at this; exact ⟨this.2.2.1, this.2.2.2⟩)
      have h8 : (fdT σ).2.2 ≤ 8 := hok.1
      rw [if_neg (by omega), if_neg (by omega)] at hp
      refine c_X7_sumOfY jm_shots38 s (sX8_mean_42 hE _ ⟨?_, ?_⟩)
      · rw [s.2.1, ii_0]; exact fun q => c ((ii_eq (by omega) (by omega)).mp q)
      · rw [s.2.1, ii_lit, ii_mul, ii_div (by omega) (by omega) (by omega) (by omega)]
        exact hp μ1 k b
    · rw [ii_0, ii_eq (by omega) (by omega)] at c
      rw [ii_0, ii_eq (by omega) (by omega)] at c2
      have hr := sumK_rng (φ := fun s => s.2.1) (sh := (fdT σ).2.1) (lo := 0) (hi := 40) (fdT σ).2.2 (fun j hj => by have := (hok.2 j hj).1; unfold pt at this; exact ⟨this.1, this.2.1⟩)
      have h8 : (fdT σ).2.2 ≤ 8 := hok.1
      rw [if_neg (by omega), if_pos c2] at hp
      refine c_X7_sumOfX jm_shots38 s (sX8_mean_35 hE _ ⟨?_, ?_⟩)
      · rw [s.2.1, ii_0]; exact fun q => c ((ii_eq (by omega) (by omega)).mp q)
      · rw [s.2.1, ii_lit, ii_mul, ii_div (by omega) (by omega) (by omega) (by omega)]
        exact hp μ1 k b
    · have h8 : (fdT σ).2.2 ≤ 8 := hok.1
      rw [ii_0, ii_eq (by omega) (by omega)] at c
      rw [if_pos (by omega)] at hp
      rw [e_m6]
      exact hp μ1 k b
  refine sX8_mean_0 hE _ ⟨fun c => ?_, fun c => ⟨fun c2 => ?_, fun c2 => ?_⟩⟩
  · rw [ii_0, ii_eq (by omega) (by omega)] at c
    exact go (by omega)
  · rw [ii_1, ii_eq (by omega) (by omega)] at c2
    exact go (by omega)
  · rw [ii_0, ii_eq (by omega) (by omega)] at c
    rw [ii_1, ii_eq (by omega) (by omega)] at c2
    rw [if_pos (by omega)] at hp
    rw [e_m2]
    exact hp μ hc (fun _ _ => rfl)
theorem c_X8_ifHeat {μ : Nat → Nat → Int32} {σ : sT} {t w : Int} (hg : gOK g) (hc : CI μ σ) (ht : ir t) (hw : ir w) (hp : ∀ μ' : Nat → Nat → Int32, CI μ' σ → aB μ μ' → P (some (.int (ii (opIfHeat σ t w)))) μ') : jD g ad m_X8_ifHeat [.ref 0, .int (ii t), .int (ii w)] μ P := by
  refine jd_intro [some (.ref 0), some (.int (ii t)), some (.int (ii w))] (by decide) rfl rfl (fun κ hE => ?_)
  obtain ⟨g0, g1, g2⟩ := hg
  have g3 := g2 0 (by decide) (by decide)
  have z0 : (0 : Int32).toNatClampNeg = (0 : Int).toNat := by decide
  unfold opIfHeat at hp
  refine sX8_ifHeat_0 hE _ _ ⟨by rw [g0]; exact jm_inD (by decide), ?_⟩
  rw [z0, g3.1, g3.2]
  show (ii t < ii (-30) → _) ∧ (¬ ii t < ii (-30) → _ ∧ (ii t ≤ ii 50 → _) ∧ (¬ ii t ≤ ii 50 → _))
  rw [ii_lt (by omega) (by omega), ii_le (by omega) (by omega), e_m2]
  have no : (¬ (-30 ≤ t ∧ t ≤ 50) ∨ ¬ (0 ≤ w ∧ w ≤ 2)) → P (some (.int (ii (-2)))) μ := by
    intro c
    rw [if_pos c] at hp
    exact hp μ hc (fun _ _ => rfl)
  refine ⟨fun c => no (by omega), fun c => ⟨by rw [g1]; exact jm_inD (by decide), fun c2 => ⟨fun c3 => ?_, fun c3 => ⟨fun c4 => ?_, fun c4 => ?_⟩⟩, fun c2 => no (by omega)⟩⟩
  · simp (disch := omega) only [ii_lit, ii_neg, ii_add, ii_sub, ii_mul, ii_lt, ii_le, ii_eq] at c3
    exact no (by omega)
  · simp (disch := omega) only [ii_lit, ii_neg, ii_add, ii_sub, ii_mul, ii_lt, ii_le, ii_eq] at c3 c4
    rw [if_neg (by omega)] at hp
    rw [e_m1]
    refine c_try hc (by omega) (by omega) (fun μ1 k s b => sX8_ifHeat_39 hE _ ?_)
    rw [ii_toInt hw.1 hw.2, s.2.1]
    refine ⟨fun c5 => ?_, fun c5 => ?_, fun c5 c6 => ?_⟩
    · rw [if_pos c5] at hp
      exact hp μ1 k b
    · rw [if_neg (by omega), if_pos c5] at hp
      exact c_X7_sumOfRings jm_shots57 s (sX8_ifHeat_83 hE _ (hp μ1 k b))
    · rw [if_neg c5, if_neg c6] at hp
      exact c_X7_sumOfSpreads jm_shots57 s (sX8_ifHeat_91 hE _ (hp μ1 k b))
  · simp (disch := omega) only [ii_lit, ii_neg, ii_add, ii_sub, ii_mul, ii_lt, ii_le, ii_eq] at c3 c4
    exact no (by omega)
theorem sSp_rng {h : sH} {t : Int} (hv : vH h) (ht : -30 ≤ t ∧ t ≤ 50) : 0 ≤ sSp h t ∧ sSp h t ≤ 2400 := by
  have hok := (fd_ok (z := -1) hv ht).2
  have hr := sumK_rng (φ := fun s => s.2.2.2.1) (sh := (fd h t (-1)).2.1) (lo := 0) (hi := 300) (fd h t (-1)).2.2 (fun j hj => by have := hok.2 j hj; have := hv.2.2.1; exact ⟨(hok.2 j hj).2.1, by have := (hok.2 j hj).2.2.1; omega⟩)
  unfold sSp
  omega
theorem bhK_rng {h : sH} (hv : vH h) : ∀ k : Nat, k ≤ 9 → (-30 ≤ (bhK h k).1 ∧ (bhK h k).1 ≤ 50) ∧ (-1 ≤ (bhK h k).2.1 ∧ (bhK h k).2.1 ≤ 8) ∧ (0 ≤ (bhK h k).2.2 ∧ (bhK h k).2.2 ≤ 2400) := by
  intro k
  induction k with
  | zero => intro _; show (-30 ≤ (-30 : Int) ∧ (-30 : Int) ≤ 50) ∧ (-1 ≤ (-1 : Int) ∧ (-1 : Int) ≤ 8) ∧ (0 ≤ (0 : Int) ∧ (0 : Int) ≤ 2400); omega
  | succ k ih =>
    intro hk
    have h1 := ih (by omega)
    have h2 := sSp_rng (t := -30 + 10 * k) hv (by omega)
    have h3 := (fd_ok (z := -1) (heat := -30 + 10 * k) hv (by omega)).2.1
    unfold bhK
    split
    · refine ⟨?_, ?_, ?_⟩
      · show -30 ≤ -30 + 10 * (k : Int) ∧ -30 + 10 * (k : Int) ≤ 50
        omega
      · show -1 ≤ ((fd h (-30 + 10 * k) (-1)).2.2 : Int) ∧ ((fd h (-30 + 10 * k) (-1)).2.2 : Int) ≤ 8
        omega
      · exact h2
    · exact h1
theorem c_X8_bestHeat {μ : Nat → Nat → Int32} {σ : sT} (hg : gOK g) (hc : CI μ σ) (hp : ∀ μ' : Nat → Nat → Int32, CI μ' σ → aB μ μ' → P (some (.int (ii (opBestHeat σ)))) μ') : jD g ad m_X8_bestHeat [.ref 0] μ P := by
  refine jd_intro [some (.ref 0), none, none, none, none, none] (by decide) rfl rfl (fun κ hE => ?_)
  obtain ⟨g0, g1, g2⟩ := hg
  have g3 := g2 0 (by decide) (by decide)
  have z0 : (0 : Int32).toNatClampNeg = (0 : Int).toNat := by decide
  have hv := hc.2.1
  have key : ∀ (m k : Nat) (μ1 : Nat → Nat → Int32), k + m = 9 → CI μ1 σ → aB μ μ1 → jS g ad m_X8_bestHeat κ 17 [some (.ref 0), some (.int (ii (bhK σ.1 k).1)), some (.int (ii (bhK σ.1 k).2.1)), some (.int (ii (bhK σ.1 k).2.2)), some (.int (ii (-30 + 10 * k))), none] [] μ1 := by
    intro m
    induction m with
    | zero =>
      intro k μ1 hk hc1 b1
      refine sX8_bestHeat_17 hE _ _ _ _ ⟨by rw [g1]; exact jm_inD (by decide), fun c => ?_, fun c => ?_⟩
      · have e : k = 9 := by omega
        subst e
        rw [ii_lit 100, ii_add]
        exact hp μ1 hc1 b1
      · rw [z0, g3.2] at c
        rw [show hiS 0 = 50 from rfl, ii_lt (by omega) (by omega)] at c
        omega
    | succ m ih =>
      intro k μ1 hk hc1 b1
      have hb := bhK_rng hv k (by omega)
      have hs := sSp_rng (t := -30 + 10 * k) hv (by omega)
      have hf := (fd_ok (z := -1) (heat := -30 + 10 * k) hv (by omega)).2.1
      refine sX8_bestHeat_17 hE _ _ _ _ ⟨by rw [g1]; exact jm_inD (by decide), fun c => ?_, fun _ => ?_⟩
      · rw [z0, g3.2] at c
        rw [show hiS 0 = 50 from rfl, ii_lt (by omega) (by omega)] at c
        omega
      · rw [e_m1]
        refine c_try hc1 (by omega) (by omega) (fun μ2 k2 s2 b2 => sX8_bestHeat_34 hE _ _ _ _ (c_X7_sumOfSpreads jm_shots57 s2 (sX8_bestHeat_41 hE _ _ _ _ _ ?_)))
        have h9 := ih (k + 1) μ2 (by omega) k2 (fun c cc => by rw [b2 c cc]; exact b1 c cc)
        have e9 : bhK σ.1 (k + 1) = if (bhK σ.1 k).2.1 < (((fd σ.1 (-30 + 10 * (k : Int)) (-1)).2.2 : Nat) : Int) ∨ ((((fd σ.1 (-30 + 10 * (k : Int)) (-1)).2.2 : Nat) : Int) = (bhK σ.1 k).2.1 ∧ sSp σ.1 (-30 + 10 * (k : Int)) < (bhK σ.1 k).2.2) then ((-30 + 10 * (k : Int) : Int), (((fd σ.1 (-30 + 10 * (k : Int)) (-1)).2.2 : Nat) : Int), sSp σ.1 (-30 + 10 * (k : Int))) else bhK σ.1 k := rfl
        have e10 : ii (-30 + 10 * (k : Int)) + 10 = ii (-30 + 10 * ((k + 1 : Nat) : Int)) := by
          rw [ii_lit 10, ii_add]
          congr 1
          show -30 + 10 * (k : Int) + 10 = _
          omega
        have eS : sumK (fun s => s.2.2.2.1) (fd σ.1 (-30 + 10 * k) (-1)).2.1 (fd σ.1 (-30 + 10 * k) (-1)).2.2 = sSp σ.1 (-30 + 10 * k) := rfl
        rw [e9] at h9
        rw [s2.2.1, eS, e10, ii_lt (by omega) (by omega), ii_eq (by omega) (by omega), ii_le (by omega) (by omega)]
        refine ⟨fun c => ?_, fun c => ⟨fun c2 => ?_, fun c2 => ⟨fun c3 => ?_, fun c3 => ?_⟩⟩⟩
        · rw [if_pos (Or.inl c)] at h9
          exact h9
        · rw [if_neg (by omega)] at h9
          exact h9
        · rw [if_neg (by omega)] at h9
          exact h9
        · rw [if_pos (Or.inr (by omega))] at h9
          exact h9
  refine sX8_bestHeat_0 hE ⟨by rw [g0]; exact jm_inD (by decide), by rw [g0]; exact jm_inD (by decide), ?_⟩
  rw [z0, g3.1]
  exact key 9 0 μ (by omega) hc (fun _ _ => rfl)
theorem c_X8_ifForgot {μ : Nat → Nat → Int32} {σ : sT} {z : Int} (hc : CI μ σ) (hz : ir z) (hp : ∀ μ' : Nat → Nat → Int32, CI μ' σ → aB μ μ' → P (some (.int (ii (opIfForgot σ z)))) μ') : jD g ad m_X8_ifForgot [.ref 0, .int (ii z)] μ P := by
  refine jd_intro [some (.ref 0), some (.int (ii z))] (by decide) rfl rfl (fun κ hE => ?_)
  unfold opIfForgot at hp
  refine sX8_ifForgot_0 hE _ (c_X3_isPulse jm_heard1 hc.1.2 hz (fun j e1 e2 => sX8_ifForgot_8 hE _ _ ⟨fun _ => ?_, fun c => absurd c (by decide)⟩) (fun c => sX8_ifForgot_8 hE _ _ ⟨fun c2 => absurd rfl c2, fun _ => ?_⟩))
  · rw [if_pos (by omega)] at hp
    have s0 : μ 2 0 = ii (σ.1.1 0) := hc.1.1 0 (by omega)
    rw [s0]
    refine c_try hc hc.2.1.1 hz (fun μ1 k s b => sX8_ifForgot_27 hE ?_)
    rw [s.2.1]
    exact hp μ1 k b
  · rw [if_neg c] at hp
    rw [e_m1]
    exact hp μ hc (fun _ _ => rfl)
theorem c_X8_count {μ : Nat → Nat → Int32} {σ : sT} {w : Int} (hc : CI μ σ) (hw : ir w) (hp : ∀ μ' : Nat → Nat → Int32, CI μ' σ → aB μ μ' → P (some (.int (ii (opCount σ w)))) μ') : jD g ad m_X8_count [.ref 0, .int (ii w)] μ P := by
  refine jd_intro [some (.ref 0), some (.int (ii w))] (by decide) rfl rfl (fun κ hE => ?_)
  have hpt : ∀ k : Nat, k < (fdT σ).2.2 → pt ((fdT σ).2.1 k).2.1 ((fdT σ).2.1 k).2.2.1 := fun k hk => ((fd_ok (z := -1) hc.2.1 hc.2.1.1).2.2 k hk).1
  have hh : μ 4 2 = ii σ.2.1.length := by
    obtain ⟨old, x1, x2, x3, x4⟩ := hc.2.2.1
    exact x3
  have s0 : μ 2 0 = ii (σ.1.1 0) := hc.1.1 0 (by omega)
  have s1 : μ 2 1 = ii (σ.1.1 1) := hc.1.1 1 (by omega)
  have s2 : μ 2 2 = ii (σ.1.1 2) := hc.1.1 2 (by omega)
  unfold opCount at hp
  refine sX8_count_0 hE _ ?_
  rw [ii_toInt hw.1 hw.2, hc.1.2.1, s0, s1, s2, hh, hc.2.2.2.2.1.1, e_m2]
  refine ⟨fun c => ?_, fun c => ?_, fun c => ?_, fun c => ?_, fun c => ?_, fun c => ?_, fun c => ?_, fun c => ?_, fun c => ?_, fun c => ?_, fun c => ?_, fun c => ?_, fun c => ?_, fun c => ?_⟩
  · rw [if_neg (by omega), if_neg (by omega), if_neg (by omega), if_neg (by omega), if_neg (by omega), if_neg (by omega), if_neg (by omega), if_neg (by omega), if_neg (by omega), if_neg (by omega), if_neg (by omega), if_neg (by omega), if_neg (by omega)] at hp
    exact hp μ hc (fun _ _ => rfl)
  · subst c
    exact hp μ hc (fun _ _ => rfl)
  · subst c
    refine c_cur hc (fun μ1 k d t s b => sX8_count_80 hE ?_)
    rw [s.2.1]
    exact hp μ1 k b
  · subst c
    refine c_cur hc (fun μ1 k d t s b => sX8_count_96 hE _ _ ?_)
    rw [s.2.1, ii_4, ii_mul, ii_sub]
    exact hp μ1 k b
  · subst c
    exact c_cur hc (fun μ1 k d t s b => sX8_count_106 hE (c_X7_sumOfRings jm_shots38 s (sX8_count_109 hE _ (hp μ1 k b))))
  · subst c
    exact c_cur hc (fun μ1 k d t s b => sX8_count_114 hE (c_X7_withGreatestRing jm_shots38 s hpt (sX8_count_117 hE _ (hp μ1 k b))))
  · subst c
    exact c_cur hc (fun μ1 k d t s b => sX8_count_122 hE (c_X7_sumOfSpreads jm_shots38 s (sX8_count_125 hE _ (hp μ1 k b))))
  · subst c
    exact c_cur hc (fun μ1 k d t s b => sX8_count_130 hE (c_X7_widest jm_shots38 d s hpt (sX8_count_137 hE _ (hp μ1 k b))))
  · subst c
    exact c_X2_speedAt hc.2.1.1 (sX8_count_150 hE _ (hp μ hc (fun _ _ => rfl)))
  · subst c
    rw [ii_lit 100, ii_add]
    exact hp μ hc (fun _ _ => rfl)
  · subst c
    exact hp μ hc (fun _ _ => rfl)
  · subst c
    exact hp μ hc (fun _ _ => rfl)
  · subst c
    exact hp μ hc (fun _ _ => rfl)
  · subst c
    exact hp μ hc (fun _ _ => rfl)
end JQY
