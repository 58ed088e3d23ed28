section JOP
variable {g : jm_G} {ad : Nat → Nat} {P : Option Value → (Nat → Nat → Int32) → Prop}
def slR (μ : Nat → Nat → Int32) (sl : Nat → Option sH) : Prop := ∀ i : Nat, i < 2 → (sl i = none → μ 25 i = ii 0) ∧ ∀ h : sH, sl i = some h → μ 25 i = ii 1 ∧ HR μ (76 + 3 * i) h ∧ vH h
def pdR (μ : Nat → Nat → Int32) (pad : List Int) : Prop := μ 26 2 = ii pad.length ∧ pad.length ≤ 80 ∧ ∀ (k : Nat) (c : Int), pad[k]? = some c → μ 27 k = ii c ∧ 33 ≤ c ∧ c ≤ 126
/-- the class holds the state -/
def CI (μ : Nat → Nat → Int32) (σ : sT) : Prop := HR μ 1 σ.1 ∧ vH σ.1 ∧ HI μ σ.2.1 ∧ slR μ σ.2.2.1 ∧ pdR μ σ.2.2.2 ∧ FI μ ∧ ST μ σ.1
theorem slR.kept {μ μ' : Nat → Nat → Int32} {sl : Nat → Option sH} (h : slR μ sl) (h25 : μ' 25 = μ 25) (hk : ∀ c : Nat, 76 ≤ c → c ≤ 81 → μ' c = μ c) : slR μ' sl := by
  intro i hi
  obtain ⟨a, b⟩ := h i hi
  refine ⟨fun e => by rw [h25]; exact a e, fun x e => ?_⟩
  obtain ⟨b1, b2, b3⟩ := b x e
  exact ⟨by rw [h25]; exact b1, b2.kept (hk _ (by omega) (by omega)) (hk _ (by omega) (by omega)) (hk _ (by omega) (by omega)), b3⟩
theorem pdR.kept {μ μ' : Nat → Nat → Int32} {pad : List Int} (h : pdR μ pad) (h26 : μ' 26 = μ 26) (h27 : μ' 27 = μ 27) : pdR μ' pad := by
  unfold pdR
  rw [h26, h27]
  exact h
def aB (μ μ' : Nat → Nat → Int32) : Prop := ∀ c : Nat, 82 ≤ c → μ' c = μ c
theorem CI.kept {μ μ' : Nat → Nat → Int32} {σ : sT} (h : CI μ σ) (hk : ∀ c : Nat, c < 82 → μ' c = μ c) : CI μ' σ := by
  obtain ⟨a, b, c, d, e, f, s⟩ := h
  exact ⟨a.kept (hk _ (by omega)) (hk _ (by omega)) (hk _ (by omega)), b, c.kept (fun k _ h2 => hk k (by omega)), d.kept (hk _ (by omega)) (fun k _ h2 => hk k (by omega)), e.kept (hk _ (by omega)) (hk _ (by omega)), f.kept (hk _ (by omega)) (hk _ (by omega)) (hk _ (by omega)), s.kept (hk _ (by omega)) (fun k _ h2 => hk k (by omega))⟩
/-- the arrays of bounds -/
def gOK (g : jm_G) : Prop := g.2.2.2.2.1 0 = 3 ∧ g.2.2.2.2.1 1 = 3 ∧ ∀ a : Int, 0 ≤ a → a ≤ 2 → g.2.2.2.2.2 0 a.toNat = ii (loS a) ∧ g.2.2.2.2.2 1 a.toNat = ii (hiS a)
theorem loS_rng (a : Int) : -30 ≤ loS a ∧ loS a ≤ 100 := by
  unfold loS
  split
  · omega
  · split <;> omega
theorem hiS_rng (a : Int) : 50 ≤ hiS a ∧ hiS a ≤ 4000 := by
  unfold hiS
  split
  · omega
  · split <;> omega
theorem e_m1 : (-1 : Int32) = ii (-1) := by decide
theorem e_m2 : (-2 : Int32) = ii (-2) := by decide
theorem e_m3 : (-3 : Int32) = ii (-3) := by decide
theorem e_m4 : (-4 : Int32) = ii (-4) := by decide
theorem e_m5 : (-5 : Int32) = ii (-5) := by decide
theorem e_m6 : (-6 : Int32) = ii (-6) := by decide
/-- behind a change of now: all but now and history as before -/
theorem CI.chg {μ0 μ μ' : Nat → Nat → Int32} {σ : sT} {h : sH} (hc : CI μ0 σ) (h1 : HI μ (pushH σ.2.1 σ.1)) (h2 : μ 0 9 = ii 1) (h3 : ∀ c : Nat, c ≠ 0 → ¬ (4 ≤ c ∧ c ≤ 23) → μ c = μ0 c) (h4 : HR μ' 1 h) (hv : vH h) (h5 : ∀ c : Nat, ¬ (1 ≤ c ∧ c ≤ 3) → μ' c = μ c) : CI μ' (chg σ h) ∧ aB μ0 μ' := by
  obtain ⟨a, b, c, d, e, f, s⟩ := hc
  have hk : ∀ c : Nat, 24 ≤ c → μ' c = μ0 c := fun c cc => by rw [h5 c (by omega), h3 c (by omega) (by omega)]
  exact ⟨⟨h4, hv, h1.kept (fun c c1 c2 => h5 c (by omega)), d.kept (hk _ (by omega)) (fun c c1 c2 => hk c (by omega)), e.kept (hk _ (by omega)) (hk _ (by omega)), f.kept (hk _ (by omega)) (hk _ (by omega)) (hk _ (by omega)), Or.inl (by rw [h5 0 (by omega)]; exact h2)⟩, fun c cc => hk c (by omega)⟩
theorem HR.old {μ0 μ : Nat → Nat → Int32} {h : sH} (hh : HR μ0 1 h) (h3 : ∀ c : Nat, c ≠ 0 → ¬ (4 ≤ c ∧ c ≤ 23) → μ c = μ0 c) : HR μ 1 h := hh.kept (h3 _ (by decide) (by omega)) (h3 _ (by decide) (by omega)) (h3 _ (by decide) (by omega))
theorem c_X8_set {μ : Nat → Nat → Int32} {σ : sT} {a b : Int} (hg : gOK g) (hc : CI μ σ) (ha : ir a) (hb : ir b) (hp : ∀ μ' : Nat → Nat → Int32, CI μ' (opSet σ a b).2 → aB μ μ' → P (some (.int (ii (opSet σ a b).1))) μ') : jD g ad m_X8_set [.ref 0, .int (ii a), .int (ii b)] μ P := by
  refine jd_intro [some (.ref 0), some (.int (ii a)), some (.int (ii b)), none] (by decide) rfl rfl (fun κ hE => ?_)
  have hc9 := hc
  obtain ⟨cR, cv, cH, cs, cp, cF, cS⟩ := hc
  obtain ⟨g0, g1, g2⟩ := hg
  unfold opSet at hp
  have no : ¬ (0 ≤ a ∧ a ≤ 2 ∧ loS a ≤ b ∧ b ≤ hiS a) → P (some (.int (-2))) μ := by
    intro c
    rw [if_neg c] at hp
    rw [e_m2]
    exact hp μ hc9 (fun _ _ => rfl)
  have hlo := loS_rng a
  have hhi := hiS_rng a
  refine sX8_set_0 hE _ _ ⟨fun c => ?_, fun c => ⟨fun c2 => ⟨?_, fun c3 => ?_, fun c3 => ⟨?_, fun c4 => ?_, fun c4 => ?_⟩⟩, fun c2 => ?_⟩⟩
  · simp (disch := omega) only [ii_lit, ii_neg, ii_add, ii_sub, ii_mul, ii_lt, ii_le, ii_eq] at c
    exact no (by omega)
  · simp (disch := omega) only [ii_lit, ii_neg, ii_add, ii_sub, ii_mul, ii_lt, ii_le, ii_eq] at c c2
    rw [g0]
    exact ii_in (by omega) (by omega) (by omega)
  · simp (disch := omega) only [ii_lit, ii_neg, ii_add, ii_sub, ii_mul, ii_lt, ii_le, ii_eq] at c c2
    rw [ii_nat (by omega) (by omega), (g2 a (by omega) (by omega)).1, ii_lt (by omega) (by omega)] at c3
    exact no (by omega)
  · simp (disch := omega) only [ii_lit, ii_neg, ii_add, ii_sub, ii_mul, ii_lt, ii_le, ii_eq] at c c2
    rw [g1]
    exact ii_in (by omega) (by omega) (by omega)
  · simp (disch := omega) only [ii_lit, ii_neg, ii_add, ii_sub, ii_mul, ii_lt, ii_le, ii_eq] at c c2
    rw [ii_nat (by omega) (by omega), (g2 a (by omega) (by omega)).1, ii_lt (by omega) (by omega)] at c3
    rw [ii_nat (by omega) (by omega), (g2 a (by omega) (by omega)).2, ii_le (by omega) (by omega)] at c4
    refine ⟨ii_in (by omega) (by omega) (by omega), ?_⟩
    have hyes : 0 ≤ a ∧ a ≤ 2 ∧ loS a ≤ b ∧ b ≤ hiS a := by omega
    rw [if_pos hyes] at hp
    rw [ii_nat (by omega) (by omega), cR.1 a.toNat (by omega)]
    refine c_X8_beginChange cR cv cH (fun μ1 h1 h2 h3 => sX8_set_47 hE _ _ _ ⟨ii_in (by omega) (by omega) (by omega), ?_⟩)
    intro μ2 e2
    rw [ii_nat (by omega) (by omega)] at e2
    have hR1 := cR.old h3
    have hv2 : vH (fun i => if i = a.toNat then b else σ.1.1 i, σ.1.2) := by
      obtain ⟨v0, v1, v2, v3⟩ := cv
      unfold loS hiS at hyes
      refine ⟨?_, ?_, ?_, v3⟩
      · show -30 ≤ (if 0 = a.toNat then b else σ.1.1 0) ∧ (if 0 = a.toNat then b else σ.1.1 0) ≤ 50
        split
        · rw [if_pos (by omega), if_pos (by omega)] at hyes; omega
        · exact v0
      · show 100 ≤ (if 1 = a.toNat then b else σ.1.1 1) ∧ (if 1 = a.toNat then b else σ.1.1 1) ≤ 4000
        split
        · rw [if_neg (by omega), if_pos (by omega), if_neg (by omega), if_pos (by omega)] at hyes; omega
        · exact v1
      · show 0 ≤ (if 2 = a.toNat then b else σ.1.1 2) ∧ (if 2 = a.toNat then b else σ.1.1 2) ≤ 300
        split
        · rw [if_neg (by omega), if_neg (by omega), if_neg (by omega), if_neg (by omega)] at hyes; omega
        · exact v2
    have hR2 : HR μ2 1 (fun i => if i = a.toNat then b else σ.1.1 i, σ.1.2) := by
      refine ⟨fun i hi => ?_, ?_⟩
      · show μ2 2 i = ii (if i = a.toNat then b else σ.1.1 i)
        rw [e2]
        by_cases c9 : i = a.toNat
        · rw [if_pos c9, c9, jm_st_s]
        · rw [if_neg c9, jm_st_ni _ _ _ c9]; exact hR1.1 i hi
      · refine ⟨by rw [e2, jm_st_nc _ _ _ (by decide)]; exact hR1.2.1, hR1.2.2.1, fun j hj => by rw [e2, jm_st_nc _ _ _ (by decide)]; exact hR1.2.2.2 j hj⟩
    obtain ⟨k1, k2⟩ := hc9.chg h1 h2 h3 hR2 hv2 (fun c c1 => by rw [e2, jm_st_nc _ _ _ (by omega)])
    rw [ii_lit 100, ii_add]
    exact hp μ2 k1 k2
  · simp (disch := omega) only [ii_lit, ii_neg, ii_add, ii_sub, ii_mul, ii_lt, ii_le, ii_eq] at c c2
    rw [ii_nat (by omega) (by omega), (g2 a (by omega) (by omega)).2, ii_le (by omega) (by omega)] at c4
    exact no (by omega)
  · simp (disch := omega) only [ii_lit, ii_neg, ii_add, ii_sub, ii_mul, ii_lt, ii_le, ii_eq] at c c2
    exact no (by omega)
theorem c_X8_hear {μ : Nat → Nat → Int32} {σ : sT} {e t : Int} (hc : CI μ σ) (he : ir e) (ht : ir t) (hp : ∀ μ' : Nat → Nat → Int32, CI μ' (opHear σ e t).2 → aB μ μ' → P (some (.int (ii (opHear σ e t).1))) μ') : jD g ad m_X8_hear [.ref 0, .int (ii e), .int (ii t)] μ P := by
  refine jd_intro [some (.ref 0), some (.int (ii e)), some (.int (ii t)), none, none] (by decide) rfl rfl (fun κ hE => ?_)
  have hc9 := hc
  obtain ⟨cR, cv, cH, cs, cp, cF, cS⟩ := hc
  obtain ⟨v0, v1, v2, vn, vB, vS⟩ := id cv
  unfold opHear at hp
  refine sX8_hear_0 hE _ _ (c_X8_isEar he (fun e1 e2 => ?_) (fun c => ?_))
  · rw [if_neg (by omega)] at hp
    refine sX8_hear_4 hE _ _ _ ⟨fun _ => ⟨fun c => ?_, fun c => ⟨fun c2 => ?_, fun c2 => ?_⟩⟩, fun c => absurd c (by decide)⟩
    · simp (disch := omega) only [ii_lit, ii_neg, ii_add, ii_sub, ii_mul, ii_lt, ii_le, ii_eq] at c
      rw [if_pos (by omega)] at hp
      rw [e_m2]
      exact hp μ hc9 (fun _ _ => rfl)
    · simp (disch := omega) only [ii_lit, ii_neg, ii_add, ii_sub, ii_mul, ii_lt, ii_le, ii_eq] at c c2
      rw [if_neg (by omega)] at hp
      refine c_X8_markOf (sX8_hear_27 hE _ ?_)
      have hm : 0 ≤ t * 4 + e ∧ t * 4 + e ≤ 399999 := by omega
      unfold whyM at hp
      refine c_X3_refusalOf jm_heard1 cR.2 vB vS (by omega) (fun h9 => sX8_hear_36 hE _ _ ⟨fun c => ?_, fun _ => ?_⟩) (fun h9 h8 => sX8_hear_36 hE _ _ ⟨fun c => ?_, fun _ => ?_⟩) (fun h9 h8 => sX8_hear_36 hE _ _ ⟨fun _ => ?_, fun c => ?_⟩)
      · exact absurd c (by decide)
      · rw [if_pos (hasB_iff.mpr h9), if_neg (by decide)] at hp
        exact hp μ hc9 (fun _ _ => rfl)
      · exact absurd c (by decide)
      · rw [if_neg (fun q => h9 (hasB_iff.mp q)), if_pos h8, if_neg (by decide)] at hp
        exact hp μ hc9 (fun _ _ => rfl)
      · rw [if_neg (fun q => h9 (hasB_iff.mp q)), if_neg (show ¬ σ.1.2.1 = 32 by omega), if_pos rfl] at hp
        refine c_X8_beginChange cR cv cH (fun μ1 h1 h2 h3 => sX8_hear_50 hE _ ?_)
        have hR1 := cR.old h3
        refine c_X3_add jm_heard1 hR1.2 vB vS hm h8 (fun p μ2 hpl hF2 a2 => sX8_hear_58 hE _ ?_)
        have epl := hpl.uniq (plc_is vS)
        subst epl
        obtain ⟨k1, k2⟩ := hc9.chg h1 h2 h3 (μ' := μ2) (h := insH σ.1 (t * 4 + e)) ⟨fun i hi => by rw [a2 (1 + 1) (by decide) (by decide)]; exact hR1.1 i hi, hF2⟩ (insH_v cv hm h8 h9) (fun c c1 => a2 c (by omega) (by omega))
        exact hp μ2 k1 k2
      · exact absurd (by decide) c
    · simp (disch := omega) only [ii_lit, ii_neg, ii_add, ii_sub, ii_mul, ii_lt, ii_le, ii_eq] at c c2
      rw [if_pos (by omega)] at hp
      rw [e_m2]
      exact hp μ hc9 (fun _ _ => rfl)
  · refine sX8_hear_4 hE _ _ _ ⟨fun c2 => absurd rfl c2, fun _ => ?_⟩
    rw [if_pos c] at hp
    rw [e_m1]
    exact hp μ hc9 (fun _ _ => rfl)
theorem c_X8_forget {μ : Nat → Nat → Int32} {σ : sT} {z : Int} (hc : CI μ σ) (hz : ir z) (hp : ∀ μ' : Nat → Nat → Int32, CI μ' (opForget σ z).2 → aB μ μ' → P (some (.int (ii (opForget σ z).1))) μ') : jD g ad m_X8_forget [.ref 0, .int (ii z)] μ P := by
  refine jd_intro [some (.ref 0), some (.int (ii z)), none] (by decide) rfl rfl (fun κ hE => ?_)
  have hc9 := hc
  obtain ⟨cR, cv, cH, cs, cp, cF, cS⟩ := hc
  obtain ⟨v0, v1, v2, vn, vB, vS⟩ := id cv
  unfold opForget at hp
  refine sX8_forget_0 hE _ (c_X3_isPulse jm_heard1 cR.2 hz (fun j e1 e2 => sX8_forget_8 hE _ _ ⟨fun _ => ?_, fun c => absurd c (by decide)⟩) (fun c => sX8_forget_8 hE _ _ ⟨fun c2 => absurd rfl c2, fun _ => ?_⟩))
  · subst e1
    rw [if_pos (by omega), Int.toNat_natCast] at hp
    refine c_X3_timeOf jm_heard1 cR.2 vB e2 (sX8_forget_21 hE _ _ (c_X8_beginChange cR cv cH (fun μ1 h1 h2 h3 => sX8_forget_26 hE _ _ ?_)))
    have hR1 := cR.old h3
    refine c_X3_remove jm_heard1 hR1.2 e2 (fun μ2 hF2 a2 => sX8_forget_34 hE _ ?_)
    obtain ⟨k1, k2⟩ := hc9.chg h1 h2 h3 (μ' := μ2) (h := delH σ.1 j) ⟨fun i hi => by rw [a2 (1 + 1) (by decide) (by decide)]; exact hR1.1 i hi, hF2⟩ (delH_v cv) (fun c c1 => a2 c (by omega) (by omega))
    exact hp μ2 k1 k2
  · rw [if_neg c] at hp
    rw [e_m1]
    exact hp μ hc9 (fun _ _ => rfl)
theorem c_X8_clear {μ : Nat → Nat → Int32} {σ : sT} (hc : CI μ σ) (hp : ∀ μ' : Nat → Nat → Int32, CI μ' (opClear σ).2 → aB μ μ' → P (some (.int (ii (opClear σ).1))) μ') : jD g ad m_X8_clear [.ref 0] μ P := by
  refine jd_intro [some (.ref 0), none] (by decide) rfl rfl (fun κ hE => ?_)
  have hc9 := hc
  obtain ⟨cR, cv, cH, cs, cp, cF, cS⟩ := hc
  refine sX8_clear_0 hE ?_
  rw [cR.2.1]
  refine c_X8_beginChange cR cv cH (fun μ1 h1 h2 h3 => sX8_clear_12 hE _ ?_)
  intro μ2 e2
  have hR1 := cR.old h3
  obtain ⟨v0, v1, v2, vn, vB, vS⟩ := cv
  obtain ⟨k1, k2⟩ := hc9.chg h1 h2 h3 (μ' := μ2) (h := (σ.1.1, 0, σ.1.2.2)) ⟨fun i hi => by rw [e2, jm_st_nc _ _ _ (by decide)]; exact hR1.1 i hi, by rw [e2, jm_st_s]; exact (by decide : (0 : Int32) = ii ((0 : Nat) : Int)), by show 0 ≤ 32; omega, fun j hj => absurd hj (Nat.not_lt_zero _)⟩ ⟨v0, v1, v2, by show 0 ≤ 32; omega, fun j hj => absurd hj (Nat.not_lt_zero _), fun i j _ hj => absurd hj (Nat.not_lt_zero _)⟩ (fun c c1 => by rw [e2, jm_st_nc _ _ _ (by omega)])
  exact hp μ2 k1 k2
theorem c_X8_wipe {μ : Nat → Nat → Int32} {σ : sT} (hc : CI μ σ) (hp : ∀ μ' : Nat → Nat → Int32, CI μ' (opWipe σ).2 → aB μ μ' → P (some (.int (ii (opWipe σ).1))) μ') : jD g ad m_X8_wipe [.ref 0] μ P := by
  refine jd_intro [some (.ref 0), none] (by decide) rfl rfl (fun κ hE => ?_)
  obtain ⟨cR, cv, cH, cs, cp, cF, cS⟩ := hc
  refine sX8_wipe_0 hE ?_
  rw [cp.1]
  intro μ1 e1
  have a1 : ∀ c : Nat, c ≠ 26 → μ1 c = μ c := fun c cc => by rw [e1, jm_st_nc _ _ _ cc]
  refine hp μ1 ⟨cR.kept (a1 _ (by decide)) (a1 _ (by decide)) (a1 _ (by decide)), cv, cH.kept (fun c _ c2 => a1 c (by omega)), cs.kept (a1 _ (by decide)) (fun c c1 _ => a1 c (by omega)), ⟨by rw [e1, jm_st_s]; exact (by decide : (0 : Int32) = ii ((0 : Nat) : Int)), by show 0 ≤ 80; omega, fun k c hk => by simp [opWipe] at hk⟩, cF.kept (a1 _ (by decide)) (a1 _ (by decide)) (a1 _ (by decide)), cS.kept (a1 _ (by decide)) (fun c c1 _ => a1 c (by omega))⟩ (fun c cc => a1 c (by omega))
theorem c_X8_undo {μ : Nat → Nat → Int32} {σ : sT} (hc : CI μ σ) (hp : ∀ μ' : Nat → Nat → Int32, CI μ' (opUndo σ).2 → aB μ μ' → P (some (.int (ii (opUndo σ).1))) μ') : jD g ad m_X8_undo [.ref 0] μ P := by
  refine jd_intro [some (.ref 0)] (by decide) rfl rfl (fun κ hE => ?_)
  have hc9 := hc
  obtain ⟨cR, cv, cH, cs, cp, cF, cS⟩ := hc
  have hlen : μ 4 2 = ii σ.2.1.length := by
    obtain ⟨old, x1, x2, x3, x4⟩ := cH
    exact x3
  have hlen6 : σ.2.1.length ≤ 6 := by
    obtain ⟨old, x1, x2, x3, x4, x5⟩ := cH
    exact x4
  unfold opUndo at hp
  refine sX8_undo_0 hE ?_
  rw [hlen]
  rcases List.eq_nil_or_concat σ.2.1 with hn | ⟨l, h, hl⟩
  · rw [hn] at hp ⊢
    refine ⟨fun c => absurd (by decide) c, fun _ => ?_⟩
    rw [e_m5]
    exact hp μ hc9 (fun _ _ => rfl)
  · rw [List.concat_eq_append] at hl
    rw [hl] at hp cH hlen6 ⊢
    rw [List.getLast?_concat, List.dropLast_concat] at hp
    have hll : (l ++ [h]).length = l.length + 1 := by simp
    rw [hll] at hlen6
    refine ⟨fun _ => ?_, fun c => ?_⟩
    · refine c_X4_takeBack cH (fun μ1 h1 h2 h3 h4 => sX8_undo_24 hE ?_)
      intro μ2 e2
      have a2 : ∀ c : Nat, c ≠ 0 → ¬ (1 ≤ c ∧ c ≤ 3) → c ≠ 4 → μ2 c = μ c := fun c c0 c1 c2 => by rw [e2, jm_st_nc _ _ _ c0]; exact h4 c c1 c2
      have h1' : HI μ2 l := h1.kept (fun c c1 c2 => by rw [e2, jm_st_nc _ _ _ (by omega)])
      have x42 : μ2 4 2 = ii l.length := by
        obtain ⟨old, x1, x2, x3, x4⟩ := h1'
        exact x3
      rw [x42]
      exact hp μ2 ⟨h2.kept (by rw [e2, jm_st_nc _ _ _ (by decide)]) (by rw [e2, jm_st_nc _ _ _ (by decide)]) (by rw [e2, jm_st_nc _ _ _ (by decide)]), h3, h1', cs.kept (a2 _ (by decide) (by omega) (by decide)) (fun c c1 _ => a2 c (by omega) (by omega) (by omega)), cp.kept (a2 _ (by decide) (by omega) (by decide)) (a2 _ (by decide) (by omega) (by decide)), cF.kept (a2 _ (by decide) (by omega) (by decide)) (a2 _ (by decide) (by omega) (by decide)) (a2 _ (by decide) (by omega) (by decide)), Or.inl (by rw [e2, jm_st_s]; decide)⟩ (fun c cc => a2 c (by omega) (by omega) (by omega))
    · rw [hll] at c
      simp (disch := omega) only [ii_lit, ii_neg, ii_add, ii_sub, ii_mul, ii_lt, ii_le, ii_eq] at c
      omega
theorem c_X8_save {μ : Nat → Nat → Int32} {σ : sT} {i : Int} (hc : CI μ σ) (hi : ir i) (hp : ∀ μ' : Nat → Nat → Int32, CI μ' (opSave σ i).2 → aB μ μ' → P (some (.int (ii (opSave σ i).1))) μ') : jD g ad m_X8_save [.ref 0, .int (ii i)] μ P := by
  refine jd_intro [some (.ref 0), some (.int (ii i))] (by decide) rfl rfl (fun κ hE => ?_)
  have hc9 := hc
  obtain ⟨cR, cv, cH, cs, cp, cF, cS⟩ := hc
  unfold opSave at hp
  refine sX8_save_0 hE _ ⟨fun c => ?_, fun c => ⟨fun c2 => ?_, fun c2 => ?_⟩⟩
  · simp (disch := omega) only [ii_lit, ii_neg, ii_add, ii_sub, ii_mul, ii_lt, ii_le, ii_eq] at c
    rw [if_neg (by omega)] at hp
    rw [e_m2]
    exact hp μ hc9 (fun _ _ => rfl)
  · simp (disch := omega) only [ii_lit, ii_neg, ii_add, ii_sub, ii_mul, ii_lt, ii_le, ii_eq] at c c2
    rw [if_pos (by omega)] at hp
    refine ⟨ii_in (by omega) (by omega) (by omega), ?_⟩
    rw [ii_nat (by omega) (by omega)]
    have hin : i.toNat < 2 := by omega
    refine c_X3_become (jm_slots_heard hin) jm_heard1 (by omega) cR.2 cR.1 (fun μ1 f1 s1 a1 => sX8_save_25 hE _ ⟨ii_in (by omega) (by omega) (by omega), ?_⟩)
    intro μ2 e2
    rw [ii_nat (by omega) (by omega)] at e2
    have a2 : ∀ c : Nat, c ≠ 25 → ¬ (76 ≤ c ∧ c ≤ 81) → μ2 c = μ c := fun c c0 c1 => by rw [e2, jm_st_nc _ _ _ c0]; exact a1 c (by omega) (by omega) (by omega)
    have x12 : μ2 1 2 = ii σ.1.2.1 := by rw [a2 1 (by decide) (by omega)]; exact cR.2.1
    rw [x12]
    refine hp μ2 ⟨cR.kept (a2 _ (by decide) (by omega)) (a2 _ (by decide) (by omega)) (a2 _ (by decide) (by omega)), cv, cH.kept (fun c _ c2 => a2 c (by omega) (by omega)), fun k hk => ?_, cp.kept (a2 _ (by decide) (by omega)) (a2 _ (by decide) (by omega)), cF.kept (a2 _ (by decide) (by omega)) (a2 _ (by decide) (by omega)) (a2 _ (by decide) (by omega)), cS.kept (a2 _ (by decide) (by omega)) (fun c c1 _ => a2 c (by omega) (by omega))⟩ (fun c cc => a2 c (by omega) (by omega))
    show ((if k = i.toNat then some σ.1 else σ.2.2.1 k) = none → μ2 25 k = ii 0) ∧ ∀ h : sH, (if k = i.toNat then some σ.1 else σ.2.2.1 k) = some h → μ2 25 k = ii 1 ∧ HR μ2 (76 + 3 * k) h ∧ vH h
    by_cases ck : k = i.toNat
    · rw [if_pos ck]
      refine ⟨fun q => (by cases q), fun h q => ?_⟩
      have eh : σ.1 = h := by simpa using q
      subst eh
      refine ⟨by rw [e2, ck, jm_st_s]; decide, ?_, cv⟩
      rw [ck]
      exact HR.kept ⟨s1, f1⟩ (by rw [e2, jm_st_nc _ _ _ (by omega)]) (by rw [e2, jm_st_nc _ _ _ (by omega)]) (by rw [e2, jm_st_nc _ _ _ (by omega)])
    · rw [if_neg ck]
      obtain ⟨q1, q2⟩ := cs k hk
      have x25 : μ2 25 k = μ 25 k := by rw [e2, jm_st_ni _ _ _ ck, a1 25 (by omega) (by omega) (by omega)]
      refine ⟨fun q => by rw [x25]; exact q1 q, fun h q => ?_⟩
      obtain ⟨r1, r2, r3⟩ := q2 h q
      exact ⟨by rw [x25]; exact r1, r2.kept (by rw [e2, jm_st_nc _ _ _ (by omega), a1 _ (by omega) (by omega) (by omega)]) (by rw [e2, jm_st_nc _ _ _ (by omega), a1 _ (by omega) (by omega) (by omega)]) (by rw [e2, jm_st_nc _ _ _ (by omega), a1 _ (by omega) (by omega) (by omega)]), r3⟩
  · simp (disch := omega) only [ii_lit, ii_neg, ii_add, ii_sub, ii_mul, ii_lt, ii_le, ii_eq] at c c2
    rw [if_neg (by omega)] at hp
    rw [e_m2]
    exact hp μ hc9 (fun _ _ => rfl)
theorem c_X8_restore {μ : Nat → Nat → Int32} {σ : sT} {i : Int} (hc : CI μ σ) (hi : ir i) (hp : ∀ μ' : Nat → Nat → Int32, CI μ' (opRestore σ i).2 → aB μ μ' → P (some (.int (ii (opRestore σ i).1))) μ') : jD g ad m_X8_restore [.ref 0, .int (ii i)] μ P := by
  refine jd_intro [some (.ref 0), some (.int (ii i))] (by decide) rfl rfl (fun κ hE => ?_)
  have hc9 := hc
  obtain ⟨cR, cv, cH, cs, cp, cF, cS⟩ := hc
  unfold opRestore at hp
  refine sX8_restore_0 hE _ ⟨fun c => ?_, fun c => ⟨fun c2 => ?_, fun c2 => ?_⟩⟩
  · simp (disch := omega) only [ii_lit, ii_neg, ii_add, ii_sub, ii_mul, ii_lt, ii_le, ii_eq] at c
    rw [if_neg (by omega)] at hp
    rw [e_m2]
    exact hp μ hc9 (fun _ _ => rfl)
  · simp (disch := omega) only [ii_lit, ii_neg, ii_add, ii_sub, ii_mul, ii_lt, ii_le, ii_eq] at c c2
    rw [if_pos (by omega)] at hp
    refine ⟨ii_in (by omega) (by omega) (by omega), ?_⟩
    rw [ii_nat (by omega) (by omega)]
    have hin : i.toNat < 2 := by omega
    obtain ⟨q1, q2⟩ := cs i.toNat hin
    cases hsl : σ.2.2.1 i.toNat with
    | none =>
      rw [hsl] at hp
      rw [q1 hsl]
      refine ⟨fun c => absurd (by decide) c, fun _ => ?_⟩
      rw [e_m5]
      exact hp μ hc9 (fun _ _ => rfl)
    | some h =>
      rw [hsl] at hp
      obtain ⟨r1, r2, r3⟩ := q2 h hsl
      rw [r1]
      refine ⟨fun _ => ?_, fun c => absurd c (by decide)⟩
      refine c_X8_beginChange cR cv cH (fun μ1 h1 h2 h3 => sX8_restore_28 hE _ ⟨ii_in (by omega) (by omega) (by omega), ?_⟩)
      rw [ii_nat (by omega) (by omega)]
      have hR1 : HR μ1 (76 + 3 * i.toNat) h := r2.kept (h3 _ (by omega) (by omega)) (h3 _ (by omega) (by omega)) (h3 _ (by omega) (by omega))
      refine c_X3_become jm_heard1 (jm_slots_heard hin) (by omega) hR1.2 hR1.1 (fun μ2 f2 s2 a2 => sX8_restore_41 hE ?_)
      obtain ⟨k1, k2⟩ := hc9.chg h1 h2 h3 (μ' := μ2) (h := h) ⟨s2, f2⟩ r3 (fun c c1 => a2 c (by omega) (by omega) (by omega))
      rw [f2.1]
      exact hp μ2 k1 k2
  · simp (disch := omega) only [ii_lit, ii_neg, ii_add, ii_sub, ii_mul, ii_lt, ii_le, ii_eq] at c c2
    rw [if_neg (by omega)] at hp
    rw [e_m2]
    exact hp μ hc9 (fun _ _ => rfl)
end JOP
