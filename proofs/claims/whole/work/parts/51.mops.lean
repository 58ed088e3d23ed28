section JM4
variable {g : jm_G} {ad : Nat → Nat} {P : Option Value → (Nat → Nat → Int32) → Prop}
theorem MS.old {μ0 μ : Nat → Nat → Int32} {h : sH} (hh : MS μ0 h) (h3 : ∀ c : Nat, c ≠ 82 → c ≠ 85 → μ c = μ0 c) : MS μ h := hh.kept (h3 _ (by decide) (by decide))
theorem c_X9_isValue {μ : Nat → Nat → Int32} {a b : Int} (ha : ir a) (hb : ir b) (h1 : 0 ≤ a ∧ a ≤ 2 ∧ loS a ≤ b ∧ b ≤ hiS a → P (some (.int 1)) μ) (h0 : ¬ (0 ≤ a ∧ a ≤ 2 ∧ loS a ≤ b ∧ b ≤ hiS a) → P (some (.int 0)) μ) : jD g ad m_X9_isValue [.int (ii a), .int (ii b)] μ P := by
  refine jd_intro [some (.int (ii a)), some (.int (ii b))] (by decide) rfl rfl (fun κ hE => ?_)
  have L0 : loS 0 = -30 ∧ hiS 0 = 50 := ⟨rfl, rfl⟩
  have L1 : loS 1 = 100 ∧ hiS 1 = 4000 := ⟨rfl, rfl⟩
  have L2 : loS 2 = 0 ∧ hiS 2 = 300 := ⟨rfl, rfl⟩
  refine sX9_isValue_0 hE _ _ ?_
  have e300 : (300 : Int32) = ii 300 := by decide
  have e100 : (100 : Int32) = ii 100 := by decide
  have e4000 : (4000 : Int32) = ii 4000 := by decide
  have e30 : (-30 : Int32) = ii (-30) := by decide
  have e50 : (50 : Int32) = ii 50 := by decide
  rw [e300, e100, e4000, e30, e50, ii_1, ii_2, ii_0, ii_eq (by omega) (by decide), ii_eq (by omega) (by decide), ii_eq (by omega) (by decide)]
  refine ⟨fun c => ⟨fun c1 => ⟨fun c2 => h0 (by omega), fun c2 => ?_⟩, fun c1 => ?_⟩, fun c => ?_⟩
  · subst c2
    exact c_X9_within hb (by decide) (by decide) (fun d d2 => sX9_isValue_45 hE _ ⟨fun q => absurd q (by decide), fun _ => h1 (by omega)⟩) (fun d => sX9_isValue_45 hE _ ⟨fun _ => h0 (by omega), fun q => absurd rfl q⟩)
  · subst c1
    exact c_X9_within hb (by decide) (by decide) (fun d d2 => sX9_isValue_29 hE _ ⟨Or.inr rfl, h1 (by omega)⟩) (fun d => sX9_isValue_29 hE _ ⟨Or.inl rfl, h0 (by omega)⟩)
  · subst c
    exact c_X9_within hb (by decide) (by decide) (fun d d2 => sX9_isValue_12 hE _ ⟨Or.inr rfl, h1 (by omega)⟩) (fun d => sX9_isValue_12 hE _ ⟨Or.inl rfl, h0 (by omega)⟩)
theorem c_X9_set {μ : Nat → Nat → Int32} {σ : sT} {a b : Int} (hc : MI μ σ) (ha : ir a) (hb : ir b) (hp : ∀ μ' : Nat → Nat → Int32, MI μ' (opSet σ a b).2 → aA μ μ' → P (some (.int (ii (opSet σ a b).1))) μ') : jD g ad m_X9_set [.ref 82, .int (ii a), .int (ii b)] μ P := by
  refine jd_intro [some (.ref 82), some (.int (ii a)), some (.int (ii b)), none] (by decide) rfl rfl (fun κ hE => ?_)
  have hc9 := hc
  obtain ⟨cS, cv, cH, -⟩ := hc
  unfold opSet at hp
  refine sX9_set_0 hE _ _ (c_X9_isValue ha hb (fun hyes => sX9_set_5 hE _ _ _ ⟨fun _ => ?_, fun q => absurd q (by decide)⟩) (fun hno => sX9_set_5 hE _ _ _ ⟨fun q => absurd rfl q, fun _ => ?_⟩))
  · rw [if_pos hyes] at hp
    refine c_X9_record cS cv cH (fun μ1 h1 h2 h3 => sX9_set_15 hE _ _ ⟨ii_in (by omega) (by omega) (by omega), ii_in (by omega) (by omega) (by omega), ?_⟩)
    intro μ2 e2
    have cS1 := cS.old h3
    rw [ii_nat (by omega) (by omega)] at e2 ⊢
    rw [cS1.1 a.toNat (by omega)]
    have hv2 : vH (fun i => if i = a.toNat then b else σ.1.1 i, σ.1.2) := by
      obtain ⟨v0, v1, v2, v3⟩ := cv
      unfold loS hiS at hyes
      refine ⟨?_, ?_, ?_, v3⟩
      · show -30 ≤ (if 0 = a.toNat then b else σ.1.1 0) ∧ (if 0 = a.toNat then b else σ.1.1 0) ≤ 50
        split
        · rw [if_pos (by omega), if_pos (by omega)] at hyes; omega
        · exact v0
      · show 100 ≤ (if 1 = a.toNat then b else σ.1.1 1) ∧ (if 1 = a.toNat then b else σ.1.1 1) ≤ 4000
        split
        · rw [if_neg (by omega), if_pos (by omega), if_neg (by omega), if_pos (by omega)] at hyes; omega
        · exact v1
      · show 0 ≤ (if 2 = a.toNat then b else σ.1.1 2) ∧ (if 2 = a.toNat then b else σ.1.1 2) ≤ 300
        split
        · rw [if_neg (by omega), if_neg (by omega), if_neg (by omega), if_neg (by omega)] at hyes; omega
        · exact v2
    have hS2 : MS μ2 (fun i => if i = a.toNat then b else σ.1.1 i, σ.1.2) := by
      obtain ⟨s1, s2, s3, s4⟩ := cS1
      refine ⟨fun i hi => ?_, ?_, s3, fun j hj => ?_⟩
      · show μ2 83 i = ii (if i = a.toNat then b else σ.1.1 i)
        rw [e2]
        by_cases c9 : i = a.toNat
        · rw [if_pos c9, c9, jm_st_s]
        · rw [if_neg c9, jm_st_ni _ _ _ c9]; exact s1 i hi
      · rw [e2, jm_st_ni _ _ _ (by omega)]; exact s2
      · rw [e2, jm_st_ni _ _ _ (by omega), jm_st_ni _ _ _ (by omega)]; exact s4 j hj
    obtain ⟨k1, k2⟩ := hc9.chg h1 h2 h3 hS2 hv2 (fun c c1 => by rw [e2, jm_st_nc _ _ _ c1])
    rw [ii_lit 100, ii_add]
    exact hp μ2 k1 k2
  · rw [if_neg hno] at hp
    rw [e_m2]
    exact hp μ hc9 (fun _ _ => rfl)
theorem c_X9_whyNotHeard {μ : Nat → Nat → Int32} {h : sH} {e t : Int} (hf : MS μ h) (hB : fB h.2.1 h.2.2) (he : ir e) (ht : ir t) (h1 : ¬ (0 ≤ e ∧ e < 4) → P (some (.int (ii (-1)))) μ) (h2 : (0 ≤ e ∧ e < 4) → ¬ (0 ≤ t ∧ t ≤ 99999) → P (some (.int (ii (-2)))) μ) (h3 : (0 ≤ e ∧ e < 4) → (0 ≤ t ∧ t ≤ 99999) → P (some (.int (ii (whyM h (t * 4 + e))))) μ) : jD g ad m_X9_whyNotHeard [.ref 82, .int (ii e), .int (ii t)] μ P := by
  refine jd_intro [some (.ref 82), some (.int (ii e)), some (.int (ii t))] (by decide) rfl rfl (fun κ hE => ?_)
  have hn := hf.2.2.1
  refine sX9_whyNotHeard_0 hE _ _ (c_X9_isEar he (fun e1 e2 => sX9_whyNotHeard_4 hE _ _ _ ⟨fun _ => ?_, fun q => absurd q (by decide)⟩) (fun c => sX9_whyNotHeard_4 hE _ _ _ ⟨fun q => absurd rfl q, fun _ => h1 c⟩))
  have e9 : (99999 : Int32) = ii 99999 := by decide
  rw [ii_0, e9]
  refine c_X9_within ht (by decide) (by decide) (fun t1 t2 => sX9_whyNotHeard_16 hE _ _ _ ⟨fun _ => ?_, fun q => absurd q (by decide)⟩) (fun c => sX9_whyNotHeard_16 hE _ _ _ ⟨fun q => absurd rfl q, fun _ => h2 (by omega) c⟩)
  have h3 := h3 (by omega) (by omega)
  unfold whyM at h3
  refine c_X9_isThere hf hB (by omega) ht (fun h9 => sX9_whyNotHeard_28 hE _ ⟨fun q => absurd q (by decide), fun _ => ?_⟩) (fun h9 => sX9_whyNotHeard_28 hE _ ⟨fun _ => ?_, fun q => absurd rfl q⟩)
  · rw [if_pos (hasB_iff.mpr h9)] at h3
    exact h3
  · rw [if_neg (fun q => h9 (hasB_iff.mp q))] at h3
    rw [hf.2.1, ii_lit 32, ii_eq (by omega) (by decide)]
    refine ⟨fun c => ?_, fun c => ?_⟩
    · have c : ¬ (h.2.1 : Int) = 32 := c
      rw [if_neg (by omega)] at h3
      exact h3
    · have c : (h.2.1 : Int) = 32 := c
      rw [if_pos (by omega)] at h3
      exact h3
theorem whyM_0 {h : sH} {m : Int} (hw : whyM h m = 0) (hn : h.2.1 ≤ 32) : ¬ hasF h.2.1 h.2.2 m ∧ h.2.1 < 32 := by
  unfold whyM at hw
  by_cases c : hasB h.2.2 m h.2.1 = true
  · rw [if_pos c] at hw; exact absurd hw (by decide)
  · rw [if_neg c] at hw
    by_cases c2 : h.2.1 = 32
    · rw [if_pos c2] at hw; exact absurd hw (by decide)
    · exact ⟨fun q => c (hasB_iff.mpr q), by omega⟩
theorem whyM_rng (h : sH) (m : Int) : -5 ≤ whyM h m ∧ whyM h m ≤ 0 := by
  unfold whyM
  split
  · omega
  · split <;> omega
theorem c_X9_hear {μ : Nat → Nat → Int32} {σ : sT} {e t : Int} (hc : MI μ σ) (he : ir e) (ht : ir t) (hp : ∀ μ' : Nat → Nat → Int32, MI μ' (opHear σ e t).2 → aA μ μ' → P (some (.int (ii (opHear σ e t).1))) μ') : jD g ad m_X9_hear [.ref 82, .int (ii e), .int (ii t)] μ P := by
  refine jd_intro [some (.ref 82), some (.int (ii e)), some (.int (ii t)), none] (by decide) rfl rfl (fun κ hE => ?_)
  have hc9 := hc
  obtain ⟨cS, cv, cH, -⟩ := hc
  obtain ⟨v0, v1, v2, vn, vB, vS⟩ := id cv
  unfold opHear at hp
  refine sX9_hear_0 hE _ _ (c_X9_whyNotHeard cS vB he ht (fun c => sX9_hear_6 hE _ _ _ ⟨fun q => absurd q (by decide), fun _ => ?_⟩) (fun c c2 => sX9_hear_6 hE _ _ _ ⟨fun q => absurd q (by decide), fun _ => ?_⟩) (fun c c2 => ?_))
  · rw [if_pos c] at hp
    exact hp μ hc9 (fun _ _ => rfl)
  · rw [if_neg (by omega), if_pos c2] at hp
    exact hp μ hc9 (fun _ _ => rfl)
  · rw [if_neg (by omega), if_neg (by omega)] at hp
    have hwr := whyM_rng σ.1 (t * 4 + e)
    refine sX9_hear_6 hE _ _ _ ?_
    rw [ii_0, ii_le (by decide) (by omega)]
    refine ⟨fun q => ?_, fun q => ?_⟩
    · have hw0 : whyM σ.1 (t * 4 + e) = 0 := by omega
      rw [if_pos hw0] at hp
      obtain ⟨hno, hlt⟩ := whyM_0 hw0 vn
      refine c_X9_record cS cv cH (fun μ1 h1 h2 h3 => sX9_hear_17 hE _ _ ?_)
      refine c_X9_comes (cS.old h3) vB vS c c2 hlt hno (fun μ2 s2 a2 => sX9_hear_23 hE _ ?_)
      obtain ⟨k1, k2⟩ := hc9.chg h1 h2 h3 s2 (insH_v cv (by omega) hlt hno) a2
      exact hp μ2 k1 k2
    · rw [if_neg (by omega)] at hp
      exact hp μ hc9 (fun _ _ => rfl)
theorem c_X9_forget {μ : Nat → Nat → Int32} {σ : sT} {z : Int} (hc : MI μ σ) (hz : ir z) (hp : ∀ μ' : Nat → Nat → Int32, MI μ' (opForget σ z).2 → aA μ μ' → P (some (.int (ii (opForget σ z).1))) μ') : jD g ad m_X9_forget [.ref 82, .int (ii z)] μ P := by
  refine jd_intro [some (.ref 82), some (.int (ii z)), none] (by decide) rfl rfl (fun κ hE => ?_)
  have hc9 := hc
  obtain ⟨cS, cv, cH, -⟩ := hc
  unfold opForget at hp
  refine sX9_forget_0 hE _ (c_X9_isPulse cS hz (fun j e1 e2 => sX9_forget_5 hE _ _ ⟨fun _ => ?_, fun q => absurd q (by decide)⟩) (fun c => sX9_forget_5 hE _ _ ⟨fun q => absurd rfl q, fun _ => ?_⟩))
  · subst e1
    rw [if_pos (by omega), Int.toNat_natCast] at hp
    refine c_X9_record cS cv cH (fun μ1 h1 h2 h3 => sX9_forget_14 hE _ (c_X9_timeOf (cS.old h3) e2 (sX9_forget_19 hE _ _ (c_X9_goes (cS.old h3) e2 (fun μ2 s2 a2 => sX9_forget_25 hE _ ?_)))))
    obtain ⟨k1, k2⟩ := hc9.chg h1 h2 h3 s2 (delH_v cv) a2
    exact hp μ2 k1 k2
  · rw [if_neg c] at hp
    rw [e_m1]
    exact hp μ hc9 (fun _ _ => rfl)
theorem c_X9_clear {μ : Nat → Nat → Int32} {σ : sT} (hc : MI μ σ) (hp : ∀ μ' : Nat → Nat → Int32, MI μ' (opClear σ).2 → aA μ μ' → P (some (.int (ii (opClear σ).1))) μ') : jD g ad m_X9_clear [.ref 82] μ P := by
  refine jd_intro [some (.ref 82), none] (by decide) rfl rfl (fun κ hE => ?_)
  have hc9 := hc
  obtain ⟨cS, cv, cH, -⟩ := hc
  refine sX9_clear_0 hE (c_X9_record cS cv cH (fun μ1 h1 h2 h3 => sX9_clear_4 hE ?_))
  intro μ2 e2
  have cS1 := cS.old h3
  obtain ⟨v0, v1, v2, vn, vB, vS⟩ := cv
  rw [cS1.2.1]
  obtain ⟨k1, k2⟩ := hc9.chg h1 h2 h3 (μ' := μ2) (h := (σ.1.1, 0, σ.1.2.2)) ⟨fun i hi => by rw [e2, jm_st_ni _ _ _ (by omega)]; exact cS1.1 i hi, by rw [e2, jm_st_s]; exact (by decide : (0 : Int32) = ii ((0 : Nat) : Int)), by show 0 ≤ 32; omega, fun j hj => absurd hj (Nat.not_lt_zero _)⟩ ⟨v0, v1, v2, by show 0 ≤ 32; omega, fun j hj => absurd hj (Nat.not_lt_zero _), fun i j _ hj => absurd hj (Nat.not_lt_zero _)⟩ (fun c c1 => by rw [e2, jm_st_nc _ _ _ c1])
  exact hp μ2 k1 k2
theorem c_X9_wipe {μ : Nat → Nat → Int32} {σ : sT} (hc : MI μ σ) (hp : ∀ μ' : Nat → Nat → Int32, MI μ' (opWipe σ).2 → aA μ μ' → P (some (.int (ii (opWipe σ).1))) μ') : jD g ad m_X9_wipe [.ref 82] μ P := by
  refine jd_intro [some (.ref 82), none] (by decide) rfl rfl (fun κ hE => ?_)
  obtain ⟨a, b, c, d, e, f, s⟩ := hc
  refine sX9_wipe_0 hE ?_
  rw [e.1]
  intro μ1 e1
  have hk : ∀ c : Nat, c ≠ 82 → μ1 c = μ c := fun c cc => by rw [e1, jm_st_nc _ _ _ cc]
  have hj : ∀ j : Nat, j ≠ 7 → μ1 82 j = μ 82 j := fun j jj => by rw [e1, jm_st_ni _ _ _ jj]
  refine hp μ1 ⟨a.kept (hk _ (by decide)), b, c.kept (hj 3 (by decide)) (hk _ (by decide)), d.kept (hk _ (by decide)) (hk _ (by decide)), ⟨by rw [e1, jm_st_s]; exact (by decide : (0 : Int32) = ii ((0 : Nat) : Int)), by show 0 ≤ 80; omega, fun k c hk => by simp [opWipe] at hk⟩, f.kept (hk _ (by decide)), s.kept (hj 10 (by decide)) (hk _ (by decide))⟩ (fun c cc => hk c (by omega))
theorem c_X9_undo {μ : Nat → Nat → Int32} {σ : sT} (hc : MI μ σ) (hp : ∀ μ' : Nat → Nat → Int32, MI μ' (opUndo σ).2 → aA μ μ' → P (some (.int (ii (opUndo σ).1))) μ') : jD g ad m_X9_undo [.ref 82] μ P := by
  refine jd_intro [some (.ref 82)] (by decide) rfl rfl (fun κ hE => ?_)
  have hc9 := hc
  obtain ⟨a, b, ⟨h1, h2, h3⟩, d, e, f, s⟩ := hc
  unfold opUndo at hp
  refine sX9_undo_0 hE ?_
  rw [h1]
  rcases List.eq_nil_or_concat σ.2.1 with hn | ⟨l, h, hl⟩
  · rw [hn] at hp ⊢
    refine ⟨fun c => absurd (by decide) c, fun _ => ?_⟩
    rw [e_m5]
    exact hp μ hc9 (fun _ _ => rfl)
  · rw [List.concat_eq_append] at hl
    rw [hl] at hp h2 h3 ⊢
    rw [List.getLast?_concat, List.dropLast_concat] at hp
    have hll : (l ++ [h]).length = l.length + 1 := by simp
    rw [hll]
    refine ⟨fun _ => ?_, fun c => ?_⟩
    · intro μ1 e1
      have e0 : ii ((l.length + 1 : Nat) : Int) - 1 = ii (l.length : Int) := by rw [ii_1, ii_sub]; congr 1; omega
      rw [e0] at e1
      have x3 : μ1 82 3 = ii l.length := by rw [e1, jm_st_s]
      have e68 : (68 : Int32) = ii 68 := by decide
      rw [x3, e68, ii_mul, show (l.length : Int) * 68 = ((68 * l.length : Nat) : Int) by omega, ii_0]
      obtain ⟨q1, q2⟩ := h3 l.length h (by simp)
      refine c_X9_moves (t := 0) ga_85 ga_83 (by decide) (by omega) (by decide) (by decide) (by decide) (fun μ2 m1 m2 m3 => sX9_undo_39 hE ?_)
      have hk : ∀ c : Nat, c ≠ 82 → c ≠ 83 → μ2 c = μ c := fun c c1 c2 => by rw [m3 c c2, e1, jm_st_nc _ _ _ c1]
      have hj : ∀ j : Nat, j ≠ 3 → μ2 82 j = μ 82 j := fun j jj => by rw [m3 82 (by decide), e1, jm_st_ni _ _ _ jj]
      have x3' : μ2 82 3 = ii l.length := by rw [m3 82 (by decide)]; exact x3
      rw [x3']
      have hS : MS μ2 h := MS_iff.mp (q1.same (fun j hj => by rw [m1 j hj, e1, jm_st_nc _ _ _ (by decide)]))
      refine hp μ2 ⟨hS, q2, ⟨x3', by show l.length ≤ 6; rw [hll] at h2; omega, fun k x hx => ?_⟩, d.kept (hk _ (by decide) (by decide)) (hk _ (by decide) (by decide)), e.kept (hj 7 (by decide)) (hk _ (by decide) (by decide)), f.kept (hk _ (by decide) (by decide)), s.kept (hj 10 (by decide)) (hk _ (by decide) (by decide))⟩ (fun c cc => hk c (by omega) (by omega))
      have hkl : k < l.length := (List.getElem?_eq_some_iff.mp hx).1
      obtain ⟨w1, w2⟩ := h3 k x (by rw [List.getElem?_append_left hkl]; exact hx)
      exact ⟨w1.same (fun j _ => by rw [hk 85 (by decide) (by decide)]), w2⟩
    · simp (disch := omega) only [ii_lit, ii_neg, ii_add, ii_sub, ii_mul, ii_lt, ii_le, ii_eq] at c
      omega
theorem c_X9_save {μ : Nat → Nat → Int32} {σ : sT} {i : Int} (hc : MI μ σ) (hi : ir i) (hp : ∀ μ' : Nat → Nat → Int32, MI μ' (opSave σ i).2 → aA μ μ' → P (some (.int (ii (opSave σ i).1))) μ') : jD g ad m_X9_save [.ref 82, .int (ii i)] μ P := by
  refine jd_intro [some (.ref 82), some (.int (ii i))] (by decide) rfl rfl (fun κ hE => ?_)
  have hc9 := hc
  obtain ⟨a, b, c, d, e, f, s⟩ := hc
  unfold opSave at hp
  refine sX9_save_0 hE _ ?_
  rw [ii_0, ii_1]
  refine c_X9_within hi (by decide) (by decide) (fun c1 c2 => sX9_save_6 hE _ _ ⟨fun _ => ?_, fun q => absurd q (by decide)⟩) (fun c1 => sX9_save_6 hE _ _ ⟨fun q => absurd rfl q, fun _ => ?_⟩)
  · rw [if_pos (by omega)] at hp
    have e68 : (68 : Int32) = ii 68 := by decide
    rw [e68, ii_mul, show 68 * i = ((68 * i.toNat : Nat) : Int) by omega, ii_0]
    refine c_X9_moves (f := 0) ga_83 ga_86 (by decide) (by decide) (by omega) (by decide) (by decide) (fun μ1 m1 m2 m3 => sX9_save_28 hE _ ⟨ii_in (by omega) (by omega) (by omega), ?_⟩)
    intro μ2 e2
    rw [ii_nat (by omega) (by omega)] at e2
    have hk : ∀ c : Nat, c ≠ 86 → c ≠ 87 → μ2 c = μ c := fun c c1 c2 => by rw [e2, jm_st_nc _ _ _ c2, m3 c c1]
    have x83 : μ2 83 3 = ii σ.1.2.1 := by rw [hk 83 (by decide) (by decide)]; exact a.2.1
    rw [x83]
    refine hp μ2 ⟨a.kept (hk _ (by decide) (by decide)), b, c.kept (by rw [hk 82 (by decide) (by decide)]) (hk _ (by decide) (by decide)), fun k hk9 => ?_, e.kept (by rw [hk 82 (by decide) (by decide)]) (hk _ (by decide) (by decide)), f.kept (hk _ (by decide) (by decide)), s.kept (by rw [hk 82 (by decide) (by decide)]) (hk _ (by decide) (by decide))⟩ (fun c cc => hk c (by omega) (by omega))
    show ((if k = i.toNat then some σ.1 else σ.2.2.1 k) = none → μ2 87 k = ii 0) ∧ ∀ h : sH, (if k = i.toNat then some σ.1 else σ.2.2.1 k) = some h → μ2 87 k = ii 1 ∧ MR μ2 86 (68 * k) h ∧ vH h
    by_cases ck : k = i.toNat
    · rw [if_pos ck]
      refine ⟨fun q => (by cases q), fun h q => ?_⟩
      have eh : σ.1 = h := by simpa using q
      subst eh
      refine ⟨by rw [e2, ck, jm_st_s]; decide, ?_, b⟩
      rw [ck]
      exact (MS_iff.mpr a).same (fun j hj => by rw [e2, jm_st_nc _ _ _ (by decide), m1 j hj])
    · rw [if_neg ck]
      obtain ⟨q1, q2⟩ := d k hk9
      have x87 : μ2 87 k = μ 87 k := by rw [e2, jm_st_ni _ _ _ ck, m3 87 (by decide)]
      refine ⟨fun q => by rw [x87]; exact q1 q, fun h q => ?_⟩
      obtain ⟨r1, r2, r3⟩ := q2 h q
      exact ⟨by rw [x87]; exact r1, r2.same (fun j hj => by rw [e2, jm_st_nc _ _ _ (by decide), m2 _ (by omega)]), r3⟩
  · rw [if_neg (by omega)] at hp
    rw [e_m2]
    exact hp μ hc9 (fun _ _ => rfl)
theorem c_X9_restore {μ : Nat → Nat → Int32} {σ : sT} {i : Int} (hc : MI μ σ) (hi : ir i) (hp : ∀ μ' : Nat → Nat → Int32, MI μ' (opRestore σ i).2 → aA μ μ' → P (some (.int (ii (opRestore σ i).1))) μ') : jD g ad m_X9_restore [.ref 82, .int (ii i)] μ P := by
  refine jd_intro [some (.ref 82), some (.int (ii i))] (by decide) rfl rfl (fun κ hE => ?_)
  have hc9 := hc
  obtain ⟨a, b, c, d, e, f, s⟩ := hc
  unfold opRestore at hp
  refine sX9_restore_0 hE _ ?_
  rw [ii_0, ii_1]
  refine c_X9_within hi (by decide) (by decide) (fun c1 c2 => sX9_restore_6 hE _ _ ⟨fun _ => ⟨ii_in (by omega) (by omega) (by omega), ?_⟩, fun q => absurd q (by decide)⟩) (fun c1 => sX9_restore_6 hE _ _ ⟨fun q => absurd rfl q, fun _ => ?_⟩)
  · rw [if_pos (by omega)] at hp
    rw [ii_nat (by omega) (by omega)]
    obtain ⟨q1, q2⟩ := d i.toNat (by omega)
    cases hsl : σ.2.2.1 i.toNat with
    | none =>
      rw [hsl] at hp
      rw [q1 hsl]
      refine ⟨fun q => absurd (by decide) q, fun _ => ?_⟩
      rw [e_m5]
      exact hp μ hc9 (fun _ _ => rfl)
    | some h =>
      rw [hsl] at hp
      obtain ⟨r1, r2, r3⟩ := q2 h hsl
      rw [r1]
      refine ⟨fun _ => ?_, fun q => absurd q (by decide)⟩
      refine c_X9_record a b c (fun μ1 h1 h2 h3 => sX9_restore_28 hE _ ?_)
      have e68 : (68 : Int32) = ii 68 := by decide
      rw [e68, ii_mul, show 68 * i = ((68 * i.toNat : Nat) : Int) by omega, ii_0]
      refine c_X9_moves (t := 0) ga_86 ga_83 (by decide) (by omega) (by decide) (by decide) (by decide) (fun μ2 m1 m2 m3 => sX9_restore_44 hE ?_)
      have hS : MS μ2 h := MS_iff.mp (r2.same (fun j hj => by rw [m1 j hj, h3 86 (by decide) (by decide)]))
      obtain ⟨k1, k2⟩ := hc9.chg h1 h2 h3 hS r3 m3
      rw [hS.2.1]
      exact hp μ2 k1 k2
  · rw [if_neg (by omega)] at hp
    rw [e_m2]
    exact hp μ hc9 (fun _ _ => rfl)
theorem c_X9_takes {μ : Nat → Nat → Int32} {σ : sT} {x y e : Int} (hc : MI μ σ) (hx : ir x) (hy : ir y) (he : ir e) (hp : ∀ μ' : Nat → Nat → Int32, MI μ' σ → aA μ μ' → P (some (.int (ii (opTakes σ x y e)))) μ') : jD g ad m_X9_takes [.ref 82, .int (ii x), .int (ii y), .int (ii e)] μ P := by
  refine jd_intro [some (.ref 82), some (.int (ii x)), some (.int (ii y)), some (.int (ii e))] (by decide) rfl rfl (fun κ hE => ?_)
  unfold opTakes at hp
  refine sX9_takes_0 hE _ _ _ (c_X9_isPoint hx hy (fun x1 x2 y1 y2 => sX9_takes_5 hE _ _ _ _ ⟨fun q => absurd q (by decide), fun _ => ?_⟩) (fun c => sX9_takes_5 hE _ _ _ _ ⟨fun _ => ?_, fun q => absurd rfl q⟩))
  · refine c_X9_isEar he (fun e1 e2 => sX9_takes_12 hE _ _ _ _ ⟨fun q => absurd q (by decide), fun _ => ?_⟩) (fun c => sX9_takes_12 hE _ _ _ _ ⟨fun _ => ?_, fun q => absurd rfl q⟩)
    · rw [if_pos (by omega)] at hp
      rw [hc.1.1 0 (by omega)]
      exact c_X9_speedBy hc.2.1.1 (sX9_takes_25 hE _ _ _ _ (c_X9_takesBy (spd_rng hc.2.1.1.1 hc.2.1.1.2) (by omega) (by omega) (by omega) hc.2.2.2.2.2.1 (sX9_takes_31 hE _ (hp μ hc (fun _ _ => rfl)))))
    · rw [if_neg (by omega)] at hp
      rw [e_m1]
      exact hp μ hc (fun _ _ => rfl)
  · rw [if_neg (by omega)] at hp
    rw [e_m1]
    exact hp μ hc (fun _ _ => rfl)
end JM4
