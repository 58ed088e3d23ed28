section JC1
variable {g : jm_G} {ad : Nat → Nat} {P : Option Value → (Nat → Nat → Int32) → Prop}
/-- what undo and the slots bring back: settings, pulses -/
abbrev sH : Type := (Nat → Int) × Nat × (Nat → Int)
def vH (h : sH) : Prop := (-30 ≤ h.1 0 ∧ h.1 0 ≤ 50) ∧ (100 ≤ h.1 1 ∧ h.1 1 ≤ 4000) ∧ (0 ≤ h.1 2 ∧ h.1 2 ≤ 300) ∧ h.2.1 ≤ 32 ∧ fB h.2.1 h.2.2 ∧ fS h.2.1 h.2.2
def HR (μ : Nat → Nat → Int32) (q : Nat) (h : sH) : Prop := sF μ q h.1 ∧ hF μ q h.2.1 h.2.2
theorem HR.kept {μ μ' : Nat → Nat → Int32} {q : Nat} {h : sH} (hh : HR μ q h) (h0 : μ' q = μ q) (h1 : μ' (q + 1) = μ (q + 1)) (h2 : μ' (q + 2) = μ (q + 2)) : HR μ' q h := by
  unfold HR sF hF
  rw [h0, h1, h2]
  exact hh
/-- the history, oldest first, in the ring -/
def HI (μ : Nat → Nat → Int32) (hist : List sH) : Prop := ∃ old : Nat, old < 6 ∧ μ 4 1 = ii old ∧ μ 4 2 = ii hist.length ∧ hist.length ≤ 6 ∧ ∀ (k : Nat) (h : sH), hist[k]? = some h → HR μ (6 + 3 * ((old + k) % 6)) h ∧ vH h
theorem HI.kept {μ μ' : Nat → Nat → Int32} {hist : List sH} (h : HI μ hist) (hk : ∀ c : Nat, 4 ≤ c → c ≤ 23 → μ' c = μ c) : HI μ' hist := by
  obtain ⟨old, h1, h2, h3, h4, h5⟩ := h
  refine ⟨old, h1, by rw [hk 4 (by omega) (by omega)]; exact h2, by rw [hk 4 (by omega) (by omega)]; exact h3, h4, fun k x hx => ⟨(h5 k x hx).1.kept (hk _ (by omega) (by omega)) (hk _ (by omega) (by omega)) (hk _ (by omega) (by omega)), (h5 k x hx).2⟩⟩
/-- one more state, at most six -/
def pushH (hist : List sH) (h : sH) : List sH := if hist.length = 6 then hist.drop 1 ++ [h] else hist ++ [h]
theorem pushH_len {hist : List sH} {h : sH} (hl : hist.length ≤ 6) : (pushH hist h).length ≤ 6 := by
  unfold pushH
  split
  · simp; omega
  · simp; omega
theorem ii_mod6 {a : Int} (h : 0 ≤ a ∧ a ≤ 1000) : ii a - ii a / 6 * 6 = ii (a % 6) := by
  rw [ii_lit]
  exact ii_rem h.1 (by omega) (by decide) (by decide)
theorem c_X4_record {μ : Nat → Nat → Int32} {h : sH} {hist : List sH} (hh : HR μ 1 h) (hv : vH h) (hi : HI μ hist) (hp : ∀ μ' : Nat → Nat → Int32, HI μ' (pushH hist h) → (∀ c : Nat, ¬ (4 ≤ c ∧ c ≤ 23) → μ' c = μ c) → P none μ') : jD g ad m_X4_record [.ref 4, .ref 1] μ P := by
  refine jd_intro [some (.ref 4), some (.ref 1)] (by decide) rfl rfl (fun κ hE => ?_)
  obtain ⟨old, h1, h2, h3, h4, h5⟩ := hi
  have put : ∀ (μ1 : Nat → Nat → Int32) (old' m : Nat) (l : List sH), old' < 6 → m < 6 → l.length = m → μ1 4 1 = ii old' → μ1 4 2 = ii m → (∀ c : Nat, c ≠ 4 → μ1 c = μ c) → (∀ (k : Nat) (x : sH), l[k]? = some x → HR μ (6 + 3 * ((old' + k) % 6)) x ∧ vH x) → l ++ [h] = pushH hist h → vp_in ((μ1 4 1 + μ1 4 2) - (μ1 4 1 + μ1 4 2) / 6 * 6) 6 ∧ jD g ad m_X3_become [.ref (6 + 3 * ((μ1 4 1 + μ1 4 2) - (μ1 4 1 + μ1 4 2) / 6 * 6).toNatClampNeg), .ref 1] μ1 (fun v μ' => jS g ad m_X4_record κ 53 [some (.ref 4), none] (jm_ps v []) μ') := by
    intro μ1 old' m l ho hm hl e1 e2 a1 hall hpu
    rw [e1, e2, ii_add, ii_mod6 (by omega), ii_nat (by omega) (by omega)]
    refine ⟨ii_in (by omega) (by omega) (by omega), ?_⟩
    rw [show ((old' + m : Int) % 6).toNat = (old' + m) % 6 by omega]
    have hj : (old' + m) % 6 < 6 := Nat.mod_lt _ (by decide)
    generalize hjj : (old' + m) % 6 = j at *
    have hh1 : HR μ1 1 h := hh.kept (a1 _ (by omega)) (a1 _ (by omega)) (a1 _ (by omega))
    refine c_X3_become (jm_states_heard hj) jm_heard1 (by omega) hh1.2 hh1.1 (fun μ2 f2 s2 a2 => sX4_record_53 hE 1 jm_heard1 ?_)
    intro μ3 e3
    have x2 : μ2 4 2 = ii m := by rw [a2 4 (by omega) (by omega) (by omega)]; exact e2
    rw [x2] at e3
    refine hp μ3 ⟨old', ho, ?_, ?_, pushH_len h4, fun k x hx => ?_⟩ (fun c c1 => ?_)
    · rw [e3, jm_st_ni _ _ _ (by decide), a2 4 (by omega) (by omega) (by omega)]; exact e1
    · rw [e3, jm_st_s, ← hpu]
      simp (disch := omega) only [ii_lit, ii_neg, ii_add, ii_sub, ii_mul, ii_lt, ii_le, ii_eq]
      simp [hl]
    · rw [← hpu] at hx
      by_cases hk : k < l.length
      · rw [List.getElem?_append_left hk] at hx
        obtain ⟨q1, q2⟩ := hall k x hx
        refine ⟨q1.kept ?_ ?_ ?_, q2⟩ <;> rw [e3, jm_st_nc _ _ _ (by omega), a2 _ (by omega) (by omega) (by omega), a1 _ (by omega)]
      · rw [List.getElem?_append_right (by omega)] at hx
        have hz : k - l.length < 1 := (List.getElem?_eq_some_iff.mp hx).1
        rw [show k - l.length = 0 by omega] at hx
        have hxe : h = x := by simpa using hx
        subst hxe
        rw [show (old' + k) % 6 = j by omega]
        exact ⟨HR.kept ⟨s2, f2⟩ (by rw [e3, jm_st_nc _ _ _ (by omega)]) (by rw [e3, jm_st_nc _ _ _ (by omega)]) (by rw [e3, jm_st_nc _ _ _ (by omega)]), hv⟩
    · rw [e3, jm_st_nc _ _ _ (by omega), a2 c (by omega) (by omega) (by omega), a1 c (by omega)]
  refine sX4_record_0 hE 1 jm_heard1 ⟨fun c => ?_, fun c => ?_⟩
  · rw [h3] at c
    simp (disch := omega) only [ii_lit, ii_neg, ii_add, ii_sub, ii_mul, ii_lt, ii_le, ii_eq] at c
    refine put μ old hist.length hist h1 (by omega) rfl h2 h3 (fun _ _ => rfl) h5 ?_
    unfold pushH
    rw [if_neg (by omega)]
  · rw [h3] at c
    simp (disch := omega) only [ii_lit, ii_neg, ii_add, ii_sub, ii_mul, ii_lt, ii_le, ii_eq] at c
    have hl6 : hist.length = 6 := by omega
    intro μ1 e1 μ2 e2
    have e9 : ii (old : Int) + 1 = ii (old + 1) := by simp (disch := omega) only [ii_lit, ii_neg, ii_add, ii_sub, ii_mul, ii_lt, ii_le, ii_eq]
    rw [h2, e9, ii_mod6 (by omega)] at e1
    have x1 : μ1 4 2 = ii 6 := by rw [e1, jm_st_ni _ _ _ (by decide), h3, hl6]; rfl
    rw [x1] at e2
    refine put μ2 ((old + 1) % 6) 5 (hist.drop 1) (Nat.mod_lt _ (by decide)) (by decide) (by simp; omega) ?_ ?_ (fun c cc => ?_) (fun k x hx => ?_) ?_
    · rw [e2, jm_st_ni _ _ _ (by decide), e1, jm_st_s]; congr 1
    · rw [e2, jm_st_s]
      decide
    · rw [e2, jm_st_nc _ _ _ cc, e1, jm_st_nc _ _ _ cc]
    · rw [List.getElem?_drop] at hx
      have := h5 (1 + k) x hx
      rw [show (old + (1 + k)) % 6 = ((old + 1) % 6 + k) % 6 by omega] at this
      exact this
    · unfold pushH
      rw [if_pos hl6]
theorem c_X8_beginChange {μ : Nat → Nat → Int32} {h : sH} {hist : List sH} (hh : HR μ 1 h) (hv : vH h) (hi : HI μ hist) (hp : ∀ μ' : Nat → Nat → Int32, HI μ' (pushH hist h) → μ' 0 9 = ii 1 → (∀ c : Nat, c ≠ 0 → ¬ (4 ≤ c ∧ c ≤ 23) → μ' c = μ c) → P none μ') : jD g ad m_X8_beginChange [.ref 0] μ P := by
  refine jd_intro [some (.ref 0)] (by decide) rfl rfl (fun κ hE => ?_)
  refine sX8_beginChange_0 hE (c_X4_record hh hv hi (fun μ1 h1 a1 => sX8_beginChange_11 hE ?_))
  intro μ2 e2
  refine hp μ2 (h1.kept (fun c c1 c2 => by rw [e2, jm_st_nc _ _ _ (by omega)])) ?_ (fun c c1 c2 => by rw [e2, jm_st_nc _ _ _ c1]; exact a1 c c2)
  rw [e2, jm_st_s]
  decide
theorem c_X4_takeBack {μ : Nat → Nat → Int32} {hist : List sH} {h : sH} (hi : HI μ (hist ++ [h])) (hp : ∀ μ' : Nat → Nat → Int32, HI μ' hist → HR μ' 1 h → vH h → (∀ c : Nat, ¬ (1 ≤ c ∧ c ≤ 3) → c ≠ 4 → μ' c = μ c) → P none μ') : jD g ad m_X4_takeBack [.ref 4, .ref 1] μ P := by
  refine jd_intro [some (.ref 4), some (.ref 1)] (by decide) rfl rfl (fun κ hE => ?_)
  obtain ⟨old, h1, h2, h3, h4, h5⟩ := hi
  have hl : (hist ++ [h]).length = hist.length + 1 := by simp
  rw [hl] at h3 h4
  refine sX4_takeBack_0 hE 1 jm_heard1 ⟨fun c => ?_, fun _ => ?_⟩
  · rw [h3] at c
    simp (disch := omega) only [ii_lit, ii_neg, ii_add, ii_sub, ii_mul, ii_lt, ii_le, ii_eq] at c
    omega
  intro μ1 e1
  have e9 : ii ((hist.length + 1 : Nat) : Int) - 1 = ii hist.length := by
    simp (disch := omega) only [ii_lit, ii_neg, ii_add, ii_sub, ii_mul, ii_lt, ii_le, ii_eq]
    congr 1
    omega
  rw [h3, e9] at e1
  have x1 : μ1 4 1 = ii old := by rw [e1, jm_st_ni _ _ _ (by decide)]; exact h2
  have x2 : μ1 4 2 = ii hist.length := by rw [e1, jm_st_s]
  rw [x1, x2, ii_add, ii_mod6 (by omega), ii_nat (by omega) (by omega)]
  refine ⟨ii_in (by omega) (by omega) (by omega), ?_⟩
  rw [show ((old + hist.length : Int) % 6).toNat = (old + hist.length) % 6 by omega]
  have hj : (old + hist.length) % 6 < 6 := Nat.mod_lt _ (by decide)
  obtain ⟨q1, q2⟩ := h5 hist.length h (by simp)
  generalize hjj : (old + hist.length) % 6 = j at *
  have hh1 : HR μ1 (6 + 3 * j) h := q1.kept (by rw [e1, jm_st_nc _ _ _ (by omega)]) (by rw [e1, jm_st_nc _ _ _ (by omega)]) (by rw [e1, jm_st_nc _ _ _ (by omega)])
  refine c_X3_become jm_heard1 (jm_states_heard hj) (by omega) hh1.2 hh1.1 (fun μ2 f2 s2 a2 => sX4_takeBack_38 hE 1 jm_heard1 ?_)
  refine hp μ2 ⟨old, h1, by rw [a2 4 (by omega) (by omega) (by omega)]; exact x1, by rw [a2 4 (by omega) (by omega) (by omega)]; exact x2, by omega, fun k x hx => ?_⟩ ⟨s2, f2⟩ q2 (fun c c1 c2 => by rw [a2 c (by omega) (by omega) (by omega), e1, jm_st_nc _ _ _ c2])
  have hk : k < hist.length := (List.getElem?_eq_some_iff.mp hx).1
  obtain ⟨r1, r2⟩ := h5 k x (by rw [List.getElem?_append_left hk]; exact hx)
  exact ⟨r1.kept (by rw [a2 _ (by omega) (by omega) (by omega), e1, jm_st_nc _ _ _ (by omega)]) (by rw [a2 _ (by omega) (by omega) (by omega), e1, jm_st_nc _ _ _ (by omega)]) (by rw [a2 _ (by omega) (by omega) (by omega), e1, jm_st_nc _ _ _ (by omega)]), r2⟩
/-- what is found in a state, at a heat, without a pulse (-1: with all) -/
def fd (h : sH) (heat z : Int) : fS3 := findF h.2.1 h.2.2 (h.1 1) (h.1 2) (spd heat) (own0F h.2.1 z) h.2.1
/-- the shots that are kept: stale, or those of the state -/
def ST (μ : Nat → Nat → Int32) (h : sH) : Prop := μ 0 9 = ii 1 ∨ (μ 0 9 = ii 0 ∧ SH μ 38 (fd h (h.1 0) (-1)))
theorem SH.kept {μ μ' : Nat → Nat → Int32} {u : Nat} {F : fS3} (h : SH μ u F) (hk : ∀ c : Nat, u ≤ c → c ≤ u + 18 → μ' c = μ c) : SH μ' u F := by
  obtain ⟨h1, h2, h3, h4⟩ := h
  exact ⟨fun j hj => by rw [hk (u + 2) (by omega) (by omega)]; exact h1 j hj, by rw [hk u (by omega) (by omega)]; exact h2, h3, fun k hk2 => (h4 k hk2).kept (hk _ (by omega) (by omega)) (hk _ (by omega) (by omega))⟩
theorem ST.kept {μ μ' : Nat → Nat → Int32} {h : sH} (hs : ST μ h) (h0 : μ' 0 = μ 0) (hk : ∀ c : Nat, 38 ≤ c → c ≤ 56 → μ' c = μ c) : ST μ' h := by
  rcases hs with hs | ⟨hs, hs2⟩
  · exact Or.inl (by rw [h0]; exact hs)
  · exact Or.inr ⟨by rw [h0]; exact hs, hs2.kept hk⟩
theorem c_X8_current {μ : Nat → Nat → Int32} {h : sH} (hh : HR μ 1 h) (hv : vH h) (hF : FI μ) (hs : ST μ h) (hp : ∀ μ' : Nat → Nat → Int32, FD μ' → FTm μ' (spd (h.1 0)) → ST μ' h → SH μ' 38 (fd h (h.1 0) (-1)) → (∀ c : Nat, c ≠ 0 → ¬ (29 ≤ c ∧ c ≤ 56) → μ' c = μ c) → P (some (.ref 38)) μ') : jD g ad m_X8_current [.ref 0] μ P := by
  refine jd_intro [some (.ref 0)] (by decide) rfl rfl (fun κ hE => ?_)
  obtain ⟨v0, v1, v2, vn, vB, vS⟩ := hv
  have s0 : μ 2 0 = ii (h.1 0) := hh.1 0 (by omega)
  refine sX8_current_0 hE ?_
  rw [s0]
  refine c_X2_tune v0 hF (fun μ1 d1 t1 a1 => sX8_current_16 hE ⟨fun c => ?_, fun c => ?_⟩)
  · have x9 : μ1 0 9 = μ 0 9 := by rw [a1 0 (by decide) (by decide)]
    rw [x9] at c
    rcases hs with hs | ⟨hs, hs2⟩
    · rw [hs] at c; exact absurd c (by decide)
    · refine hp μ1 d1 t1 (Or.inr ⟨by rw [x9]; exact hs, hs2.kept (fun c c1 c2 => a1 c (by omega) (by omega))⟩) (hs2.kept (fun c c1 c2 => a1 c (by omega) (by omega))) (fun c c1 c2 => a1 c (by omega) (by omega))
  · have hh1 : HR μ1 1 h := hh.kept (a1 _ (by decide) (by decide)) (a1 _ (by decide) (by decide)) (a1 _ (by decide) (by decide))
    have hsp := spd_rng v0.1 v0.2
    have em1 : (-1 : Int32) = ii (-1) := by decide
    rw [em1]
    refine c_X0_find jm_heard1 (by decide) jm_shots38 (by decide) hh1.2 vB vS (hh1.1 1 (by decide)) (by omega) (hh1.1 2 (by decide)) v2 (by omega) t1 d1 (by omega) (fun μ2 hs2 a2 => sX8_current_43 hE ?_)
    intro μ3 e3
    have hs3 : SH μ3 38 (fd h (h.1 0) (-1)) := SH.kept hs2 (fun c c1 c2 => by rw [e3, jm_st_nc _ _ _ (by omega)])
    refine hp μ3 (fun j hj => ?_) ⟨?_, fun j hj => ?_⟩ (Or.inr ⟨by rw [e3, jm_st_s]; decide, hs3⟩) hs3 (fun c c1 c2 => ?_)
    · rw [e3, jm_st_nc _ _ _ (by decide), a2 30 (by omega) (by omega)]; exact d1 j hj
    · rw [e3, jm_st_nc _ _ _ (by decide), a2 29 (by omega) (by omega)]; exact t1.1
    · rw [e3, jm_st_nc _ _ _ (by decide), a2 31 (by omega) (by omega)]; exact t1.2 j hj
    · rw [e3, jm_st_nc _ _ _ c1, a2 c (by omega) (by omega), a1 c (by omega) (by omega)]
theorem c_X8_tryOut {μ : Nat → Nat → Int32} {h : sH} {heat z : Int} (hh : HR μ 1 h) (hv : vH h) (hF : FI μ) (hheat : -30 ≤ heat ∧ heat ≤ 50) (hz : ir z) (hp : ∀ μ' : Nat → Nat → Int32, FI μ' → SH μ' 57 (fd h heat z) → (∀ c : Nat, ¬ (29 ≤ c ∧ c ≤ 37) → ¬ (57 ≤ c ∧ c ≤ 75) → μ' c = μ c) → P none μ') : jD g ad m_X8_tryOut [.ref 0, .int (ii heat), .int (ii z)] μ P := by
  refine jd_intro [some (.ref 0), some (.int (ii heat)), some (.int (ii z))] (by decide) rfl rfl (fun κ hE => ?_)
  obtain ⟨v0, v1, v2, vn, vB, vS⟩ := hv
  have hsp := spd_rng hheat.1 hheat.2
  refine sX8_tryOut_0 hE _ _ (c_X2_tune hheat hF (fun μ1 d1 t1 a1 => sX8_tryOut_8 hE _ ?_))
  have hh1 : HR μ1 1 h := hh.kept (a1 _ (by decide) (by decide)) (a1 _ (by decide) (by decide)) (a1 _ (by decide) (by decide))
  refine c_X0_find jm_heard1 (by decide) jm_shots57 (by decide) hh1.2 vB vS (hh1.1 1 (by decide)) (by omega) (hh1.1 2 (by decide)) v2 (by omega) t1 d1 hz (fun μ2 hs2 a2 => sX8_tryOut_28 hE (hp μ2 ⟨fun j hj => ?_, Or.inr ⟨spd heat, hsp.1, hsp.2, ?_, fun j hj => ?_⟩⟩ hs2 (fun c c1 c2 => ?_)))
  · rw [a2 30 (by omega) (by omega)]; exact d1 j hj
  · rw [a2 29 (by omega) (by omega)]; exact t1.1
  · rw [a2 31 (by omega) (by omega)]; exact t1.2 j hj
  · rw [a2 c (by omega) (by omega), a1 c (by omega) (by omega)]
end JC1
