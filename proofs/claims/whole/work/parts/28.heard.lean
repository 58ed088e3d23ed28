section JHD
variable {g : jm_G} {ad : Nat → Nat} {μ : Nat → Nat → Int32} {P : Option Value → (Nat → Nat → Int32) → Prop}
/-- a row of n marks in an array of a Heard at q -/
def hF (μ : Nat → Nat → Int32) (q n : Nat) (f : Nat → Int) : Prop := μ q 2 = ii n ∧ n ≤ 32 ∧ ∀ j : Nat, j < n → μ (q + 2) j = ii (f j)
def fB (n : Nat) (f : Nat → Int) : Prop := ∀ j : Nat, j < n → 0 ≤ f j ∧ f j ≤ 399999
def fS (n : Nat) (f : Nat → Int) : Prop := ∀ i j : Nat, i < j → j < n → f i < f j
theorem c_X8_isEar {z : Int} (hz : ir z) (h1 : 0 ≤ z → z < 4 → P (some (.int 1)) μ) (h0 : ¬ (0 ≤ z ∧ z < 4) → P (some (.int 0)) μ) : jD g ad m_X8_isEar [.int (ii z)] μ P := by
  refine jd_intro [some (.int (ii z))] (by decide) rfl rfl (fun κ hE => ?_)
  refine sX8_isEar_0 hE _ ?_
  refine ⟨fun c => ?_, fun c => ⟨fun c2 => ?_, fun c2 => ?_⟩⟩
  · simp (disch := omega) only [ii_lit, ii_neg, ii_add, ii_sub, ii_mul, ii_lt, ii_le, ii_eq] at c
    exact h0 (by omega)
  · simp (disch := omega) only [ii_lit, ii_neg, ii_add, ii_sub, ii_mul, ii_lt, ii_le, ii_eq] at c c2
    exact h0 (by omega)
  · simp (disch := omega) only [ii_lit, ii_neg, ii_add, ii_sub, ii_mul, ii_lt, ii_le, ii_eq] at c c2
    exact h1 (by omega) (by omega)
theorem c_X8_isPoint {x y : Int} (hx : ir x) (hy : ir y) (h1 : 0 ≤ x → x ≤ 40 → 0 ≤ y → y ≤ 40 → P (some (.int 1)) μ) (h0 : ¬ (0 ≤ x ∧ x ≤ 40 ∧ 0 ≤ y ∧ y ≤ 40) → P (some (.int 0)) μ) : jD g ad m_X8_isPoint [.int (ii x), .int (ii y)] μ P := by
  refine jd_intro [some (.int (ii x)), some (.int (ii y))] (by decide) rfl rfl (fun κ hE => ?_)
  refine sX8_isPoint_0 hE _ _ ?_
  refine ⟨fun c => ?_, fun c => ⟨fun c2 => ?_, fun c2 => ⟨fun c3 => ?_, fun c3 => ⟨fun c4 => ?_, fun c4 => ?_⟩⟩⟩⟩
  · simp (disch := omega) only [ii_lit, ii_neg, ii_add, ii_sub, ii_mul, ii_lt, ii_le, ii_eq] at c
    exact h0 (by omega)
  · simp (disch := omega) only [ii_lit, ii_neg, ii_add, ii_sub, ii_mul, ii_lt, ii_le, ii_eq] at c c2
    exact h0 (by omega)
  · simp (disch := omega) only [ii_lit, ii_neg, ii_add, ii_sub, ii_mul, ii_lt, ii_le, ii_eq] at c c2 c3
    exact h0 (by omega)
  · simp (disch := omega) only [ii_lit, ii_neg, ii_add, ii_sub, ii_mul, ii_lt, ii_le, ii_eq] at c c2 c3 c4
    exact h0 (by omega)
  · simp (disch := omega) only [ii_lit, ii_neg, ii_add, ii_sub, ii_mul, ii_lt, ii_le, ii_eq] at c c2 c3 c4
    exact h1 (by omega) (by omega) (by omega) (by omega)
theorem c_X8_markOf {e t : Int} (h : P (some (.int (ii (t * 4 + e)))) μ) : jD g ad m_X8_markOf [.int (ii e), .int (ii t)] μ P := by
  refine jd_intro [some (.int (ii e)), some (.int (ii t))] (by decide) rfl rfl (fun κ hE => ?_)
  refine sX8_markOf_0 hE _ _ ?_
  simp (disch := omega) only [ii_lit, ii_neg, ii_add, ii_sub, ii_mul, ii_lt, ii_le, ii_eq]
  exact h
variable {q n : Nat} {f : Nat → Int}
theorem c_X3_isPulse {z : Int} (hq : jm_Heard q) (hf : hF μ q n f) (hz : ir z) (h1 : ∀ j : Nat, z = j → j < n → P (some (.int 1)) μ) (h0 : ¬ (0 ≤ z ∧ z < n) → P (some (.int 0)) μ) : jD g ad m_X3_isPulse [.ref q, .int (ii z)] μ P := by
  refine jd_intro [some (.ref q), some (.int (ii z))] (by decide) rfl rfl (fun κ hE => ?_)
  have hn := hf.2.1
  refine sX3_isPulse_0 hE q hq _ ?_
  rw [hf.1]
  refine ⟨fun c => ?_, fun c => ⟨fun c2 => ?_, fun c2 => ?_⟩⟩
  · simp (disch := omega) only [ii_lit, ii_neg, ii_add, ii_sub, ii_mul, ii_lt, ii_le, ii_eq] at c
    exact h0 (by omega)
  · simp (disch := omega) only [ii_lit, ii_neg, ii_add, ii_sub, ii_mul, ii_lt, ii_le, ii_eq] at c c2
    exact h0 (by omega)
  · simp (disch := omega) only [ii_lit, ii_neg, ii_add, ii_sub, ii_mul, ii_lt, ii_le, ii_eq] at c c2
    exact h1 z.toNat (by omega) (by omega)
theorem c_X3_earOf {j : Nat} (hq : jm_Heard q) (hf : hF μ q n f) (hB : fB n f) (hj : j < n) (h : P (some (.int (ii (f j % 4)))) μ) : jD g ad m_X3_earOf [.ref q, .int (ii j)] μ P := by
  refine jd_intro [some (.ref q), some (.int (ii j))] (by decide) rfl rfl (fun κ hE => ?_)
  have hn := hf.2.1
  have hb := hB j hj
  refine sX3_earOf_0 hE q hq _ ⟨ii_in (by omega) (by omega) (by omega), ?_⟩
  rw [ii_natN (by omega), hf.2.2 j hj, ii_lit, ii_rem hb.1 (by omega) (by omega) (by omega)]
  exact h
theorem c_X3_timeOf {j : Nat} (hq : jm_Heard q) (hf : hF μ q n f) (hB : fB n f) (hj : j < n) (h : P (some (.int (ii (f j / 4)))) μ) : jD g ad m_X3_timeOf [.ref q, .int (ii j)] μ P := by
  refine jd_intro [some (.ref q), some (.int (ii j))] (by decide) rfl rfl (fun κ hE => ?_)
  have hn := hf.2.1
  have hb := hB j hj
  refine sX3_timeOf_0 hE q hq _ ⟨ii_in (by omega) (by omega) (by omega), ?_⟩
  rw [ii_natN (by omega), hf.2.2 j hj, ii_lit, ii_div hb.1 (by omega) (by omega) (by omega)]
  exact h
/-- the place of a mark: behind all that are less -/
def isPl (n : Nat) (f : Nat → Int) (m : Int) (p : Nat) : Prop := p ≤ n ∧ (∀ j : Nat, j < p → f j < m) ∧ ∀ j : Nat, p ≤ j → j < n → m ≤ f j
theorem isPl.uniq {n : Nat} {f : Nat → Int} {m : Int} {p p' : Nat} (h : isPl n f m p) (h' : isPl n f m p') : p = p' := by
  rcases Nat.lt_trichotomy p p' with c | c | c
  · have h1 := h'.2.1 p c
    have h2 := h.2.2 p (Nat.le_refl _) (Nat.lt_of_lt_of_le c h'.1)
    omega
  · exact c
  · have h1 := h.2.1 p' c
    have h2 := h'.2.2 p' (Nat.le_refl _) (Nat.lt_of_lt_of_le c h.1)
    omega
theorem c_X3_placeOf {m : Int} (hq : jm_Heard q) (hf : hF μ q n f) (hB : fB n f) (hS : fS n f) (hm : ir m) (h : ∀ p : Nat, isPl n f m p → P (some (.int (ii p))) μ) : jD g ad m_X3_placeOf [.ref q, .int (ii m)] μ P := by
  refine jd_intro [some (.ref q), some (.int (ii m)), none] (by decide) rfl rfl (fun κ hE => ?_)
  have hn := hf.2.1
  have key : ∀ k p : Nat, p + k = n → (∀ j : Nat, j < p → f j < m) → jS g ad m_X3_placeOf κ 2 [some (.ref q), some (.int (ii m)), some (.int (ii p))] [] μ := by
    intro k
    induction k with
    | zero =>
      intro p hp hl
      refine sX3_placeOf_2 hE q hq _ _ ?_
      rw [hf.1]
      refine ⟨fun c => h p ⟨by omega, hl, fun j h1 h2 => by omega⟩, fun c => ?_⟩
      simp (disch := omega) only [ii_lit, ii_neg, ii_add, ii_sub, ii_mul, ii_lt, ii_le, ii_eq] at c
      omega
    | succ k ih =>
      intro p hp hl
      refine sX3_placeOf_2 hE q hq _ _ ?_
      have hb := hB p (by omega)
      rw [hf.1, ii_natN (by omega), hf.2.2 p (by omega)]
      refine ⟨fun c => ?_, fun c => ⟨ii_in (by omega) (by omega) (by omega), fun c2 => ?_, fun c2 => ?_⟩⟩
      · simp (disch := omega) only [ii_lit, ii_neg, ii_add, ii_sub, ii_mul, ii_lt, ii_le, ii_eq] at c
        omega
      · simp (disch := omega) only [ii_lit, ii_neg, ii_add, ii_sub, ii_mul, ii_lt, ii_le, ii_eq] at c2
        refine h p ⟨by omega, hl, fun j h1 h2 => ?_⟩
        rcases Nat.lt_or_ge p j with c3 | c3
        · have := hS p j c3 h2
          omega
        · rw [show j = p by omega]
          exact c2
      · simp (disch := omega) only [ii_lit, ii_neg, ii_add, ii_sub, ii_mul, ii_lt, ii_le, ii_eq] at c2
        have h9 := ih (p + 1) (by omega) (fun j hj => by
          rcases Nat.lt_or_ge j p with c3 | c3
          · exact hl j c3
          · rw [show j = p by omega]
            omega)
        simp (disch := omega) only [ii_lit, ii_neg, ii_add, ii_sub, ii_mul, ii_lt, ii_le, ii_eq]
        exact h9
  exact sX3_placeOf_0 hE q hq _ (key n 0 (by omega) (fun j hj => by omega))
end JHD
