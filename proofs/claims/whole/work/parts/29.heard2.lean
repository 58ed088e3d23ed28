section JHE
variable {g : jm_G} {ad : Nat → Nat} {μ : Nat → Nat → Int32} {P : Option Value → (Nat → Nat → Int32) → Prop} {q n : Nat} {f : Nat → Int}
/-- is there such a mark -/
def hasF (n : Nat) (f : Nat → Int) (m : Int) : Prop := ∃ j : Nat, j < n ∧ f j = m
theorem c_X3_has {m : Int} (hq : jm_Heard q) (hf : hF μ q n f) (hB : fB n f) (hS : fS n f) (hm : ir m) (h1 : hasF n f m → P (some (.int 1)) μ) (h0 : ¬ hasF n f m → P (some (.int 0)) μ) : jD g ad m_X3_has [.ref q, .int (ii m)] μ P := by
  refine jd_intro [some (.ref q), some (.int (ii m)), none] (by decide) rfl rfl (fun κ hE => ?_)
  have hn := hf.2.1
  refine sX3_has_0 hE q hq _ (c_X3_placeOf hq hf hB hS hm (fun p hp => ?_))
  obtain ⟨hp1, hp2, hp3⟩ := hp
  refine sX3_has_5 hE q hq _ _ ?_
  rw [hf.1]
  refine ⟨fun c => ?_, fun c => ⟨?_, fun c2 => ?_, fun c2 => ?_⟩⟩
  · simp (disch := omega) only [ii_lit, ii_neg, ii_add, ii_sub, ii_mul, ii_lt, ii_le, ii_eq] at c
    refine h0 (fun ⟨j, hj, e⟩ => ?_)
    have := hp2 j (by omega)
    omega
  · simp (disch := omega) only [ii_lit, ii_neg, ii_add, ii_sub, ii_mul, ii_lt, ii_le, ii_eq] at c
    exact ii_in (by omega) (by omega) (by omega)
  · simp (disch := omega) only [ii_lit, ii_neg, ii_add, ii_sub, ii_mul, ii_lt, ii_le, ii_eq] at c
    have hb := hB p (by omega)
    rw [ii_natN (by omega), hf.2.2 p (by omega)] at c2
    simp (disch := omega) only [ii_lit, ii_neg, ii_add, ii_sub, ii_mul, ii_lt, ii_le, ii_eq] at c2
    refine h0 (fun ⟨j, hj, e⟩ => ?_)
    rcases Nat.lt_trichotomy j p with c3 | c3 | c3
    · have := hp2 j c3
      omega
    · subst c3
      exact c2 e
    · have := hS p j c3 hj
      have := hp3 p (Nat.le_refl _) (by omega)
      omega
  · simp (disch := omega) only [ii_lit, ii_neg, ii_add, ii_sub, ii_mul, ii_lt, ii_le, ii_eq] at c
    have hb := hB p (by omega)
    rw [ii_natN (by omega), hf.2.2 p (by omega)] at c2
    simp (disch := omega) only [ii_lit, ii_neg, ii_add, ii_sub, ii_mul, ii_lt, ii_le, ii_eq] at c2
    exact h1 ⟨p, by omega, c2⟩
theorem c_X3_refusalOf {m : Int} (hq : jm_Heard q) (hf : hF μ q n f) (hB : fB n f) (hS : fS n f) (hm : ir m) (h1 : hasF n f m → P (some (.int (ii (-5)))) μ) (h2 : ¬ hasF n f m → n = 32 → P (some (.int (ii (-4)))) μ) (h0 : ¬ hasF n f m → n < 32 → P (some (.int (ii 0))) μ) : jD g ad m_X3_refusalOf [.ref q, .int (ii m)] μ P := by
  refine jd_intro [some (.ref q), some (.int (ii m))] (by decide) rfl rfl (fun κ hE => ?_)
  have hn := hf.2.1
  refine sX3_refusalOf_0 hE q hq _ (c_X3_has hq hf hB hS hm (fun c => ?_) (fun c => ?_))
  · refine sX3_refusalOf_5 hE q hq _ ⟨fun c2 => absurd c2 (by decide), fun _ => h1 c⟩
  · refine sX3_refusalOf_5 hE q hq _ ⟨fun _ => ?_, fun c2 => absurd rfl c2⟩
    rw [hf.1]
    refine ⟨fun c2 => ?_, fun c2 => ?_⟩
    · simp (disch := omega) only [ii_lit, ii_neg, ii_add, ii_sub, ii_mul, ii_lt, ii_le, ii_eq] at c2
      exact h2 c (by omega)
    · simp (disch := omega) only [ii_lit, ii_neg, ii_add, ii_sub, ii_mul, ii_lt, ii_le, ii_eq] at c2
      exact h0 c (by omega)
def insF (f : Nat → Int) (p : Nat) (m : Int) : Nat → Int := fun j => if j < p then f j else if j = p then m else f (j - 1)
def delF (f : Nat → Int) (p : Nat) : Nat → Int := fun j => if j < p then f j else f (j + 1)
theorem c_X3_add {m : Int} (hq : jm_Heard q) (hf : hF μ q n f) (hB : fB n f) (hS : fS n f) (hm : 0 ≤ m ∧ m ≤ 399999) (hn2 : n < 32) (h : ∀ (p : Nat) (μ' : Nat → Nat → Int32), isPl n f m p → hF μ' q (n + 1) (insF f p m) → (∀ c : Nat, c ≠ q → c ≠ q + 2 → μ' c = μ c) → P (some (.int (ii p))) μ') : jD g ad m_X3_add [.ref q, .int (ii m)] μ P := by
  refine jd_intro [some (.ref q), some (.int (ii m)), none] (by decide) rfl rfl (fun κ hE => ?_)
  have hn := hf.2.1
  refine sX3_add_0 hE q hq _ ⟨fun c => ?_, fun c => ?_⟩
  · refine c_X3_placeOf hq hf hB hS (by omega) (fun p hp => ?_)
    have hp1 := hp.1
    refine sX3_add_17 hE q hq _ _ ?_
    rw [hf.1]
    simp (disch := omega) only [ii_lit, ii_neg, ii_add, ii_sub, ii_mul, ii_lt, ii_le, ii_eq]
    rw [ii_nat (by omega) (by omega), ii_nat (by omega) (by omega), ii_nat (by omega) (by omega)]
    refine ⟨by omega, by omega, by omega, by omega, by omega, ?_⟩
    intro μ1 e1
    refine ⟨ii_in (by omega) (by omega) (by omega), ?_⟩
    intro μ2 e2 μ3 e3
    refine h p μ3 hp ?_ ?_
    · have hx : μ2 q 2 = ii n := by
        rw [e2, jm_st_nc _ _ _ (by omega), e1, jm_up_n _ _ (by omega)]
        exact hf.1
      refine ⟨?_, by omega, fun j hj => ?_⟩
      · rw [e3, jm_st_s, hx]
        simp (disch := omega) only [ii_lit, ii_neg, ii_add, ii_sub, ii_mul, ii_lt, ii_le, ii_eq]
        rw [Int.natCast_add]
        rfl
      · rw [e3, jm_st_nc _ _ _ (by omega), e2, jm_st_e, e1, jm_up_s]
        simp only [insF]
        by_cases c1 : j = p
        · rw [if_pos ⟨by trivial, by omega⟩, if_neg (by omega), if_pos c1]
        · rw [if_neg (fun c2 => c1 (by omega))]
          by_cases c2 : j < p
          · rw [if_pos c2, va_cpy, if_neg (by omega)]
            exact hf.2.2 j (by omega)
          · rw [if_neg c2, if_neg c1, va_cpy, if_pos (by omega)]
            rw [show (p : Int).toNat + (j - (p + 1 : Int).toNat) = j - 1 by omega]
            exact hf.2.2 (j - 1) (by omega)
    · intro c c1 c2
      rw [e3, jm_st_nc _ _ _ c1, e2, jm_st_nc _ _ _ c2, e1, jm_up_n _ _ c2]
  · rw [hf.1] at c
    simp (disch := omega) only [ii_lit, ii_neg, ii_add, ii_sub, ii_mul, ii_lt, ii_le, ii_eq] at c
    omega
theorem c_X3_remove {j : Nat} (hq : jm_Heard q) (hf : hF μ q n f) (hj : j < n) (h : ∀ μ' : Nat → Nat → Int32, hF μ' q (n - 1) (delF f j) → (∀ c : Nat, c ≠ q → c ≠ q + 2 → μ' c = μ c) → P none μ') : jD g ad m_X3_remove [.ref q, .int (ii j)] μ P := by
  refine jd_intro [some (.ref q), some (.int (ii j))] (by decide) rfl rfl (fun κ hE => ?_)
  have hn := hf.2.1
  refine sX3_remove_0 hE q hq _ (c_X3_isPulse hq hf (by omega) (fun j2 e1 e2 => ?_) (fun c => absurd (by omega) c))
  refine sX3_remove_5 hE q hq _ _ ⟨fun c => absurd c (by decide), fun _ => ?_⟩
  intro μ1 e1
  have hx : μ1 q 2 = ii (n - 1) := by
    rw [e1, jm_st_s, hf.1]
    simp (disch := omega) only [ii_lit, ii_neg, ii_add, ii_sub, ii_mul, ii_lt, ii_le, ii_eq]
  rw [hx]
  simp (disch := omega) only [ii_lit, ii_neg, ii_add, ii_sub, ii_mul, ii_lt, ii_le, ii_eq]
  rw [ii_nat (by omega) (by omega), ii_nat (by omega) (by omega), ii_nat (by omega) (by omega)]
  refine ⟨by omega, by omega, by omega, by omega, by omega, ?_⟩
  intro μ2 e2
  refine h μ2 ⟨?_, by omega, fun i hi => ?_⟩ (fun c c1 c2 => ?_)
  · rw [e2, jm_up_n _ _ (by omega), hx]
    congr 1
    omega
  · rw [e2, jm_up_s, e1, jm_st_nc _ _ _ (by omega), va_cpy]
    simp only [delF]
    by_cases c : i < j
    · rw [if_neg (by omega), if_pos c]
      exact hf.2.2 i (by omega)
    · rw [if_pos (by omega), if_neg c, show ((j : Int) + 1).toNat + (i - (j : Int).toNat) = i + 1 by omega]
      exact hf.2.2 (i + 1) (by omega)
  · rw [e2, jm_up_n _ _ c2, e1, jm_st_nc _ _ _ c1]
/-- the three settings of a Heard -/
def sF (μ : Nat → Nat → Int32) (q : Nat) (s : Nat → Int) : Prop := ∀ i : Nat, i < 3 → μ (q + 1) i = ii (s i)
theorem c_X3_become {q2 : Nat} {s : Nat → Int} (hq : jm_Heard q) (hq2 : jm_Heard q2) (hne : q2 ≠ q ∧ q2 ≠ q + 1 ∧ q2 ≠ q + 2 ∧ q2 + 1 ≠ q + 1 ∧ q2 + 2 ≠ q + 1 ∧ q2 + 1 ≠ q + 2 ∧ q2 + 2 ≠ q + 2 ∧ q2 + 1 ≠ q ∧ q2 + 2 ≠ q) (hf : hF μ q2 n f) (hs : sF μ q2 s) (h : ∀ μ' : Nat → Nat → Int32, hF μ' q n f → sF μ' q s → (∀ c : Nat, c ≠ q → c ≠ q + 1 → c ≠ q + 2 → μ' c = μ c) → P none μ') : jD g ad m_X3_become [.ref q, .ref q2] μ P := by
  refine jd_intro [some (.ref q), some (.ref q2)] (by decide) rfl rfl (fun κ hE => ?_)
  have hn := hf.2.1
  refine sX3_become_0 hE q hq q2 hq2 ?_
  refine ⟨by decide, by decide, by decide, by decide, by decide, ?_⟩
  intro μ1 e1
  have hx : μ1 q2 2 = ii n := by
    rw [e1, jm_up_n _ _ (by omega)]
    exact hf.1
  rw [hx, ii_natN (by omega)]
  have e30 : (0 : Int32).toNatClampNeg = 0 := by decide
  have e33 : (3 : Int32).toNatClampNeg = 3 := by decide
  rw [e30]
  refine ⟨by decide, by decide, ?_, by omega, by omega, ?_⟩
  · simp (disch := omega) only [ii_lit, ii_neg, ii_add, ii_sub, ii_mul, ii_lt, ii_le, ii_eq]
    omega
  intro μ2 e2 μ3 e3
  have hx2 : μ2 q2 2 = ii n := by
    rw [e2, jm_up_n _ _ (by omega)]
    exact hx
  refine h μ3 ⟨?_, by omega, fun j hj => ?_⟩ (fun i hi => ?_) (fun c c1 c2 c3 => ?_)
  · rw [e3, jm_st_s, hx2]
  · rw [e3, jm_st_nc _ _ _ (by omega), e2, jm_up_s, va_cpy, if_pos (by omega), e1, jm_up_n _ _ (by omega), show 0 + (j - 0) = j by omega]
    exact hf.2.2 j hj
  · rw [e3, jm_st_nc _ _ _ (by omega), e2, jm_up_n _ _ (by omega), e1, jm_up_s, e30, e33, va_cpy, if_pos (by omega), show 0 + (i - 0) = i by omega]
    exact hs i hi
  · rw [e3, jm_st_nc _ _ _ c1, e2, jm_up_n _ _ c3, e1, jm_up_n _ _ c2]
end JHE
