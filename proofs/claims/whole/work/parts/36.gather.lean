section JGA
variable {g : jm_G} {ad : Nat → Nat} {P : Option Value → (Nat → Nat → Int32) → Prop}
/-- the pulses that are looked at, in the arrays near and nearSizes -/
def nearR (μ : Nat → Nat → Int32) (N : Int → List Nat) : Prop := ∀ e : Nat, e < 4 → μ 36 e = ii ((N e).length : Nat) ∧ (N e).length ≤ 2 ∧ ∀ (k v : Nat), (N e)[k]? = some v → μ 35 (2 * e + k) = ii v
/-- the same, as far as pulse i -/
def nearP (f : Nat → Int) (win : Int) (own : Nat → Int) (p i : Nat) (e : Int) : List Nat := if e = f p % 4 then [p] else ((List.range i).filter (cdQ f win own p e)).take 2
theorem nearP_len {f : Nat → Int} {win : Int} {own : Nat → Int} {p i : Nat} {e : Int} : (nearP f win own p i e).length ≤ 2 := near_len (n := i)
theorem nearP_skip {f : Nat → Int} {win : Int} {own : Nat → Int} {p i : Nat} (h : ∀ e : Int, e ≠ f p % 4 → cdQ f win own p e i = true → 2 ≤ (nearP f win own p i e).length) : nearP f win own p (i + 1) = nearP f win own p i := by
  funext e
  unfold nearP
  by_cases he : e = f p % 4
  · rw [if_pos he, if_pos he]
  · rw [if_neg he, if_neg he, filt_succ, if_neg]
    rintro ⟨h1, h2⟩
    have := h e he h1
    unfold nearP at this
    rw [if_neg he] at this
    omega
theorem c_X0_gather {μ : Nat → Nat → Int32} {q q3 n p : Nat} {f : Nat → Int} {win : Int} {own : Nat → Int} (hq : jm_Heard q) (hq9 : q + 2 < 35 ∨ 36 < q) (hq3 : jm_GAM[q3]? = some (.inr (0, 32, none))) (hq39 : 36 < q3) (hf : hF μ q n f) (hB : fB n f) (hS : fS n f) (hw : μ (q + 1) 1 = ii win) (hw9 : 0 ≤ win ∧ win ≤ 4000) (hp : p < n) (ho : ∀ j : Nat, j < 32 → μ q3 j = ii (own j)) (hor : ∀ j : Nat, j < n → ir (own j)) (hus : ∀ j : Nat, j ≤ p → own j ≠ -1)
    (h : ∀ μ' : Nat → Nat → Int32, nearR μ' (near n f win own p) → (∀ c : Nat, c ≠ 35 → c ≠ 36 → μ' c = μ c) → P none μ') : jD g ad m_X0_gather [.ref 32, .ref q, .int (ii p), .ref q3] μ P := by
  refine jd_intro [some (.ref 32), some (.ref q), some (.int (ii p)), some (.ref q3), none, none, none, none] (by decide) rfl rfl (fun κ hE => ?_)
  have hn := hf.2.1
  have hbp := hB p hp
  have kF : ∀ μ2 : Nat → Nat → Int32, (∀ c : Nat, c ≠ 35 → c ≠ 36 → μ2 c = μ c) → hF μ2 q n f := fun μ2 h2 => ⟨by rw [h2 q (by omega) (by omega)]; exact hf.1, hn, fun j hj => by rw [h2 (q + 2) (by omega) (by omega)]; exact hf.2.2 j hj⟩
  -- the walk through the later pulses
  have walk : ∀ (k i : Nat) (μ2 : Nat → Nat → Int32), i + k = n → p < i → (∀ c : Nat, c ≠ 35 → c ≠ 36 → μ2 c = μ c) → nearR μ2 (nearP f win own p i) → jS g ad m_X0_gather κ 67 [some (.ref 32), some (.ref q), none, some (.ref q3), some (.int (ii (f p % 4))), some (.int (ii (f p / 4 + win))), some (.int (ii i)), none] [] μ2 := by
    intro k
    induction k with
    | zero =>
      intro i μ2 hi hpi h2 hN
      refine sX0_gather_67 hE q hq q3 32 hq3 _ _ _ ⟨fun _ => ?_, fun c => ?_⟩
      · have e : i = n := by omega
        subst e
        exact h μ2 hN h2
      · rw [h2 q (by omega) (by omega), hf.1] at c
        simp (disch := omega) only [ii_lit, ii_neg, ii_add, ii_sub, ii_mul, ii_lt, ii_le, ii_eq] at c
        omega
    | succ k ih =>
      intro i μ2 hi hpi h2 hN
      have hF2 := kF μ2 h2
      have hbi := hB i (by omega)
      refine sX0_gather_67 hE q hq q3 32 hq3 _ _ _ ⟨fun c => ?_, fun _ => ?_⟩
      · rw [h2 q (by omega) (by omega), hf.1] at c
        simp (disch := omega) only [ii_lit, ii_neg, ii_add, ii_sub, ii_mul, ii_lt, ii_le, ii_eq] at c
        omega
      refine c_X3_timeOf hq hF2 hB (by omega) (sX0_gather_82 hE q hq q3 32 hq3 _ _ _ _ ⟨fun c => ?_, fun c => ?_⟩)
      · rw [ii_lt (by omega) (by omega)] at c
        have e : near n f win own p = nearP f win own p i := by
          funext e
          unfold near nearP
          by_cases he : e = f p % 4
          · rw [if_pos he, if_pos he]
          · rw [if_neg he, if_neg he, filt_same _ (by omega : i ≤ n)]
            intro j h3 h4
            have h5 : f i ≤ f j := by
              rcases Nat.lt_or_ge i j with h6 | h6
              · have := hS i j h6 h4
                omega
              · rw [show j = i by omega]
                exact Int.le_refl _
            refine decide_eq_false ?_
            rintro ⟨-, -, -, h7⟩
            omega
        rw [← e] at hN
        exact h μ2 hN h2
      · rw [ii_lt (by omega) (by omega)] at c
        have e5 : ii (i : Int) + 1 = ii ((i + 1 : Nat) : Int) := by simp (disch := omega) only [ii_lit, ii_neg, ii_add, ii_sub, ii_mul, ii_lt, ii_le, ii_eq]; rfl
        have hoi := hor i (by omega)
        refine c_X3_earOf hq hF2 hB (by omega) (sX0_gather_93 hE q hq q3 32 hq3 _ _ _ _ ?_)
        rw [ii_natN (by omega), h2 q3 (by omega) (by omega), ho i (by omega), ii_m1, ii_eq (by omega) (by omega), ii_eq (by omega) (by omega), e5]
        refine ⟨fun c2 => ?_, fun c2 => ⟨ii_in (by omega) (by omega) (by omega), fun c3 => ?_, fun c3 => ?_⟩⟩
        · refine ih (i + 1) μ2 (by omega) (by omega) h2 ?_
          rw [nearP_skip (fun e he hc => ?_)]
          · exact hN
          · have := of_decide_eq_true hc
            omega
        · refine ih (i + 1) μ2 (by omega) (by omega) h2 ?_
          rw [nearP_skip (fun e he hc => ?_)]
          · exact hN
          · have := of_decide_eq_true hc
            omega
        · obtain ⟨m1, m2, m3⟩ := hN (f i % 4).toNat (by omega)
          have ee : (((f i % 4).toNat : Nat) : Int) = f i % 4 := by omega
          rw [ee] at m1 m2 m3
          have e36 : (ii (f i % 4)).toNatClampNeg = (f i % 4).toNat := ii_nat (by omega) (by omega)
          refine ⟨ii_in (by omega) (by omega) (by omega), ?_⟩
          rw [e36, m1, ii_2, ii_le (by omega) (by omega)]
          refine ⟨fun c4 => ?_, fun c4 => ?_⟩
          · refine ih (i + 1) μ2 (by omega) (by omega) h2 ?_
            rw [nearP_skip (fun e he hc => ?_)]
            · exact hN
            · have h9 := of_decide_eq_true hc
              rw [← h9.1]
              omega
          · have e9 : ii (f i % 4) * ii 2 + ii ((nearP f win own p i (f i % 4)).length : Nat) = ii (f i % 4 * 2 + ((nearP f win own p i (f i % 4)).length : Nat)) := by simp (disch := omega) only [ii_lit, ii_neg, ii_add, ii_sub, ii_mul, ii_lt, ii_le, ii_eq]
            rw [e9]
            refine ⟨ii_in (by omega) (by omega) (by omega), ii_in (by omega) (by omega) (by omega), ?_⟩
            intro μ3 e3
            refine ⟨ii_in (by omega) (by omega) (by omega), ii_in (by omega) (by omega) (by omega), ?_⟩
            intro μ4 e4
            have x3 : μ3 36 (f i % 4).toNat = ii ((nearP f win own p i (f i % 4)).length : Nat) := by rw [e3, jm_st_nc _ _ _ (by decide)]; exact m1
            rw [x3] at e4
            rw [ii_nat (by omega) (by omega)] at e3
            refine ih (i + 1) μ4 (by omega) (by omega) (fun c h7 h8 => by rw [e4, jm_st_nc _ _ _ h8, e3, jm_st_nc _ _ _ h7]; exact h2 c h7 h8) ?_
            have happ : nearP f win own p (i + 1) (f i % 4) = nearP f win own p i (f i % 4) ++ [i] := by
              have hl : (nearP f win own p i (f i % 4)).length < 2 := by omega
              unfold nearP at hl ⊢
              rw [if_neg (by omega)] at hl
              have hlt : f p < f i := hS p i hpi (by omega)
              have hc9 : cdQ f win own p (f i % 4) i = true := decide_eq_true ⟨rfl, c3, by omega, by omega⟩
              rw [if_neg (by omega), if_neg (by omega), filt_succ, if_pos ⟨hc9, hl⟩]
            have hoth : ∀ e : Int, e ≠ f i % 4 → nearP f win own p (i + 1) e = nearP f win own p i e := by
              intro e he
              unfold nearP
              by_cases h9 : e = f p % 4
              · rw [if_pos h9, if_pos h9]
              · rw [if_neg h9, if_neg h9, filt_succ, if_neg]
                rintro ⟨h10, -⟩
                have := of_decide_eq_true h10
                omega
            intro e he
            obtain ⟨n1, n2, n3⟩ := hN e he
            by_cases hee : (e : Int) = f i % 4
            · have en : e = (f i % 4).toNat := by omega
              rw [hee, happ]
              refine ⟨?_, by simp; omega, fun k2 v hk => ?_⟩
              · rw [e4, en, jm_st_s]
                simp (disch := omega) only [ii_lit, ii_neg, ii_add, ii_sub, ii_mul, ii_lt, ii_le, ii_eq]
                simp
              · rw [e4, jm_st_nc _ _ _ (by decide), e3]
                by_cases hk2 : k2 < (nearP f win own p i (f i % 4)).length
                · rw [List.getElem?_append_left hk2] at hk
                  rw [jm_st_ni _ _ _ (by omega), en]
                  exact m3 k2 v hk
                · rw [List.getElem?_append_right (by omega)] at hk
                  have hz : k2 - (nearP f win own p i (f i % 4)).length < 1 := (List.getElem?_eq_some_iff.mp hk).1
                  rw [show k2 - (nearP f win own p i (f i % 4)).length = 0 by omega] at hk
                  have hv : i = v := by simpa using hk
                  subst hv
                  rw [show (f i % 4 * 2 + ((nearP f win own p i (f i % 4)).length : Nat) : Int).toNat = 2 * e + k2 by omega, jm_st_s]
            · rw [hoth e hee]
              refine ⟨?_, n2, fun k2 v hk => ?_⟩
              · rw [e4, jm_st_ni _ _ _ (by omega), e3, jm_st_nc _ _ _ (by decide)]
                exact n1
              · have hk3 : k2 < 2 := by
                  have := (List.getElem?_eq_some_iff.mp hk).1
                  omega
                rw [e4, jm_st_nc _ _ _ (by decide), e3, jm_st_ni _ _ _ (by omega)]
                exact n3 k2 v hk
  -- the ears' rows are emptied
  have zero : ∀ (k e : Nat) (μ2 : Nat → Nat → Int32), e + k = 4 → (∀ c : Nat, c ≠ 35 → c ≠ 36 → μ2 c = μ c) → (∀ j : Nat, j < e → μ2 36 j = ii 0) → jS g ad m_X0_gather κ 3 [some (.ref 32), some (.ref q), some (.int (ii p)), some (.ref q3), some (.int (ii e)), none, none, none] [] μ2 := by
    intro k
    induction k with
    | zero =>
      intro e μ2 hi h2 hz
      refine sX0_gather_3 hE q hq q3 32 hq3 _ _ ⟨fun _ => ?_, fun c => ?_⟩
      · refine c_X3_earOf hq (kF μ2 h2) hB hp (sX0_gather_28 hE q hq q3 32 hq3 _ _ ?_)
        have e9 : ii (f p % 4) * 2 = ii (f p % 4 * 2) := by simp (disch := omega) only [ii_lit, ii_neg, ii_add, ii_sub, ii_mul, ii_lt, ii_le, ii_eq]
        rw [e9]
        refine ⟨ii_in (by omega) (by omega) (by omega), ?_⟩
        intro μ3 e3
        refine ⟨ii_in (by omega) (by omega) (by omega), ?_⟩
        intro μ4 e4
        rw [ii_nat (by omega) (by omega)] at e3 e4
        have h4 : ∀ c : Nat, c ≠ 35 → c ≠ 36 → μ4 c = μ c := fun c h7 h8 => by rw [e4, jm_st_nc _ _ _ h8, e3, jm_st_nc _ _ _ h7]; exact h2 c h7 h8
        refine c_X3_timeOf hq (kF μ4 h4) hB hp (sX0_gather_53 hE q hq q3 32 hq3 _ _ _ ?_)
        have e5 : ii (p : Int) + 1 = ii ((p + 1 : Nat) : Int) := by simp (disch := omega) only [ii_lit, ii_neg, ii_add, ii_sub, ii_mul, ii_lt, ii_le, ii_eq]; rfl
        rw [h4 (q + 1) (by omega) (by omega), hw, ii_add, e5]
        refine walk (n - (p + 1)) (p + 1) μ4 (by omega) (by omega) h4 ?_
        intro e he
        unfold nearP
        by_cases hee : (e : Int) = f p % 4
        · rw [if_pos hee]
          refine ⟨?_, by simp, fun k2 v hk => ?_⟩
          · rw [e4, show (f p % 4).toNat = e by omega, jm_st_s]
            show (1 : Int32) = ii ((1 : Nat) : Int)
            decide
          · have hk3 : k2 < 1 := (List.getElem?_eq_some_iff.mp hk).1
            rw [show k2 = 0 by omega] at hk ⊢
            have hv : p = v := by simpa using hk
            subst hv
            rw [e4, jm_st_nc _ _ _ (by decide), e3, show (f p % 4 * 2).toNat = 2 * e + 0 by omega, jm_st_s]
        · rw [if_neg hee]
          have hnil : (List.range (p + 1)).filter (cdQ f win own p e) = [] := by
            rw [List.filter_eq_nil_iff]
            intro j hj hc
            have h9 := of_decide_eq_true hc
            exact hus j (by have := List.mem_range.mp hj; omega) h9.2.1
          rw [hnil]
          refine ⟨?_, by simp, fun k2 v hk => by simp at hk⟩
          rw [e4, jm_st_ni _ _ _ (by omega), e3, jm_st_nc _ _ _ (by decide)]
          exact hz e (by omega)
      · simp (disch := omega) only [ii_lit, ii_neg, ii_add, ii_sub, ii_mul, ii_lt, ii_le, ii_eq] at c
        omega
    | succ k ih =>
      intro e μ2 hi h2 hz
      refine sX0_gather_3 hE q hq q3 32 hq3 _ _ ⟨fun c => ?_, fun _ => ⟨ii_in (by omega) (by omega) (by omega), ?_⟩⟩
      · simp (disch := omega) only [ii_lit, ii_neg, ii_add, ii_sub, ii_mul, ii_lt, ii_le, ii_eq] at c
        omega
      · intro μ3 e3
        rw [ii_natN (by omega)] at e3
        have e5 : ii (e : Int) + 1 = ii ((e + 1 : Nat) : Int) := by simp (disch := omega) only [ii_lit, ii_neg, ii_add, ii_sub, ii_mul, ii_lt, ii_le, ii_eq]; rfl
        rw [e5]
        refine ih (e + 1) μ3 (by omega) (fun c h7 h8 => by rw [e3, jm_st_nc _ _ _ h8]; exact h2 c h7 h8) (fun j hj => ?_)
        rw [e3]
        by_cases c : j = e
        · subst c; rw [jm_st_s]; decide
        · rw [jm_st_ni _ _ _ c]; exact hz j (by omega)
  refine sX0_gather_0 hE q hq q3 32 hq3 _ ?_
  exact zero 4 0 μ (by omega) (fun _ _ _ => rfl) (fun j hj => by omega)
end JGA
