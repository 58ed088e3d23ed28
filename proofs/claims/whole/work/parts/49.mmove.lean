section JM2
variable {g : jm_G} {ad : Nat → Nat} {P : Option Value → (Nat → Nat → Int32) → Prop}
theorem c_X9_moves {μ : Nat → Nat → Int32} {p1 np1 p3 np3 f t : Nat} (hp1 : jm_GAM[p1]? = some (.inr (0, np1, none))) (hp3 : jm_GAM[p3]? = some (.inr (0, np3, none))) (hne : p1 ≠ p3) (hf : f + 68 ≤ np1) (ht : t + 68 ≤ np3) (h1 : np1 ≤ 10000) (h3 : np3 ≤ 10000)
    (hp : ∀ μ' : Nat → Nat → Int32, (∀ j : Nat, j < 68 → μ' p3 (t + j) = μ p1 (f + j)) → (∀ j : Nat, ¬ (t ≤ j ∧ j < t + 68) → μ' p3 j = μ p3 j) → (∀ c : Nat, c ≠ p3 → μ' c = μ c) → P none μ') : jD g ad m_X9_moves [.ref p1, .int (ii f), .ref p3, .int (ii t)] μ P := by
  refine jd_intro [some (.ref p1), some (.int (ii f)), some (.ref p3), some (.int (ii t)), none] (by decide) rfl rfl (fun κ hE => ?_)
  have key : ∀ (k i : Nat) (μ1 : Nat → Nat → Int32), i + k = 68 → (∀ j : Nat, j < i → μ1 p3 (t + j) = μ p1 (f + j)) → (∀ j : Nat, ¬ (t ≤ j ∧ j < t + 68) → μ1 p3 j = μ p3 j) → (∀ c : Nat, c ≠ p3 → μ1 c = μ c) → jS g ad m_X9_moves κ 3 [some (.ref p1), some (.int (ii f)), some (.ref p3), some (.int (ii t)), some (.int (ii i))] [] μ1 := by
    intro k
    induction k with
    | zero =>
      intro i μ1 hi a b c
      refine sX9_moves_3 hE p1 np1 hp1 p3 np3 hp3 _ _ _ ⟨fun _ => hp μ1 (fun j hj => a j (by omega)) b c, fun q => ?_⟩
      simp (disch := omega) only [ii_lit, ii_neg, ii_add, ii_sub, ii_mul, ii_lt, ii_le, ii_eq] at q
      omega
    | succ k ih =>
      intro i μ1 hi a b c
      have e5 : ii (i : Int) + 1 = ii ((i + 1 : Nat) : Int) := by simp (disch := omega) only [ii_lit, ii_neg, ii_add, ii_sub, ii_mul, ii_lt, ii_le, ii_eq]; rfl
      refine sX9_moves_3 hE p1 np1 hp1 p3 np3 hp3 _ _ _ ⟨fun q => ?_, fun _ => ?_⟩
      · simp (disch := omega) only [ii_lit, ii_neg, ii_add, ii_sub, ii_mul, ii_lt, ii_le, ii_eq] at q
        omega
      · rw [ii_add, ii_add, e5]
        refine ⟨ii_in (by omega) (by omega) (by omega), ii_in (by omega) (by omega) (by omega), ?_⟩
        intro μ2 e2
        rw [ii_nat (by omega) (by omega), ii_nat (by omega) (by omega), show ((t : Int) + i).toNat = t + i by omega, show ((f : Int) + i).toNat = f + i by omega, c p1 hne] at e2
        refine ih (i + 1) μ2 (by omega) (fun j hj => ?_) (fun j hj => ?_) (fun d hd => by rw [e2, jm_st_nc _ _ _ hd]; exact c d hd)
        · rw [e2]
          by_cases c1 : j = i
          · rw [c1, jm_st_s]
          · rw [jm_st_ni _ _ _ (by omega)]; exact a j (by omega)
        · rw [e2, jm_st_ni _ _ _ (by omega)]; exact b j hj
  refine sX9_moves_0 hE p1 np1 hp1 p3 np3 hp3 _ _ ?_
  exact key 68 0 μ (by omega) (fun j hj => by omega) (fun _ _ => rfl) (fun _ _ => rfl)
theorem c_X9_root {μ : Nat → Nat → Int32} {v : Int} (hv : 0 ≤ v ∧ v < 67108864) (h : P (some (.int (ii (rt v)))) μ) : jD g ad m_X9_root [.int (ii v)] μ P := by
  refine jd_intro [some (.int (ii v)), none, none] (by decide) rfl rfl (fun κ hE => ?_)
  have key : ∀ (k : Nat) (r : Int), k ≤ 13 → 0 ≤ r → r + 2 ^ k ≤ 8192 → P (some (.int (ii (rtF v k r)))) μ → jS g ad m_X9_root κ 6 [some (.int (ii v)), some (.int (ii r)), some (.int (ii (btI k)))] [] μ := by
    intro k
    induction k with
    | zero =>
      intro r _ h0 _ hp
      refine sX9_root_6 hE _ _ _ ⟨fun _ => hp, fun c => absurd (by decide) c⟩
    | succ k ih =>
      intro r hk h0 hr hp
      have hp0 : (0 : Int) < 2 ^ k := Int.pow_pos (by decide)
      have hp1 : (2 : Int) ^ k ≤ 2 ^ 13 := two_pow_le (by omega)
      have hp2 : (2 : Int) ^ 13 = 8192 := by decide
      have e : (2 : Int) ^ (k + 1) = 2 ^ k + 2 ^ k := by rw [Int.pow_succ]; omega
      have hm : (r + 2 ^ k) * (r + 2 ^ k) ≤ 8192 * 8192 := Int.mul_le_mul (by omega) (by omega) (by omega) (by decide)
      have hm0 : 0 ≤ (r + 2 ^ k) * (r + 2 ^ k) := Int.mul_nonneg (by omega) (by omega)
      have hb : ii (btI (k + 1)) / 2 = ii (btI k) := by
        rw [ii_lit, ii_div (by simp only [btI]; omega) (by simp only [btI]; omega) (by decide) (by decide), btI_half]
      refine sX9_root_6 hE _ _ _ ⟨fun c => ?_, fun c => ⟨fun c2 => ?_, fun c2 => ?_⟩⟩
      · rw [ii_0, ii_le (by simp only [btI]; omega) (by omega)] at c
        simp only [btI] at c
        omega
      · rw [ii_add, ii_mul, ii_lt (by omega) (by simp only [btI]; omega)] at c2
        simp only [btI] at c2
        simp only [rtF] at hp
        rw [if_pos c2] at hp
        rw [hb, ii_0, ii_add, Int.add_zero]
        exact ih r (by omega) h0 (by omega) hp
      · rw [ii_add, ii_mul, ii_lt (by omega) (by simp only [btI]; omega)] at c2
        simp only [btI] at c2
        simp only [rtF] at hp
        rw [if_neg c2] at hp
        rw [hb, ii_add]
        exact ih (r + 2 ^ k) (by omega) (by omega) (by omega) hp
  refine sX9_root_0 hE _ ?_
  have h13 := key 13 0 (Nat.le_refl _) (by decide) (by decide) h
  have e1 : (0 : Int32) = ii 0 := by decide
  have e2 : (4096 : Int32) = ii (btI 13) := by decide
  rw [e1, e2]
  exact h13
/-- the reference's history -/
def MH (μ : Nat → Nat → Int32) (hist : List sH) : Prop := μ 82 3 = ii hist.length ∧ hist.length ≤ 6 ∧ ∀ (k : Nat) (h : sH), hist[k]? = some h → MR μ 85 (68 * k) h ∧ vH h
theorem MH.kept {μ μ' : Nat → Nat → Int32} {hist : List sH} (h : MH μ hist) (h3 : μ' 82 3 = μ 82 3) (h85 : μ' 85 = μ 85) : MH μ' hist := by
  obtain ⟨a, b, c⟩ := h
  exact ⟨by rw [h3]; exact a, b, fun k x hx => ⟨(c k x hx).1.same (fun j _ => by rw [h85]), (c k x hx).2⟩⟩
theorem c_X9_record {μ : Nat → Nat → Int32} {h : sH} {hist : List sH} (hh : MS μ h) (hv : vH h) (hi : MH μ hist) (hp : ∀ μ' : Nat → Nat → Int32, MH μ' (pushH hist h) → (∀ j : Nat, j ≠ 3 → μ' 82 j = μ 82 j) → (∀ c : Nat, c ≠ 82 → c ≠ 85 → μ' c = μ c) → P none μ') : jD g ad m_X9_record [.ref 82] μ P := by
  refine jd_intro [some (.ref 82), none] (by decide) rfl rfl (fun κ hE => ?_)
  obtain ⟨a1, a2, a3⟩ := hi
  -- the last step: the state comes behind a list of m states
  have put : ∀ (μ1 : Nat → Nat → Int32) (l : List sH), l.length < 6 → μ1 82 3 = ii l.length → (∀ j : Nat, j ≠ 3 → μ1 82 j = μ 82 j) → (∀ c : Nat, c ≠ 82 → c ≠ 85 → μ1 c = μ c) → (∀ (k : Nat) (x : sH), l[k]? = some x → MR μ1 85 (68 * k) x ∧ vH x) → l ++ [h] = pushH hist h → jD g ad m_X9_moves [.ref 83, .int 0, .ref 85, .int (μ1 82 3 * 68)] μ1 (fun v μ' => jS g ad m_X9_record κ 68 [some (.ref 82), none] (jm_ps v []) μ') := by
    intro μ1 l hl e1 k1 k2 hall hpu
    have e68 : (68 : Int32) = ii 68 := by decide
    rw [e1, e68, ii_mul, show (l.length : Int) * 68 = ((68 * l.length : Nat) : Int) by omega, ii_0]
    refine c_X9_moves (f := 0) ga_83 ga_85 (by decide) (by decide) (by omega) (by decide) (by decide) (fun μ2 m1 m2 m3 => sX9_record_68 hE ?_)
    intro μ3 e3
    have x3 : μ2 82 3 = ii l.length := by rw [m3 82 (by decide)]; exact e1
    rw [x3] at e3
    refine hp μ3 ⟨?_, pushH_len a2, fun k x hx => ?_⟩ (fun j hj => by rw [e3, jm_st_ni _ _ _ hj, m3 82 (by decide)]; exact k1 j hj) (fun c c1 c2 => by rw [e3, jm_st_nc _ _ _ c1, m3 c c2]; exact k2 c c1 c2)
    · rw [e3, jm_st_s, ← hpu]
      simp (disch := omega) only [ii_lit, ii_neg, ii_add, ii_sub, ii_mul, ii_lt, ii_le, ii_eq]
      simp
    · rw [← hpu] at hx
      by_cases hk : k < l.length
      · rw [List.getElem?_append_left hk] at hx
        obtain ⟨q1, q2⟩ := hall k x hx
        exact ⟨q1.same (fun j hj => by rw [e3, jm_st_nc _ _ _ (by decide), m2 _ (by omega)]), q2⟩
      · rw [List.getElem?_append_right (by omega)] at hx
        have hz : k - l.length < 1 := (List.getElem?_eq_some_iff.mp hx).1
        rw [show k - l.length = 0 by omega] at hx
        have hxe : h = x := by simpa using hx
        subst hxe
        rw [show k = l.length by omega]
        exact ⟨(MS_iff.mpr hh).same (fun j hj => by rw [e3, jm_st_nc _ _ _ (by decide), m1 j hj, k2 83 (by decide) (by decide)]), hv⟩
  refine sX9_record_0 hE ⟨fun c => ?_, fun c => ?_⟩
  · rw [a1, ii_lit 6, ii_eq (by omega) (by decide)] at c
    have c : ¬ (hist.length : Int) = 6 := c
    refine put μ hist (by omega) a1 (fun _ _ => rfl) (fun _ _ _ => rfl) a3 ?_
    unfold pushH
    rw [if_neg (by omega)]
  · rw [a1, ii_lit 6, ii_eq (by omega) (by decide)] at c
    have c : (hist.length : Int) = 6 := c
    have hl6 : hist.length = 6 := by omega
    have key : ∀ (k i : Nat) (μ1 : Nat → Nat → Int32), i + k = 340 → (∀ j : Nat, j < i → μ1 85 j = μ 85 (j + 68)) → (∀ j : Nat, i ≤ j → μ1 85 j = μ 85 j) → (∀ c : Nat, c ≠ 85 → μ1 c = μ c) → jS g ad m_X9_record κ 11 [some (.ref 82), some (.int (ii i))] [] μ1 := by
      intro k
      induction k with
      | zero =>
        intro i μ1 hi b1 b2 b3
        refine sX9_record_11 hE _ ⟨fun _ => ?_, fun q => ?_⟩
        · intro μ2 e2
          have x3 : μ1 82 3 = ii 6 := by rw [b3 82 (by decide), a1, hl6]; rfl
          rw [x3] at e2
          refine put μ2 (hist.drop 1) (by simp; omega) ?_ (fun j hj => by rw [e2, jm_st_ni _ _ _ hj, b3 82 (by decide)]) (fun c c1 c2 => by rw [e2, jm_st_nc _ _ _ c1, b3 c c2]) (fun k x hx => ?_) ?_
          · rw [e2, jm_st_s, List.length_drop, hl6]
            decide
          · have hk5 : k < 5 := by
              have := (List.getElem?_eq_some_iff.mp hx).1
              rw [List.length_drop] at this
              omega
            rw [List.getElem?_drop] at hx
            obtain ⟨q1, q2⟩ := a3 (1 + k) x hx
            exact ⟨q1.same (fun j hj => by rw [e2, jm_st_nc _ _ _ (by decide), b1 _ (by omega), show 68 * k + j + 68 = 68 * (1 + k) + j by omega]), q2⟩
          · unfold pushH
            rw [if_pos hl6]
        · rw [ii_lit 340, ii_le (by decide) (by omega)] at q
          have q : ¬ (340 : Int) ≤ (i : Int) := q
          omega
      | succ k ih =>
        intro i μ1 hi b1 b2 b3
        have e5 : ii (i : Int) + 1 = ii ((i + 1 : Nat) : Int) := by simp (disch := omega) only [ii_lit, ii_neg, ii_add, ii_sub, ii_mul, ii_lt, ii_le, ii_eq]; rfl
        refine sX9_record_11 hE _ ⟨fun q => ?_, fun q => ?_⟩
        · rw [ii_lit 340, ii_le (by decide) (by omega)] at q
          have q : (340 : Int) ≤ (i : Int) := q
          omega
        · have e68 : (68 : Int32) = ii 68 := by decide
          rw [e68, ii_add, e5]
          refine ⟨ii_in (by omega) (by omega) (by omega), ii_in (by omega) (by omega) (by omega), ?_⟩
          intro μ2 e2
          rw [ii_natN (by omega), ii_nat (by omega) (by omega), show ((i : Int) + 68).toNat = i + 68 by omega, b2 (i + 68) (by omega)] at e2
          refine ih (i + 1) μ2 (by omega) (fun j hj => ?_) (fun j hj => ?_) (fun c c1 => by rw [e2, jm_st_nc _ _ _ c1]; exact b3 c c1)
          · rw [e2]
            by_cases c1 : j = i
            · rw [c1, jm_st_s]
            · rw [jm_st_ni _ _ _ c1]; exact b1 j (by omega)
          · rw [e2, jm_st_ni _ _ _ (by omega)]; exact b2 j (by omega)
    exact key 340 0 μ (by omega) (fun j hj => by omega) (fun _ _ => rfl) (fun _ _ => rfl)
/-- the reference's table of times -/
def MTm (μ : Nat → Nat → Int32) (sp : Int) : Prop := μ 82 10 = ii sp ∧ ∀ p e : Nat, p < 1681 → e < 4 → μ 90 (4 * p + e) = ii (tk sp e ((p % 41 : Nat) : Int) ((p / 41 : Nat) : Int))
def MT0 (μ : Nat → Nat → Int32) : Prop := μ 82 10 = ii 0 ∨ ∃ sp : Int, 313 ≤ sp ∧ sp ≤ 361 ∧ MTm μ sp
theorem c_X9_reckon {μ : Nat → Nat → Int32} {sp : Int} (hsp : 313 ≤ sp ∧ sp ≤ 361) (hD : MD μ) (hT : MT0 μ) (hp : ∀ μ' : Nat → Nat → Int32, MTm μ' sp → (∀ j : Nat, j ≠ 10 → μ' 82 j = μ 82 j) → (∀ c : Nat, c ≠ 82 → c ≠ 90 → μ' c = μ c) → P none μ') : jD g ad m_X9_reckon [.ref 82, .int (ii sp)] μ P := by
  refine jd_intro [some (.ref 82), some (.int (ii sp)), none, none] (by decide) rfl rfl (fun κ hE => ?_)
  have outer : ∀ (k p : Nat) (μ1 : Nat → Nat → Int32), p + k = 1681 → (∀ q e : Nat, q < p → e < 4 → μ1 90 (4 * q + e) = ii (tk sp e ((q % 41 : Nat) : Int) ((q / 41 : Nat) : Int))) → (∀ c : Nat, c ≠ 90 → μ1 c = μ c) → jS g ad m_X9_reckon κ 11 [some (.ref 82), some (.int (ii sp)), some (.int (ii p)), none] [] μ1 := by
    intro k
    induction k with
    | zero =>
      intro p μ1 hi b1 b2
      refine sX9_reckon_11 hE _ _ ⟨fun _ => ?_, fun q => ?_⟩
      · intro μ2 e2
        refine hp μ2 ⟨by rw [e2, jm_st_s], fun q e hq he => by rw [e2, jm_st_nc _ _ _ (by decide)]; exact b1 q e (by omega) he⟩ (fun j hj => by rw [e2, jm_st_ni _ _ _ hj, b2 82 (by decide)]) (fun c c1 c2 => by rw [e2, jm_st_nc _ _ _ c1]; exact b2 c c2)
      · rw [ii_lit 1681, ii_le (by decide) (by omega)] at q
        have q : ¬ (1681 : Int) ≤ (p : Int) := q
        omega
    | succ k ih =>
      intro p μ1 hi b1 b2
      have inner : ∀ (m e : Nat) (μ2 : Nat → Nat → Int32), e + m = 4 → (∀ q e : Nat, q < p → e < 4 → μ2 90 (4 * q + e) = ii (tk sp e ((q % 41 : Nat) : Int) ((q / 41 : Nat) : Int))) → (∀ e2 : Nat, e2 < e → μ2 90 (4 * p + e2) = ii (tk sp e2 ((p % 41 : Nat) : Int) ((p / 41 : Nat) : Int))) → (∀ c : Nat, c ≠ 90 → μ2 c = μ c) → jS g ad m_X9_reckon κ 20 [some (.ref 82), some (.int (ii sp)), some (.int (ii p)), some (.int (ii e))] [] μ2 := by
        intro m
        induction m with
        | zero =>
          intro e μ2 he d1 d2 d3
          have e5 : ii (p : Int) + 1 = ii ((p + 1 : Nat) : Int) := by simp (disch := omega) only [ii_lit, ii_neg, ii_add, ii_sub, ii_mul, ii_lt, ii_le, ii_eq]; rfl
          refine sX9_reckon_20 hE _ _ _ ⟨fun _ => ?_, fun q => ?_⟩
          · rw [e5]
            refine ih (p + 1) μ2 (by omega) (fun q e9 hq he9 => ?_) d3
            by_cases c : q = p
            · rw [c]; exact d2 e9 (by omega)
            · exact d1 q e9 (by omega) he9
          · simp (disch := omega) only [ii_lit, ii_neg, ii_add, ii_sub, ii_mul, ii_lt, ii_le, ii_eq] at q
            omega
        | succ m ihm =>
          intro e μ2 he d1 d2 d3
          have e5 : ii (e : Int) + 1 = ii ((e + 1 : Nat) : Int) := by simp (disch := omega) only [ii_lit, ii_neg, ii_add, ii_sub, ii_mul, ii_lt, ii_le, ii_eq]; rfl
          refine sX9_reckon_20 hE _ _ _ ⟨fun q => ?_, fun _ => ?_⟩
          · simp (disch := omega) only [ii_lit, ii_neg, ii_add, ii_sub, ii_mul, ii_lt, ii_le, ii_eq] at q
            omega
          · rw [ii_lit 41, ii_rem (by omega) (by omega) (by decide) (by decide), ii_div (by omega) (by omega) (by decide) (by decide)]
            show jD g ad m_X9_takesBy [.ref 82, .int (ii sp), .int (ii ((p : Int) % 41)), .int (ii ((p : Int) / 41)), .int (ii e)] μ2 _
            have ex : ((p : Int) % 41) = ((p % 41 : Nat) : Int) := by omega
            have ey : ((p : Int) / 41) = ((p / 41 : Nat) : Int) := by omega
            rw [ex, ey]
            refine c_X9_takesBy hsp (by omega) (by omega) (by omega) (fun i hi => by rw [d3 89 (by decide)]; exact hD i hi) (sX9_reckon_48 hE _ _ _ _ _ ?_)
            rw [ii_4, ii_mul, ii_add, e5]
            refine ⟨ii_in (by omega) (by omega) (by omega), ?_⟩
            intro μ3 e3
            rw [ii_nat (by omega) (by omega), show (4 * (p : Int) + e).toNat = 4 * p + e by omega] at e3
            refine ihm (e + 1) μ3 (by omega) (fun q e9 hq he9 => ?_) (fun e9 he9 => ?_) (fun c c1 => by rw [e3, jm_st_nc _ _ _ c1]; exact d3 c c1)
            · rw [e3, jm_st_ni _ _ _ (by omega)]; exact d1 q e9 hq he9
            · rw [e3]
              by_cases c : e9 = e
              · rw [c, jm_st_s]
              · rw [jm_st_ni _ _ _ (by omega)]; exact d2 e9 (by omega)
      refine sX9_reckon_11 hE _ _ ⟨fun q => ?_, fun _ => inner 4 0 μ1 (by omega) b1 (fun e2 h2 => by omega) b2⟩
      rw [ii_lit 1681, ii_le (by decide) (by omega)] at q
      have q : (1681 : Int) ≤ (p : Int) := q
      omega
  refine sX9_reckon_0 hE _ ⟨fun c => outer 1681 0 μ (by omega) (fun q e hq _ => by omega) (fun _ _ => rfl), fun c => ?_⟩
  rcases hT with h0 | ⟨sp2, w1, w2, w3⟩
  · rw [h0, ii_eq (by omega) (by decide)] at c
    omega
  · have e := w3.1
    rw [e, ii_eq (by omega) (by omega)] at c
    rw [← c] at w3
    exact hp μ w3 (fun _ _ => rfl) (fun _ _ _ => rfl)
end JM2
