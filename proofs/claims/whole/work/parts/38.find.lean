section JFI
variable {g : jm_G} {ad : Nat → Nat} {P : Option Value → (Nat → Nat → Int32) → Prop}
/-- how many of the first pulses belong to shots -/
def cn (own : Nat → Int) : Nat → Nat
  | 0 => 0
  | n + 1 => cn own n + (if 0 ≤ own n then 1 else 0)
theorem cn_le (own : Nat → Int) : ∀ n : Nat, cn own n ≤ n := by
  intro n
  induction n with
  | zero => exact Nat.le_refl _
  | succ n ih =>
    unfold cn
    split <;> omega
theorem cn_eq {own own' : Nat → Int} : ∀ n : Nat, (∀ j : Nat, j < n → own' j = own j) → cn own' n = cn own n := by
  intro n
  induction n with
  | zero => intro _; rfl
  | succ n ih =>
    intro h
    unfold cn
    rw [ih (fun j hj => h j (by omega)), h n (by omega)]
theorem cn_set {own : Nat → Int} {i : Nat} {v : Int} (hv : 0 ≤ v) (ho : own i < 0) : ∀ n : Nat, i < n → cn (fun j => if j = i then v else own j) n = cn own n + 1 := by
  intro n
  induction n with
  | zero => intro h; omega
  | succ n ih =>
    intro h
    unfold cn
    by_cases c : n = i
    · rw [cn_eq (own := own) n (fun j hj => by rw [if_neg (by omega)]), if_pos c, if_pos hv, if_neg (by rw [c]; omega)]
    · rw [ih (by omega), if_neg c]
      omega
theorem cn_lt {own : Nat → Int} {i : Nat} (ho : own i < 0) : ∀ n : Nat, i < n → cn own n < n := by
  intro n h
  have h1 := cn_set (own := own) (v := 0) (by decide) ho n h
  have h2 := cn_le (fun j => if j = i then 0 else own j) n
  omega
/-- the search's invariant: own is unused, stray or a shot's; the first p are used; four pulses a shot -/
def okF (n p : Nat) (F : fS3) : Prop := (∀ j : Nat, j < n → F.1 j = -1 ∨ F.1 j = -6 ∨ (0 ≤ F.1 j ∧ F.1 j < F.2.2)) ∧ (∀ j : Nat, j < p → F.1 j ≠ -1) ∧ cn F.1 n = 4 * F.2.2
theorem ownA_at {own : Nat → Int} {r : Nat → Nat} {size k j : Nat} : ownA own r size k j = size ∨ ownA own r size k j = own j := by
  induction k with
  | zero => exact Or.inr rfl
  | succ k ih =>
    show (if j = r k then (size : Int) else ownA own r size k j) = size ∨ (if j = r k then (size : Int) else ownA own r size k j) = own j
    split
    · exact Or.inl rfl
    · exact ih
theorem cn_ownA {own : Nat → Int} {r : Nat → Nat} {size n : Nat} : ∀ k : Nat, (∀ e : Nat, e < k → r e < n ∧ own (r e) < 0) → (∀ e e' : Nat, e < k → e' < k → r e = r e' → e = e') → cn (ownA own r size k) n = cn own n + k := by
  intro k
  induction k with
  | zero => intro _ _; rfl
  | succ k ih =>
    intro h1 h2
    have h3 := ih (fun e he => h1 e (by omega)) (fun e e' he he' => h2 e e' (by omega) (by omega))
    have hk : ownA own r size k (r k) = own (r k) := by
      have : ∀ m : Nat, m ≤ k → ownA own r size m (r k) = own (r k) := by
        intro m
        induction m with
        | zero => intro _; rfl
        | succ m ihm =>
          intro hm
          show (if r k = r m then (size : Int) else ownA own r size m (r k)) = own (r k)
          rw [if_neg (fun c => by have := h2 k m (by omega) (by omega) c; omega)]
          exact ihm (by omega)
      exact this k (Nat.le_refl _)
    have h4 := cn_set (own := ownA own r size k) (i := r k) (v := size) (by omega) (by rw [hk]; exact (h1 k (by omega)).2) n (h1 k (by omega)).1
    show cn (fun j => if j = r k then (size : Int) else ownA own r size k j) n = _
    rw [h4, h3]
    omega
theorem kpL_row {N : Int → List Nat} {S : Nat → Int} {slack : Int} {c b : Nat} (h : kpL N S slack c = some b) : b < c ∧ rowB N b = true := by
  rw [kpL_kp] at h
  cases hk : kp N S c with
  | none => rw [hk] at h; cases h
  | some b2 =>
    rw [hk] at h
    have h : (if S b2 ≤ slack then some b2 else none) = some b := h
    by_cases h7 : S b2 ≤ slack
    · rw [if_pos h7] at h
      have e : b2 = b := by simpa using h
      subst e
      exact kp_lt hk
    · rw [if_neg h7] at h; cases h
theorem judge_ok {n p : Nat} {f : Nat → Int} {win slack sp : Int} {F : fS3} (hB : fB n f) (hp : p < n) (hun : F.1 p = -1) (h : okF n p F) : okF n (p + 1) (judgeF n f win slack sp p F) ∧ (judgeF n f win slack sp p F).2.2 ≤ F.2.2 + 1 := by
  obtain ⟨h1, h2, h3⟩ := h
  unfold judgeF
  generalize hown : (fun j => if j = p then -6 else F.1 j : Nat → Int) = own
  have hownj : ∀ j : Nat, own j = if j = p then -6 else F.1 j := fun j => by rw [← hown]
  have hcn : cn own n = 4 * F.2.2 := by
    have : ∀ m : Nat, cn own m = cn F.1 m := by
      intro m
      induction m with
      | zero => rfl
      | succ m ih =>
        unfold cn
        rw [ih, hownj]
        by_cases c : m = p
        · rw [if_pos c, if_neg (by decide), c, hun, if_neg (by decide)]
        · rw [if_neg c]
    rw [this]
    exact h3
  generalize hNe : near n f win own p = N
  cases hk : kpL N (fun c => (bst sp (rowT f N c)).2) slack 16 with
  | none =>
    refine ⟨⟨fun j hj => ?_, fun j hj => ?_, hcn⟩, by show F.2.2 ≤ F.2.2 + 1; omega⟩
    · show own j = -1 ∨ own j = -6 ∨ (0 ≤ own j ∧ own j < (F.2.2 : Int))
      rw [hownj]
      by_cases c : j = p
      · rw [if_pos c]; exact Or.inr (Or.inl rfl)
      · rw [if_neg c]; exact h1 j hj
    · show own j ≠ -1
      rw [hownj]
      by_cases c : j = p
      · rw [if_pos c]; decide
      · rw [if_neg c]; exact h2 j (by omega)
  | some b =>
    have hrow := rowB_iff.mp (kpL_row hk).2
    have hmem : ∀ e : Nat, e < 4 → rowIx N b e < n ∧ f (rowIx N b e) % 4 = e ∧ (rowIx N b e = p ∨ own (rowIx N b e) = -1) := fun e he => near_in hp (by rw [hNe]; exact rowIx_in (hrow e he))
    have hneg : ∀ e : Nat, e < 4 → own (rowIx N b e) < 0 := by
      intro e he
      rcases (hmem e he).2.2 with c | c
      · rw [c, hownj, if_pos rfl]; decide
      · rw [c]; decide
    refine ⟨⟨fun j hj => ?_, fun j hj => ?_, ?_⟩, by show F.2.2 + 1 ≤ F.2.2 + 1; omega⟩
    · show ownA own (rowIx N b) F.2.2 4 j = -1 ∨ ownA own (rowIx N b) F.2.2 4 j = -6 ∨ (0 ≤ ownA own (rowIx N b) F.2.2 4 j ∧ ownA own (rowIx N b) F.2.2 4 j < ((F.2.2 + 1 : Nat) : Int))
      rcases ownA_at (own := own) (r := rowIx N b) (size := F.2.2) (k := 4) (j := j) with c | c
      · rw [c]; omega
      · rw [c, hownj]
        by_cases c2 : j = p
        · rw [if_pos c2]; omega
        · rw [if_neg c2]
          have := h1 j hj
          omega
    · show ownA own (rowIx N b) F.2.2 4 j ≠ -1
      rcases ownA_at (own := own) (r := rowIx N b) (size := F.2.2) (k := 4) (j := j) with c | c
      · rw [c]; omega
      · rw [c, hownj]
        by_cases c2 : j = p
        · rw [if_pos c2]; decide
        · rw [if_neg c2]; exact h2 j (by omega)
    · show cn (ownA own (rowIx N b) F.2.2 4) n = 4 * (F.2.2 + 1)
      rw [cn_ownA 4 (fun e he => ⟨(hmem e he).1, hneg e he⟩) (fun e e' he he' c => by
        have a := (hmem e he).2.1
        have b9 := (hmem e' he').2.1
        rw [c] at a
        omega), hcn]
      omega
def stepF (n : Nat) (f : Nat → Int) (win slack sp : Int) (p : Nat) (F : fS3) : fS3 := if F.1 p = -1 then judgeF n f win slack sp p F else F
/-- what is found among the first p pulses -/
def findF (n : Nat) (f : Nat → Int) (win slack sp : Int) (own0 : Nat → Int) : Nat → fS3
  | 0 => (own0, fun _ => (fun _ => 0, 0, 0, 0, 0), 0)
  | p + 1 => stepF n f win slack sp p (findF n f win slack sp own0 p)
theorem cn_none {own : Nat → Int} : ∀ n : Nat, (∀ j : Nat, j < n → own j < 0) → cn own n = 0 := by
  intro n
  induction n with
  | zero => intro _; rfl
  | succ n ih =>
    intro h
    unfold cn
    rw [ih (fun j hj => h j (by omega)), if_neg (by have := h n (by omega); omega)]
theorem find_ok {n : Nat} {f : Nat → Int} {win slack sp : Int} {own0 : Nat → Int} (hB : fB n f) (hn : n ≤ 32) (h0 : ∀ j : Nat, j < n → own0 j = -1 ∨ own0 j = -6) : ∀ p : Nat, p ≤ n → okF n p (findF n f win slack sp own0 p) ∧ (findF n f win slack sp own0 p).2.2 ≤ 8 := by
  intro p
  induction p with
  | zero =>
    intro _
    refine ⟨⟨fun j hj => ?_, fun j hj => by omega, ?_⟩, by show 0 ≤ 8; omega⟩
    · have := h0 j hj
      show own0 j = -1 ∨ own0 j = -6 ∨ _
      omega
    · show cn own0 n = 4 * 0
      rw [cn_none n (fun j hj => by have := h0 j hj; omega)]
  | succ p ih =>
    intro hp
    obtain ⟨a, b⟩ := ih (by omega)
    unfold findF stepF
    by_cases c : (findF n f win slack sp own0 p).1 p = -1
    · rw [if_pos c]
      have h1 := judge_ok (win := win) (slack := slack) (sp := sp) hB (by omega) c a
      refine ⟨h1.1, ?_⟩
      have h2 := cn_lt (own := (findF n f win slack sp own0 p).1) (i := p) (by rw [c]; decide) n (by omega)
      rw [a.2.2] at h2
      have h3 := h1.2
      omega
    · rw [if_neg c]
      refine ⟨⟨a.1, fun j hj => ?_, a.2.2⟩, b⟩
      rcases Nat.lt_or_ge j p with c2 | c2
      · exact a.2.1 j c2
      · rw [show j = p by omega]; exact c
theorem find_lt8 {n p : Nat} {F : fS3} (hn : n ≤ 32) (hp : p < n) (h : okF n p F) (c : F.1 p = -1) : F.2.2 < 8 := by
  have h2 := cn_lt (own := F.1) (i := p) (by rw [c]; decide) n hp
  have := h.2.2
  omega
theorem find_stop {n : Nat} {f : Nat → Int} {win slack sp : Int} {own0 : Nat → Int} (hn : n ≤ 32) {p : Nat} (h : okF n p (findF n f win slack sp own0 p)) (h8 : 8 ≤ (findF n f win slack sp own0 p).2.2) : ∀ k : Nat, p + k ≤ n → findF n f win slack sp own0 (p + k) = findF n f win slack sp own0 p := by
  intro k
  induction k with
  | zero => intro _; rfl
  | succ k ih =>
    intro hk
    show stepF n f win slack sp (p + k) (findF n f win slack sp own0 (p + k)) = _
    rw [ih (by omega)]
    unfold stepF
    rw [if_neg]
    intro c
    have h2 := cn_lt (own := (findF n f win slack sp own0 p).1) (i := p + k) (by rw [c]; decide) n (by omega)
    have := h.2.2
    omega
/-- owners at first: all unused, but one that is left out -/
def own0F (n : Nat) (z : Int) : Nat → Int := fun j => if z = j ∧ j < n then -6 else -1
set_option maxRecDepth 100000 in
theorem c_X0_find {μ : Nat → Nat → Int32} {q u n : Nat} {f : Nat → Int} {win slack sp z : Int} (hq : jm_Heard q) (hq9 : q + 2 < 29) (hu : jm_Shots u) (hu9 : 37 < u) (hf : hF μ q n f) (hB : fB n f) (hS : fS n f) (hw : μ (q + 1) 1 = ii win) (hw9 : 0 ≤ win ∧ win ≤ 4000) (hsl : μ (q + 1) 2 = ii slack) (hsl9 : 0 ≤ slack ∧ slack ≤ 300) (hsp : 313 ≤ sp) (hT : FTm μ sp) (hD : FD μ) (hz : ir z)
    (h : ∀ μ' : Nat → Nat → Int32, SH μ' u (findF n f win slack sp (own0F n z) n) → (∀ c : Nat, ¬ (33 ≤ c ∧ c ≤ 37) → ¬ (u ≤ c ∧ c ≤ u + 18) → μ' c = μ c) → P none μ') : jD g ad m_X0_find [.ref 32, .ref 29, .ref q, .int (ii z), .ref u] μ P := by
  refine jd_intro [some (.ref 32), some (.ref 29), some (.ref q), some (.int (ii z)), some (.ref u), none] (by decide) rfl rfl (fun κ hE => ?_)
  have hn := hf.2.1
  have h0 : ∀ j : Nat, j < n → own0F n z j = -1 ∨ own0F n z j = -6 := by
    intro j hj
    unfold own0F
    split
    · exact Or.inr rfl
    · exact Or.inl rfl
  have key : ∀ (k i : Nat) (μ2 : Nat → Nat → Int32), i + k = n → SH μ2 u (findF n f win slack sp (own0F n z) i) → (∀ c : Nat, ¬ (33 ≤ c ∧ c ≤ 37) → ¬ (u ≤ c ∧ c ≤ u + 18) → μ2 c = μ c) → jS g ad m_X0_find κ 25 [some (.ref 32), some (.ref 29), some (.ref q), none, some (.ref u), some (.int (ii i))] [] μ2 := by
    intro k
    induction k with
    | zero =>
      intro i μ2 hi hs h2
      refine sX0_find_25 hE q hq u hu _ ⟨fun _ => ?_, fun c => ?_⟩
      · have e : i = n := by omega
        rw [e] at hs
        exact h μ2 hs h2
      · rw [h2 q (by omega) (by omega), hf.1] at c
        simp (disch := omega) only [ii_lit, ii_neg, ii_add, ii_sub, ii_mul, ii_lt, ii_le, ii_eq] at c
        omega
    | succ k ih =>
      intro i μ2 hi hs h2
      obtain ⟨hok, h8⟩ := find_ok (win := win) (slack := slack) (sp := sp) hB hn h0 i (by omega)
      have e5 : ii (i : Int) + 1 = ii ((i + 1 : Nat) : Int) := by simp (disch := omega) only [ii_lit, ii_neg, ii_add, ii_sub, ii_mul, ii_lt, ii_le, ii_eq]; rfl
      refine sX0_find_25 hE q hq u hu _ ⟨fun c => ?_, fun _ => ⟨fun c => ?_, fun c => ⟨ii_in (by omega) (by omega) (by omega), ?_⟩⟩⟩
      · rw [h2 q (by omega) (by omega), hf.1] at c
        simp (disch := omega) only [ii_lit, ii_neg, ii_add, ii_sub, ii_mul, ii_lt, ii_le, ii_eq] at c
        omega
      · rw [hs.2.1] at c
        simp (disch := omega) only [ii_lit, ii_neg, ii_add, ii_sub, ii_mul, ii_lt, ii_le, ii_eq] at c
        have hst := find_stop hn hok (by omega) (k + 1) (by omega)
        rw [show i + (k + 1) = n by omega] at hst
        rw [← hst] at hs
        exact h μ2 hs h2
      · have hoi : μ2 (u + 2) i = ii ((findF n f win slack sp (own0F n z) i).1 i) := hs.1 i (by omega)
        have hoir := hok.1 i (by omega)
        rw [ii_natN (by omega), hoi, ii_m1, ii_eq (by omega) (by omega), e5]
        refine ⟨fun c2 => ?_, fun c2 => ?_⟩
        · refine ih (i + 1) μ2 (by omega) ?_ h2
          show SH μ2 u (stepF n f win slack sp i (findF n f win slack sp (own0F n z) i))
          unfold stepF
          rw [if_neg c2]
          exact hs
        · refine c_X0_judge hq hq9 hu hu9 ⟨by rw [h2 q (by omega) (by omega)]; exact hf.1, hn, fun j hj => by rw [h2 (q + 2) (by omega) (by omega)]; exact hf.2.2 j hj⟩ hB hS (by rw [h2 (q + 1) (by omega) (by omega)]; exact hw) hw9 (by rw [h2 (q + 1) (by omega) (by omega)]; exact hsl) hsl9 hsp ⟨by rw [h2 29 (by omega) (by omega)]; exact hT.1, fun j hj => by rw [h2 31 (by omega) (by omega)]; exact hT.2 j hj⟩ (fun j hj => by rw [h2 30 (by omega) (by omega)]; exact hD j hj) hs (find_lt8 hn (by omega) hok c2) (by omega) (fun j hj => by have := hok.1 j hj; omega) hok.2.1 (fun μ3 hs3 h3 => sX0_find_66 hE q hq u hu _ ?_)
          rw [e5]
          refine ih (i + 1) μ3 (by omega) ?_ (fun c c3 c4 => by rw [h3 c c3 c4]; exact h2 c c3 c4)
          show SH μ3 u (stepF n f win slack sp i (findF n f win slack sp (own0F n z) i))
          unfold stepF
          rw [if_pos c2]
          exact hs3
  refine sX0_find_0 hE q hq u hu _ (c_X7_reset hu (fun μ1 ho1 hs1 h1 => sX0_find_5 hE q hq u hu _ ?_))
  have hf1 : hF μ1 q n f := ⟨by rw [h1 q (by omega) (by omega)]; exact hf.1, hn, fun j hj => by rw [h1 (q + 2) (by omega) (by omega)]; exact hf.2.2 j hj⟩
  refine c_X3_isPulse hq hf1 hz (fun j e1 e2 => sX0_find_10 hE q hq u hu _ _ ⟨fun c => absurd c (by decide), fun _ => ?_⟩) (fun c => sX0_find_10 hE q hq u hu _ _ ⟨fun _ => ?_, fun c2 => absurd rfl c2⟩)
  · rw [e1, ii_natN (by omega)]
    refine ⟨ii_in (by omega) (by omega) (by omega), ?_⟩
    intro μ2 g2
    refine key n 0 μ2 (by omega) ⟨fun i hi => ?_, ?_, by show 0 ≤ 8; omega, fun k hk => absurd hk (Nat.not_lt_zero _)⟩ (fun c c1 c2 => by rw [g2, jm_st_nc _ _ _ (by omega)]; exact h1 c (by omega) (by omega))
    · show μ2 (u + 2) i = ii (own0F n z i)
      unfold own0F
      rw [g2]
      by_cases c : i = j
      · rw [if_pos ⟨by omega, by omega⟩, c, jm_st_s]; decide
      · rw [if_neg (by omega), jm_st_ni _ _ _ c]; exact ho1 i hi
    · rw [g2, jm_st_nc _ _ _ (by omega)]; exact hs1
  · refine key n 0 μ1 (by omega) ⟨fun i hi => ?_, hs1, by show 0 ≤ 8; omega, fun k hk => absurd hk (Nat.not_lt_zero _)⟩ (fun c c1 c2 => h1 c (by omega) (by omega))
    show μ1 (u + 2) i = ii (own0F n z i)
    unfold own0F
    rw [if_neg (by omega)]
    exact ho1 i hi
end JFI
