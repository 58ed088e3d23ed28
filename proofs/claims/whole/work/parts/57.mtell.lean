section JMA
variable {g : jm_G} {ad : Nat → Nat} {P : Option Value → (Nat → Nat → Int32) → Prop}
theorem MI.fr {μ μ' : Nat → Nat → Int32} {σ : sT} (h : MI μ σ) (hT : MT0 μ') (fr : aF μ μ') : MI μ' σ ∧ aA μ μ' := by
  obtain ⟨a, b, c, d, e, f, s⟩ := h
  have k := fr.2
  exact ⟨⟨a.kept (k _ (by decide) (by omega)), b, c.kept (fr.1 3 (by decide)) (k _ (by decide) (by omega)), d.kept (k _ (by decide) (by omega)) (k _ (by decide) (by omega)), e.kept (fr.1 7 (by decide)) (k _ (by decide) (by omega)), f.kept (k _ (by decide) (by omega)), hT⟩, fun c cc => k c (by omega) (by omega)⟩
theorem MT0.of {μ : Nat → Nat → Int32} {t : Int} (ht : -30 ≤ t ∧ t ≤ 50) (hT : MTm μ (spd t)) : MT0 μ := Or.inr ⟨spd t, (spd_rng ht.1 ht.2).1, (spd_rng ht.1 ht.2).2, hT⟩
theorem c_mfd {μ : Nat → Nat → Int32} {σ : sT} {t : Int} (hc : MI μ σ) (ht : -30 ≤ t ∧ t ≤ 50) (hp : ∀ μ' : Nat → Nat → Int32, MI μ' σ → MTm μ' (spd t) → mSH μ' (fd σ.1 t (-1)) → aA μ μ' → P none μ') : jD g ad m_X9_findShots [.ref 82, .int (ii t)] μ P :=
  c_X9_findShots hc.1 hc.2.1 hc.2.2.2.2.2.1 hc.2.2.2.2.2.2 ht (fun μ' tm s fr => hp μ' (hc.fr (MT0.of ht tm) fr).1 tm s (hc.fr (MT0.of ht tm) fr).2)
theorem c_X9_find {μ : Nat → Nat → Int32} {σ : sT} (hc : MI μ σ) (hp : ∀ μ' : Nat → Nat → Int32, MI μ' σ → MTm μ' (spd (σ.1.1 0)) → mSH μ' (fdT σ) → aA μ μ' → P none μ') : jD g ad m_X9_find [.ref 82] μ P := by
  refine jd_intro [some (.ref 82)] (by decide) rfl rfl (fun κ hE => ?_)
  refine sX9_find_0 hE ?_
  have e0 : μ 83 0 = ii (σ.1.1 0) := hc.1.1 0 (by decide)
  rw [e0]
  exact c_mfd hc hc.2.1.1 (fun μ' a b c d => sX9_find_10 hE (hp μ' a b c d))
theorem plX {X Y : Int} (h : pt X Y) : ii (41 * Y + X) - ii (41 * Y + X) / 41 * 41 = ii X := by
  unfold pt at h
  rw [ii_lit 41, ii_rem (by omega) (by omega) (by decide) (by decide)]
  congr 1
  show (41 * Y + X) % 41 = X
  omega
theorem plY {X Y : Int} (h : pt X Y) : ii (41 * Y + X) / 41 = ii Y := by
  unfold pt at h
  rw [ii_lit 41, ii_div (by omega) (by omega) (by decide) (by decide)]
  congr 1
  show (41 * Y + X) / 41 = Y
  omega
theorem c_X9_ringOf {μ : Nat → Nat → Int32} {F : fS3} {k : Nat} (hD : MD μ) (hF : mSH μ F) (hk : k < F.2.2) (hpt : pt (F.2.1 k).2.1 (F.2.1 k).2.2.1) (hp : P (some (.int (ii (rng (F.2.1 k).2.1 (F.2.1 k).2.2.1)))) μ) : jD g ad m_X9_ringOf [.ref 82, .int (ii k)] μ P := by
  refine jd_intro [some (.ref 82), some (.int (ii k)), none] (by decide) rfl rfl (fun κ hE => ?_)
  have h8 := hF.2.2.1
  obtain ⟨a1, a2, a3, a4⟩ := hF.2.2.2 k hk
  unfold rng at hp
  generalize (F.2.1 k).2.1 = X at *
  generalize (F.2.1 k).2.2.1 = Y at *
  have hpt9 := hpt
  unfold pt at hpt9
  refine sX9_ringOf_0 hE _ ⟨ii_in (by omega) (by omega) (by omega), ii_in (by omega) (by omega) (by omega), ?_⟩
  have e20 : (20 : Int32) = ii 20 := by decide
  rw [ii_natN (by omega), a1, plX hpt, plY hpt, e20]
  refine c_X9_distance (by omega) (by omega) (by omega) (by omega) hD (sX9_ringOf_28 hE _ _ ?_)
  have hd := dD_rng (dx := if 0 ≤ X - 20 then X - 20 else 20 - X) (dy := if 0 ≤ Y - 20 then Y - 20 else 20 - Y) (by split <;> omega) (by split <;> omega)
  generalize dD (if 0 ≤ X - 20 then X - 20 else 20 - X) (if 0 ≤ Y - 20 then Y - 20 else 20 - Y) = d at *
  have e7 : (10 : Int32) - ii d / 200 = ii (10 - d / 200) := by rw [ii_lit 200, ii_div (by omega) (by omega) (by decide) (by decide), ii_lit 10, ii_sub]
  rw [e7, ii_0, ii_le (by decide) (by omega)]
  refine ⟨fun c => ?_, fun c => ?_⟩
  · rw [show max (10 - d / 200) 0 = 10 - d / 200 by omega] at hp
    exact hp
  · rw [show max (10 - d / 200) 0 = 0 by omega] at hp
    exact hp
theorem c_X9_sumOfRings {μ : Nat → Nat → Int32} {F : fS3} (hD : MD μ) (hF : mSH μ F) (hpt : ∀ k : Nat, k < F.2.2 → pt (F.2.1 k).2.1 (F.2.1 k).2.2.1) (hp : P (some (.int (ii (sumK (fun s => rng s.2.1 s.2.2.1) F.2.1 F.2.2)))) μ) : jD g ad m_X9_sumOfRings [.ref 82] μ P := by
  refine jd_intro [some (.ref 82), none, none] (by decide) rfl rfl (fun κ hE => ?_)
  have h8 := hF.2.2.1
  have key : ∀ k i : Nat, i + k = F.2.2 → jS g ad m_X9_sumOfRings κ 4 [some (.ref 82), some (.int (ii (sumK (fun s => rng s.2.1 s.2.2.1) F.2.1 i))), some (.int (ii i))] [] μ := by
    intro k
    induction k with
    | zero =>
      intro i hi
      refine sX9_sumOfRings_4 hE _ _ ⟨fun _ => ?_, fun c => ?_⟩
      · rw [show i = F.2.2 by omega]
        exact hp
      · rw [hF.2.1] at c
        simp (disch := omega) only [ii_lit, ii_neg, ii_add, ii_sub, ii_mul, ii_lt, ii_le, ii_eq] at c
        omega
    | succ k ih =>
      intro i hi
      have e5 : ii (i : Int) + 1 = ii ((i + 1 : Nat) : Int) := by simp (disch := omega) only [ii_lit, ii_neg, ii_add, ii_sub, ii_mul, ii_lt, ii_le, ii_eq]; rfl
      refine sX9_sumOfRings_4 hE _ _ ⟨fun c => ?_, fun _ => ?_⟩
      · rw [hF.2.1] at c
        simp (disch := omega) only [ii_lit, ii_neg, ii_add, ii_sub, ii_mul, ii_lt, ii_le, ii_eq] at c
        omega
      · refine c_X9_ringOf hD hF (by omega) (hpt i (by omega)) (sX9_sumOfRings_18 hE _ _ _ ?_)
        rw [ii_add, e5]
        exact ih (i + 1) (by omega)
  refine sX9_sumOfRings_0 hE ?_
  exact key F.2.2 0 (by omega)
theorem c_X9_sumOfSpreads {μ : Nat → Nat → Int32} {F : fS3} (hF : mSH μ F) (hp : P (some (.int (ii (sumK (fun s => s.2.2.2.1) F.2.1 F.2.2)))) μ) : jD g ad m_X9_sumOfSpreads [.ref 82] μ P := by
  refine jd_intro [some (.ref 82), none, none] (by decide) rfl rfl (fun κ hE => ?_)
  have h8 := hF.2.2.1
  have key : ∀ k i : Nat, i + k = F.2.2 → jS g ad m_X9_sumOfSpreads κ 4 [some (.ref 82), some (.int (ii (sumK (fun s => s.2.2.2.1) F.2.1 i))), some (.int (ii i))] [] μ := by
    intro k
    induction k with
    | zero =>
      intro i hi
      refine sX9_sumOfSpreads_4 hE _ _ ⟨fun _ => ?_, fun c => ?_⟩
      · rw [show i = F.2.2 by omega]
        exact hp
      · rw [hF.2.1] at c
        simp (disch := omega) only [ii_lit, ii_neg, ii_add, ii_sub, ii_mul, ii_lt, ii_le, ii_eq] at c
        omega
    | succ k ih =>
      intro i hi
      have e5 : ii (i : Int) + 1 = ii ((i + 1 : Nat) : Int) := by simp (disch := omega) only [ii_lit, ii_neg, ii_add, ii_sub, ii_mul, ii_lt, ii_le, ii_eq]; rfl
      obtain ⟨a1, a2, a3, a4⟩ := hF.2.2.2 i (by omega)
      refine sX9_sumOfSpreads_4 hE _ _ ⟨fun c => ?_, fun _ => ⟨ii_in (by omega) (by omega) (by omega), ?_⟩⟩
      · rw [hF.2.1] at c
        simp (disch := omega) only [ii_lit, ii_neg, ii_add, ii_sub, ii_mul, ii_lt, ii_le, ii_eq] at c
        omega
      · rw [ii_natN (by omega), a2, ii_add, e5]
        exact ih (i + 1) (by omega)
  refine sX9_sumOfSpreads_0 hE ?_
  exact key F.2.2 0 (by omega)
/-- the first of the greatest rings among the shots from lo on -/
def fMx (ρ : Nat → Int) (lo hi i : Nat) : Prop := lo ≤ i ∧ i < hi ∧ (∀ j : Nat, lo ≤ j → j < hi → ρ j ≤ ρ i) ∧ ∀ j : Nat, lo ≤ j → j < i → ρ j < ρ i
theorem fMx.uniq {ρ : Nat → Int} {lo hi i i' : Nat} (h : fMx ρ lo hi i) (h' : fMx ρ lo hi i') : i = i' := by
  obtain ⟨a1, a2, a3, a4⟩ := h
  obtain ⟨b1, b2, b3, b4⟩ := h'
  rcases Nat.lt_trichotomy i i' with c | c | c
  · have := b4 i a1 c
    have := a3 i' b1 b2
    omega
  · exact c
  · have := a4 i' b1 c
    have := b3 i a1 a2
    omega
theorem grK_is {sh : Nat → sR} (h0 : ∀ k : Nat, 0 ≤ rng (sh k).2.1 (sh k).2.2.1) : ∀ k : Nat, 0 < k → ∃ i : Nat, (grK sh k).1 = i ∧ (grK sh k).2 = rng (sh i).2.1 (sh i).2.2.1 ∧ fMx (fun j => rng (sh j).2.1 (sh j).2.2.1) 0 k i := by
  intro k
  induction k with
  | zero => intro h; omega
  | succ k ih =>
    intro _
    unfold grK
    by_cases c0 : k = 0
    · subst c0
      have h9 := h0 0
      have e : (grK sh 0).2 = -1 := rfl
      rw [e, if_pos (by omega)]
      exact ⟨0, rfl, rfl, Nat.le_refl _, by omega, fun j _ hj => by rw [show j = 0 by omega]; exact Int.le_refl _, fun j _ hj => by omega⟩
    · obtain ⟨i, e1, e2, a1, a2, a3, a4⟩ := ih (by omega)
      by_cases c : (grK sh k).2 < rng (sh k).2.1 (sh k).2.2.1
      · rw [if_pos c]
        refine ⟨k, rfl, rfl, by omega, by omega, fun j _ hj => ?_, fun j _ hj => ?_⟩
        · by_cases c2 : j = k
          · rw [c2]; exact Int.le_refl _
          · have h9 := a3 j (by omega) (by omega)
            have h9 : rng (sh j).2.1 (sh j).2.2.1 ≤ rng (sh i).2.1 (sh i).2.2.1 := h9
            show rng (sh j).2.1 (sh j).2.2.1 ≤ rng (sh k).2.1 (sh k).2.2.1
            omega
        · have h9 := a3 j (by omega) hj
          have h9 : rng (sh j).2.1 (sh j).2.2.1 ≤ rng (sh i).2.1 (sh i).2.2.1 := h9
          show rng (sh j).2.1 (sh j).2.2.1 < rng (sh k).2.1 (sh k).2.2.1
          omega
      · rw [if_neg c]
        refine ⟨i, e1, e2, by omega, by omega, fun j _ hj => ?_, a4⟩
        by_cases c2 : j = k
        · rw [c2]
          show rng (sh k).2.1 (sh k).2.2.1 ≤ rng (sh i).2.1 (sh i).2.2.1
          omega
        · exact a3 j (by omega) (by omega)
theorem rng_nn (X Y : Int) : 0 ≤ rng X Y := by
  unfold rng
  omega
theorem c_X9_bestShot {μ : Nat → Nat → Int32} {F : fS3} (hD : MD μ) (hF : mSH μ F) (hpt : ∀ k : Nat, k < F.2.2 → pt (F.2.1 k).2.1 (F.2.1 k).2.2.1) (hp : P (some (.int (ii (grK F.2.1 F.2.2).1))) μ) : jD g ad m_X9_bestShot [.ref 82] μ P := by
  refine jd_intro [some (.ref 82), none, none] (by decide) rfl rfl (fun κ hE => ?_)
  have h8 := hF.2.2.1
  have key : ∀ (k : Nat) (b : Int), k ≤ F.2.2 → (k = F.2.2 ∧ b = -6 ∨ k < F.2.2 ∧ ∃ i : Nat, b = i ∧ fMx (fun j => rng (F.2.1 j).2.1 (F.2.1 j).2.2.1) k F.2.2 i) → jS g ad m_X9_bestShot κ 10 [some (.ref 82), some (.int (ii b)), some (.int (ii ((k : Int) - 1)))] [] μ := by
    intro k
    induction k with
    | zero =>
      intro b _ hb
      refine sX9_bestShot_10 hE _ _ ⟨fun _ => ?_, fun c => absurd (by decide) c⟩
      rcases hb with ⟨h1, h2⟩ | ⟨h1, i, h2, h3⟩
      · rw [← h1] at hp
        rw [h2]
        exact hp
      · obtain ⟨i2, e1, e2, e3⟩ := grK_is (sh := F.2.1) (fun k => rng_nn _ _) F.2.2 (by omega)
        rw [e1, e3.uniq h3] at hp
        rw [h2]
        exact hp
    | succ k ih =>
      intro b hk hb
      have e0 : ((k + 1 : Nat) : Int) - 1 = (k : Int) := by omega
      have em : ii (k : Int) + -1 = ii ((k : Int) - 1) := by rw [e_m1, ii_add]; congr 1
      rw [e0]
      refine sX9_bestShot_10 hE _ _ ⟨fun c => ?_, fun _ => ?_⟩
      · rw [ii_0, ii_lt (by omega) (by decide)] at c
        omega
      rw [em, e_m6]
      rcases hb with ⟨h1, h2⟩ | ⟨h1, i, h2, h3⟩
      · rw [h2]
        refine ⟨fun _ => ?_, fun c => absurd rfl c⟩
        exact ih k (by omega) (Or.inr ⟨by omega, k, rfl, by omega, by omega, fun j j1 j2 => by rw [show j = k by omega]; exact Int.le_refl _, fun j j1 j2 => by omega⟩)
      · have hi8 := h3.2.1
        rw [h2, ii_eq (by omega) (by decide)]
        refine ⟨fun c => by omega, fun _ => ?_⟩
        refine c_X9_ringOf hD hF (by omega) (hpt k (by omega)) (sX9_bestShot_25 hE _ _ _ (c_X9_ringOf hD hF (by omega) (hpt i (by omega)) (sX9_bestShot_30 hE _ _ _ _ ?_)))
        have r1 := rng_rng (hpt k (by omega))
        have r2 := rng_rng (hpt i (by omega))
        obtain ⟨a1, a2, a3, a4⟩ := h3
        rw [ii_lt (by omega) (by omega), em]
        refine ⟨fun c => ?_, fun c => ?_⟩
        · refine ih i (by omega) (Or.inr ⟨by omega, i, rfl, by omega, a2, fun j j1 j2 => ?_, fun j j1 j2 => ?_⟩)
          · by_cases c2 : j = k
            · rw [c2]; exact Int.le_of_lt c
            · exact a3 j (by omega) j2
          · by_cases c2 : j = k
            · rw [c2]; exact c
            · exact a4 j (by omega) j2
        · refine ih k (by omega) (Or.inr ⟨by omega, k, rfl, by omega, by omega, fun j j1 j2 => ?_, fun j j1 j2 => by omega⟩)
          by_cases c2 : j = k
          · rw [c2]; exact Int.le_refl _
          · have h9 := a3 j (by omega) j2
            have h9 : rng (F.2.1 j).2.1 (F.2.1 j).2.2.1 ≤ rng (F.2.1 i).2.1 (F.2.1 i).2.2.1 := h9
            show rng (F.2.1 j).2.1 (F.2.1 j).2.2.1 ≤ rng (F.2.1 k).2.1 (F.2.1 k).2.2.1
            omega
  refine sX9_bestShot_0 hE ?_
  rw [hF.2.1, ii_1, ii_sub]
  exact key F.2.2 (-6) (Nat.le_refl _) (Or.inl ⟨rfl, rfl⟩)
theorem c_X9_widest {μ : Nat → Nat → Int32} {F : fS3} (hD : MD μ) (hF : mSH μ F) (hpt : ∀ k : Nat, k < F.2.2 → pt (F.2.1 k).2.1 (F.2.1 k).2.2.1) (hp : P (some (.int (ii (wdK F.2.1 F.2.2)))) μ) : jD g ad m_X9_widest [.ref 82] μ P := by
  refine jd_intro [some (.ref 82), none, none, none, none] (by decide) rfl rfl (fun κ hE => ?_)
  have h8 := hF.2.2.1
  have key : ∀ k i : Nat, i + k = F.2.2 → jS g ad m_X9_widest κ 4 [some (.ref 82), some (.int (ii (wdK F.2.1 i))), some (.int (ii i)), none, none] [] μ := by
    intro k
    induction k with
    | zero =>
      intro i hi
      refine sX9_widest_4 hE _ _ ⟨fun _ => ?_, fun c => ?_⟩
      · rw [show i = F.2.2 by omega]
        exact hp
      · rw [hF.2.1] at c
        simp (disch := omega) only [ii_lit, ii_neg, ii_add, ii_sub, ii_mul, ii_lt, ii_le, ii_eq] at c
        omega
    | succ k ih =>
      intro i hi
      have hwr := wdK_rng hpt i (by omega)
      have e5 : ii (i : Int) + 1 = ii ((i + 1 : Nat) : Int) := by simp (disch := omega) only [ii_lit, ii_neg, ii_add, ii_sub, ii_mul, ii_lt, ii_le, ii_eq]; rfl
      obtain ⟨a1, -⟩ := hF.2.2.2 i (by omega)
      have hpi := hpt i (by omega)
      have inner : ∀ m j : Nat, j + m = i → jS g ad m_X9_widest κ 14 [some (.ref 82), some (.int (ii (wdJ F.2.1 i j (wdK F.2.1 i)))), some (.int (ii i)), some (.int (ii j)), none] [] μ := by
        intro m
        induction m with
        | zero =>
          intro j hj
          refine sX9_widest_14 hE _ _ _ ⟨fun _ => ?_, fun c => ?_⟩
          · have e : j = i := by omega
            subst e
            rw [e5]
            exact ih (j + 1) (by omega)
          · simp (disch := omega) only [ii_lit, ii_neg, ii_add, ii_sub, ii_mul, ii_lt, ii_le, ii_eq] at c
            omega
        | succ m ihm =>
          intro j hj
          have e6 : ii (j : Int) + 1 = ii ((j + 1 : Nat) : Int) := by simp (disch := omega) only [ii_lit, ii_neg, ii_add, ii_sub, ii_mul, ii_lt, ii_le, ii_eq]; rfl
          obtain ⟨b1, -⟩ := hF.2.2.2 j (by omega)
          have hpj := hpt j (by omega)
          have hw9 := wdJ_rng hpt (show i < F.2.2 by omega) j (wdK F.2.1 i) (by omega) hwr
          have hd := dSh_rng hpi hpj
          have eJ : wdJ F.2.1 i (j + 1) (wdK F.2.1 i) = max (dSh (F.2.1 i) (F.2.1 j)) (wdJ F.2.1 i j (wdK F.2.1 i)) := rfl
          have h9 := ihm (j + 1) (by omega)
          rw [eJ] at h9
          refine sX9_widest_14 hE _ _ _ ⟨fun c => ?_, fun _ => ⟨ii_in (by omega) (by omega) (by omega), ii_in (by omega) (by omega) (by omega), ii_in (by omega) (by omega) (by omega), ii_in (by omega) (by omega) (by omega), ?_⟩⟩
          · simp (disch := omega) only [ii_lit, ii_neg, ii_add, ii_sub, ii_mul, ii_lt, ii_le, ii_eq] at c
            omega
          · rw [ii_natN (by omega), ii_natN (by omega), a1, b1, plX hpi, plY hpi, plX hpj, plY hpj]
            have hpi9 := hpi
            have hpj9 := hpj
            unfold pt at hpi9 hpj9
            refine c_X9_distance (by omega) (by omega) (by omega) (by omega) hD (sX9_widest_59 hE _ _ _ _ ?_)
            show (ii (dSh (F.2.1 i) (F.2.1 j)) ≤ ii (wdJ F.2.1 i j (wdK F.2.1 i)) → _) ∧ (¬ ii (dSh (F.2.1 i) (F.2.1 j)) ≤ ii (wdJ F.2.1 i j (wdK F.2.1 i)) → jS g ad m_X9_widest κ 14 [some (.ref 82), some (.int (ii (dSh (F.2.1 i) (F.2.1 j)))), some (.int (ii i)), some (.int (ii j + 1)), none] [] μ)
            rw [ii_le (by omega) (by omega), e6]
            refine ⟨fun c => ?_, fun c => ?_⟩
            · rw [show max (dSh (F.2.1 i) (F.2.1 j)) (wdJ F.2.1 i j (wdK F.2.1 i)) = wdJ F.2.1 i j (wdK F.2.1 i) by omega] at h9
              exact h9
            · rw [show max (dSh (F.2.1 i) (F.2.1 j)) (wdJ F.2.1 i j (wdK F.2.1 i)) = dSh (F.2.1 i) (F.2.1 j) by omega] at h9
              exact h9
      refine sX9_widest_4 hE _ _ ⟨fun c => ?_, fun _ => inner i 0 (by omega)⟩
      rw [hF.2.1] at c
      simp (disch := omega) only [ii_lit, ii_neg, ii_add, ii_sub, ii_mul, ii_lt, ii_le, ii_eq] at c
      omega
  refine sX9_widest_0 hE ?_
  exact key F.2.2 0 (by omega)
end JMA
