section JTE
variable {g : jm_G} {ad : Nat → Nat} {P : Option Value → (Nat → Nat → Int32) → Prop}
/-- what is known of a shot that was found -/
def okS (n : Nat) (slack : Int) (s : sR) : Prop := pt s.2.1 s.2.2.1 ∧ 0 ≤ s.2.2.2.1 ∧ s.2.2.2.1 ≤ slack ∧ ∀ e : Nat, e < 4 → ∃ j : Nat, j < n ∧ s.1 e = j
set_option maxRecDepth 100000 in
theorem judge_sh {n p : Nat} {f : Nat → Int} {win slack sp : Int} {F : fS3} (hB : fB n f) (hsp : 313 ≤ sp) (hp : p < n) (h : ∀ k : Nat, k < F.2.2 → okS n slack (F.2.1 k)) : ∀ k : Nat, k < (judgeF n f win slack sp p F).2.2 → okS n slack ((judgeF n f win slack sp p F).2.1 k) := by
  unfold judgeF
  generalize (fun j => if j = p then -6 else F.1 j : Nat → Int) = own
  generalize hNe : near n f win own p = N
  cases hk : kpL N (fun c => (bst sp (rowT f N c)).2) slack 16 with
  | none => exact h
  | some b =>
    intro k hk9
    have hk9 : k < F.2.2 + 1 := hk9
    show okS n slack (if k = F.2.2 then recC sp f N b else F.2.1 k)
    by_cases c : k = F.2.2
    · rw [if_pos c]
      have hrow := rowB_iff.mp (kpL_row hk).2
      have hin : ∀ e : Nat, e < 4 → rowIx N b e < n := fun e he => (near_in hp (by rw [hNe]; exact rowIx_in (hrow e he))).1
      have htB : tB (rowT f N b) := by
        intro e he
        have := hB _ (hin e he)
        unfold rowT
        omega
      have hb := bst_best sp (rowT f N b)
      have hp9 := hb.1
      have hs : (bst sp (rowT f N b)).2 ≤ slack := by
        have h8 := kpL_kp (N := N) (S := fun c => (bst sp (rowT f N c)).2) (slack := slack) 16
        rw [hk] at h8
        cases hkp : kp N (fun c => (bst sp (rowT f N c)).2) 16 with
        | none => rw [hkp] at h8; cases h8
        | some b2 =>
          rw [hkp] at h8
          have h8 : some b = if (bst sp (rowT f N b2)).2 ≤ slack then some b2 else none := h8
          by_cases h7 : (bst sp (rowT f N b2)).2 ≤ slack
          · rw [if_pos h7] at h8
            have e : b = b2 := by simpa using h8
            subst e
            exact h7
          · rw [if_neg h7] at h8; cases h8
      have h0 : 0 ≤ (bst sp (rowT f N b)).2 := by
        rw [hb.2.1]
        unfold pt at hp9
        exact (spr_rng hsp htB (by omega) (by omega)).1
      unfold recC okS
      generalize bst sp (rowT f N b) = B at *
      exact ⟨hp9, h0, hs, fun e he => ⟨rowIx N b e, hin e he, rfl⟩⟩
    · rw [if_neg c]
      exact h k (by omega)
theorem find_sh {n : Nat} {f : Nat → Int} {win slack sp : Int} {own0 : Nat → Int} (hB : fB n f) (hsp : 313 ≤ sp) : ∀ p : Nat, p ≤ n → ∀ k : Nat, k < (findF n f win slack sp own0 p).2.2 → okS n slack ((findF n f win slack sp own0 p).2.1 k) := by
  intro p
  induction p with
  | zero => intro _ k hk; exact absurd hk (Nat.not_lt_zero _)
  | succ p ih =>
    intro hp
    show ∀ k : Nat, k < (stepF n f win slack sp p (findF n f win slack sp own0 p)).2.2 → okS n slack ((stepF n f win slack sp p (findF n f win slack sp own0 p)).2.1 k)
    unfold stepF
    split
    · exact judge_sh hB hsp (by omega) (ih (by omega))
    · exact ih (by omega)
theorem fd_ok {h : sH} {heat z : Int} (hv : vH h) (hh : -30 ≤ heat ∧ heat ≤ 50) : okF h.2.1 h.2.1 (fd h heat z) ∧ (fd h heat z).2.2 ≤ 8 ∧ ∀ k : Nat, k < (fd h heat z).2.2 → okS h.2.1 (h.1 2) ((fd h heat z).2.1 k) := by
  obtain ⟨v0, v1, v2, vn, vB, vS⟩ := hv
  have hsp := spd_rng hh.1 hh.2
  have h1 := find_ok (win := h.1 1) (slack := h.1 2) (sp := spd heat) (own0 := own0F h.2.1 z) vB vn (fun j hj => by unfold own0F; split <;> simp) h.2.1 (Nat.le_refl _)
  exact ⟨h1.1, h1.2, find_sh vB (by omega) h.2.1 (Nat.le_refl _)⟩
theorem c_X7_isShot {μ : Nat → Nat → Int32} {u : Nat} {F : fS3} {z : Int} (hu : jm_Shots u) (hF : SH μ u F) (hz : ir z) (h1 : ∀ k : Nat, z = k → k < F.2.2 → P (some (.int 1)) μ) (h0 : ¬ (0 ≤ z ∧ z < F.2.2) → P (some (.int 0)) μ) : jD g ad m_X7_isShot [.ref u, .int (ii z)] μ P := by
  refine jd_intro [some (.ref u), some (.int (ii z))] (by decide) rfl rfl (fun κ hE => ?_)
  have hn := hF.2.2.1
  refine sX7_isShot_0 hE u hu _ ?_
  rw [hF.2.1]
  refine ⟨fun c => ?_, fun c => ⟨fun c2 => ?_, fun c2 => ?_⟩⟩
  · simp (disch := omega) only [ii_lit, ii_neg, ii_add, ii_sub, ii_mul, ii_lt, ii_le, ii_eq] at c
    exact h0 (by omega)
  · simp (disch := omega) only [ii_lit, ii_neg, ii_add, ii_sub, ii_mul, ii_lt, ii_le, ii_eq] at c c2
    exact h0 (by omega)
  · simp (disch := omega) only [ii_lit, ii_neg, ii_add, ii_sub, ii_mul, ii_lt, ii_le, ii_eq] at c c2
    exact h1 z.toNat (by omega) (by omega)
/-- what a shot tells -/
def tellS (s : sR) (w : Int) : Int := if w = 0 then s.2.1 else if w = 1 then s.2.2.1 else if w = 2 then s.2.2.2.1 else if w = 3 then s.2.2.2.2 + 10000 else if w = 4 then rng s.2.1 s.2.2.1 else if 5 ≤ w ∧ w ≤ 8 then s.1 (w - 5).toNat else -2
theorem c_X6_tell {μ : Nat → Nat → Int32} {t : Nat} {s : sR} {w : Int} (ht : jm_Shot t) (hs : shotR μ t s) (hw : ir w) (h : P (some (.int (ii (tellS s w)))) μ) : jD g ad m_X6_tell [.ref t, .int (ii w)] μ P := by
  refine jd_intro [some (.ref t), some (.int (ii w))] (by decide) rfl rfl (fun κ hE => ?_)
  obtain ⟨a1, a2, a3, a4, a5, a6⟩ := hs
  have e9 : (-2 : Int32) = ii (-2) := by decide
  refine sX6_tell_0 hE t ht _ ?_
  rw [ii_toInt hw.1 hw.2, a1, a2, a3, a4, a5, a6 0 (by decide), a6 1 (by decide), a6 2 (by decide), a6 3 (by decide), ii_lit 10000, ii_add, e9]
  unfold tellS at h
  refine ⟨fun c => ?_, fun c => ?_, fun c => ?_, fun c => ?_, fun c => ?_, fun c => ?_, fun c => ?_, fun c => ?_, fun c => ?_, fun c => ?_⟩
  · rw [if_neg (by omega), if_neg (by omega), if_neg (by omega), if_neg (by omega), if_neg (by omega), if_neg (by omega)] at h
    exact h
  all_goals
    subst c
    exact h
def sumK (φ : sR → Int) (sh : Nat → sR) : Nat → Int
  | 0 => 0
  | k + 1 => sumK φ sh k + φ (sh k)
theorem c_X7_sumOfRings {μ : Nat → Nat → Int32} {u : Nat} {F : fS3} (hu : jm_Shots u) (hF : SH μ u F) (h : P (some (.int (ii (sumK (fun s => rng s.2.1 s.2.2.1) F.2.1 F.2.2)))) μ) : jD g ad m_X7_sumOfRings [.ref u] μ P := by
  refine jd_intro [some (.ref u), none, none] (by decide) rfl rfl (fun κ hE => ?_)
  have hn := hF.2.2.1
  have key : ∀ k i : Nat, i + k = F.2.2 → jS g ad m_X7_sumOfRings κ 4 [some (.ref u), some (.int (ii (sumK (fun s => rng s.2.1 s.2.2.1) F.2.1 i))), some (.int (ii i))] [] μ := by
    intro k
    induction k with
    | zero =>
      intro i hi
      refine sX7_sumOfRings_4 hE u hu _ _ ⟨fun _ => ?_, fun c => ?_⟩
      · rw [show i = F.2.2 by omega]
        exact h
      · rw [hF.2.1] at c
        simp (disch := omega) only [ii_lit, ii_neg, ii_add, ii_sub, ii_mul, ii_lt, ii_le, ii_eq] at c
        omega
    | succ k ih =>
      intro i hi
      refine sX7_sumOfRings_4 hE u hu _ _ ⟨fun c => ?_, fun _ => ⟨ii_in (by omega) (by omega) (by omega), ?_⟩⟩
      · rw [hF.2.1] at c
        simp (disch := omega) only [ii_lit, ii_neg, ii_add, ii_sub, ii_mul, ii_lt, ii_le, ii_eq] at c
        omega
      · have e5 : ii (i : Int) + 1 = ii ((i + 1 : Nat) : Int) := by simp (disch := omega) only [ii_lit, ii_neg, ii_add, ii_sub, ii_mul, ii_lt, ii_le, ii_eq]; rfl
        obtain ⟨a1, a2, a3, a4, a5, a6⟩ := hF.2.2.2 i (by omega)
        rw [ii_natN (by omega), a5, ii_add, e5]
        exact ih (i + 1) (by omega)
  refine sX7_sumOfRings_0 hE u hu ?_
  exact key F.2.2 0 (by omega)
theorem c_X7_sumOfSpreads {μ : Nat → Nat → Int32} {u : Nat} {F : fS3} (hu : jm_Shots u) (hF : SH μ u F) (h : P (some (.int (ii (sumK (fun s => s.2.2.2.1) F.2.1 F.2.2)))) μ) : jD g ad m_X7_sumOfSpreads [.ref u] μ P := by
  refine jd_intro [some (.ref u), none, none] (by decide) rfl rfl (fun κ hE => ?_)
  have hn := hF.2.2.1
  have key : ∀ k i : Nat, i + k = F.2.2 → jS g ad m_X7_sumOfSpreads κ 4 [some (.ref u), some (.int (ii (sumK (fun s => s.2.2.2.1) F.2.1 i))), some (.int (ii i))] [] μ := by
    intro k
    induction k with
    | zero =>
      intro i hi
      refine sX7_sumOfSpreads_4 hE u hu _ _ ⟨fun _ => ?_, fun c => ?_⟩
      · rw [show i = F.2.2 by omega]
        exact h
      · rw [hF.2.1] at c
        simp (disch := omega) only [ii_lit, ii_neg, ii_add, ii_sub, ii_mul, ii_lt, ii_le, ii_eq] at c
        omega
    | succ k ih =>
      intro i hi
      refine sX7_sumOfSpreads_4 hE u hu _ _ ⟨fun c => ?_, fun _ => ⟨ii_in (by omega) (by omega) (by omega), ?_⟩⟩
      · rw [hF.2.1] at c
        simp (disch := omega) only [ii_lit, ii_neg, ii_add, ii_sub, ii_mul, ii_lt, ii_le, ii_eq] at c
        omega
      · have e5 : ii (i : Int) + 1 = ii ((i + 1 : Nat) : Int) := by simp (disch := omega) only [ii_lit, ii_neg, ii_add, ii_sub, ii_mul, ii_lt, ii_le, ii_eq]; rfl
        obtain ⟨a1, a2, a3, a4, a5, a6⟩ := hF.2.2.2 i (by omega)
        rw [ii_natN (by omega), a3, ii_add, e5]
        exact ih (i + 1) (by omega)
  refine sX7_sumOfSpreads_0 hE u hu ?_
  exact key F.2.2 0 (by omega)
theorem c_X7_sumOfX {μ : Nat → Nat → Int32} {u : Nat} {F : fS3} (hu : jm_Shots u) (hF : SH μ u F) (h : P (some (.int (ii (sumK (fun s => s.2.1) F.2.1 F.2.2)))) μ) : jD g ad m_X7_sumOfX [.ref u] μ P := by
  refine jd_intro [some (.ref u), none, none] (by decide) rfl rfl (fun κ hE => ?_)
  have hn := hF.2.2.1
  have key : ∀ k i : Nat, i + k = F.2.2 → jS g ad m_X7_sumOfX κ 4 [some (.ref u), some (.int (ii (sumK (fun s => s.2.1) F.2.1 i))), some (.int (ii i))] [] μ := by
    intro k
    induction k with
    | zero =>
      intro i hi
      refine sX7_sumOfX_4 hE u hu _ _ ⟨fun _ => ?_, fun c => ?_⟩
      · rw [show i = F.2.2 by omega]
        exact h
      · rw [hF.2.1] at c
        simp (disch := omega) only [ii_lit, ii_neg, ii_add, ii_sub, ii_mul, ii_lt, ii_le, ii_eq] at c
        omega
    | succ k ih =>
      intro i hi
      refine sX7_sumOfX_4 hE u hu _ _ ⟨fun c => ?_, fun _ => ⟨ii_in (by omega) (by omega) (by omega), ?_⟩⟩
      · rw [hF.2.1] at c
        simp (disch := omega) only [ii_lit, ii_neg, ii_add, ii_sub, ii_mul, ii_lt, ii_le, ii_eq] at c
        omega
      · have e5 : ii (i : Int) + 1 = ii ((i + 1 : Nat) : Int) := by simp (disch := omega) only [ii_lit, ii_neg, ii_add, ii_sub, ii_mul, ii_lt, ii_le, ii_eq]; rfl
        obtain ⟨a1, a2, a3, a4, a5, a6⟩ := hF.2.2.2 i (by omega)
        rw [ii_natN (by omega), a1, ii_add, e5]
        exact ih (i + 1) (by omega)
  refine sX7_sumOfX_0 hE u hu ?_
  exact key F.2.2 0 (by omega)
theorem c_X7_sumOfY {μ : Nat → Nat → Int32} {u : Nat} {F : fS3} (hu : jm_Shots u) (hF : SH μ u F) (h : P (some (.int (ii (sumK (fun s => s.2.2.1) F.2.1 F.2.2)))) μ) : jD g ad m_X7_sumOfY [.ref u] μ P := by
  refine jd_intro [some (.ref u), none, none] (by decide) rfl rfl (fun κ hE => ?_)
  have hn := hF.2.2.1
  have key : ∀ k i : Nat, i + k = F.2.2 → jS g ad m_X7_sumOfY κ 4 [some (.ref u), some (.int (ii (sumK (fun s => s.2.2.1) F.2.1 i))), some (.int (ii i))] [] μ := by
    intro k
    induction k with
    | zero =>
      intro i hi
      refine sX7_sumOfY_4 hE u hu _ _ ⟨fun _ => ?_, fun c => ?_⟩
      · rw [show i = F.2.2 by omega]
        exact h
      · rw [hF.2.1] at c
        simp (disch := omega) only [ii_lit, ii_neg, ii_add, ii_sub, ii_mul, ii_lt, ii_le, ii_eq] at c
        omega
    | succ k ih =>
      intro i hi
      refine sX7_sumOfY_4 hE u hu _ _ ⟨fun c => ?_, fun _ => ⟨ii_in (by omega) (by omega) (by omega), ?_⟩⟩
      · rw [hF.2.1] at c
        simp (disch := omega) only [ii_lit, ii_neg, ii_add, ii_sub, ii_mul, ii_lt, ii_le, ii_eq] at c
        omega
      · have e5 : ii (i : Int) + 1 = ii ((i + 1 : Nat) : Int) := by simp (disch := omega) only [ii_lit, ii_neg, ii_add, ii_sub, ii_mul, ii_lt, ii_le, ii_eq]; rfl
        obtain ⟨a1, a2, a3, a4, a5, a6⟩ := hF.2.2.2 i (by omega)
        rw [ii_natN (by omega), a2, ii_add, e5]
        exact ih (i + 1) (by omega)
  refine sX7_sumOfY_0 hE u hu ?_
  exact key F.2.2 0 (by omega)
/-- the first shot with the greatest ring, and that ring -/
def grK (sh : Nat → sR) : Nat → Int × Int
  | 0 => (-6, -1)
  | k + 1 => if (grK sh k).2 < rng (sh k).2.1 (sh k).2.2.1 then ((k : Int), rng (sh k).2.1 (sh k).2.2.1) else grK sh k
theorem grK_rng {sh : Nat → sR} {size : Nat} (h : ∀ k : Nat, k < size → pt (sh k).2.1 (sh k).2.2.1) : ∀ k : Nat, k ≤ size → -1 ≤ (grK sh k).2 ∧ (grK sh k).2 ≤ 10 := by
  intro k
  induction k with
  | zero =>
    intro _
    show (-1 : Int) ≤ -1 ∧ (-1 : Int) ≤ 10
    decide
  | succ k ih =>
    intro hk
    have h1 := rng_rng (h k (by omega))
    show -1 ≤ (if (grK sh k).2 < rng (sh k).2.1 (sh k).2.2.1 then ((k : Int), rng (sh k).2.1 (sh k).2.2.1) else grK sh k).2 ∧ (if (grK sh k).2 < rng (sh k).2.1 (sh k).2.2.1 then ((k : Int), rng (sh k).2.1 (sh k).2.2.1) else grK sh k).2 ≤ 10
    split
    · show -1 ≤ rng (sh k).2.1 (sh k).2.2.1 ∧ rng (sh k).2.1 (sh k).2.2.1 ≤ 10
      omega
    · exact ih (by omega)
theorem c_X7_withGreatestRing {μ : Nat → Nat → Int32} {u : Nat} {F : fS3} (hu : jm_Shots u) (hF : SH μ u F) (hpt : ∀ k : Nat, k < F.2.2 → pt (F.2.1 k).2.1 (F.2.1 k).2.2.1) (h : P (some (.int (ii (grK F.2.1 F.2.2).1))) μ) : jD g ad m_X7_withGreatestRing [.ref u] μ P := by
  refine jd_intro [some (.ref u), none, none, none] (by decide) rfl rfl (fun κ hE => ?_)
  have hn := hF.2.2.1
  have key : ∀ k i : Nat, i + k = F.2.2 → jS g ad m_X7_withGreatestRing κ 7 [some (.ref u), some (.int (ii (grK F.2.1 i).1)), some (.int (ii (grK F.2.1 i).2)), some (.int (ii i))] [] μ := by
    intro k
    induction k with
    | zero =>
      intro i hi
      refine sX7_withGreatestRing_7 hE u hu _ _ _ ⟨fun _ => ?_, fun c => ?_⟩
      · rw [show i = F.2.2 by omega]
        exact h
      · rw [hF.2.1] at c
        simp (disch := omega) only [ii_lit, ii_neg, ii_add, ii_sub, ii_mul, ii_lt, ii_le, ii_eq] at c
        omega
    | succ k ih =>
      intro i hi
      have hg := grK_rng hpt i (by omega)
      have hr := rng_rng (hpt i (by omega))
      have e5 : ii (i : Int) + 1 = ii ((i + 1 : Nat) : Int) := by simp (disch := omega) only [ii_lit, ii_neg, ii_add, ii_sub, ii_mul, ii_lt, ii_le, ii_eq]; rfl
      obtain ⟨a1, a2, a3, a4, a5, a6⟩ := hF.2.2.2 i (by omega)
      have h9 := ih (i + 1) (by omega)
      have e9 : grK F.2.1 (i + 1) = if (grK F.2.1 i).2 < rng (F.2.1 i).2.1 (F.2.1 i).2.2.1 then ((i : Int), rng (F.2.1 i).2.1 (F.2.1 i).2.2.1) else grK F.2.1 i := rfl
      rw [e9] at h9
      refine sX7_withGreatestRing_7 hE u hu _ _ _ ⟨fun c => ?_, fun _ => ⟨ii_in (by omega) (by omega) (by omega), ?_⟩⟩
      · rw [hF.2.1] at c
        simp (disch := omega) only [ii_lit, ii_neg, ii_add, ii_sub, ii_mul, ii_lt, ii_le, ii_eq] at c
        omega
      · rw [ii_natN (by omega), a5, ii_le (by omega) (by omega), e5]
        refine ⟨fun c => ?_, fun c => ⟨ii_in (by omega) (by omega) (by omega), ?_⟩⟩
        · rw [if_neg (by omega)] at h9
          exact h9
        · rw [if_pos (by omega)] at h9
          exact h9
  refine sX7_withGreatestRing_0 hE u hu ?_
  exact key F.2.2 0 (by omega)
/-- the distance of two shots' places -/
def dSh (a b : sR) : Int := dD (if 0 ≤ a.2.1 - b.2.1 then a.2.1 - b.2.1 else b.2.1 - a.2.1) (if 0 ≤ a.2.2.1 - b.2.2.1 then a.2.2.1 - b.2.2.1 else b.2.2.1 - a.2.2.1)
def wdJ (sh : Nat → sR) (i : Nat) : Nat → Int → Int
  | 0, a => a
  | j + 1, a => max (dSh (sh i) (sh j)) (wdJ sh i j a)
def wdK (sh : Nat → sR) : Nat → Int
  | 0 => 0
  | i + 1 => wdJ sh i i (wdK sh i)
theorem dSh_rng {a b : sR} (ha : pt a.2.1 a.2.2.1) (hb : pt b.2.1 b.2.2.1) : 0 ≤ dSh a b ∧ dSh a b ≤ 5656 := by
  unfold pt at ha hb
  exact dD_rng (by split <;> omega) (by split <;> omega)
theorem wdJ_rng {sh : Nat → sR} {size i : Nat} (h : ∀ k : Nat, k < size → pt (sh k).2.1 (sh k).2.2.1) (hi : i < size) : ∀ (j : Nat) (a : Int), j ≤ i → 0 ≤ a ∧ a ≤ 5656 → 0 ≤ wdJ sh i j a ∧ wdJ sh i j a ≤ 5656 := by
  intro j
  induction j with
  | zero => intro a _ ha; exact ha
  | succ j ih =>
    intro a hj ha
    have h1 := ih a (by omega) ha
    have h2 := dSh_rng (h i hi) (h j (by omega))
    show 0 ≤ max (dSh (sh i) (sh j)) (wdJ sh i j a) ∧ max (dSh (sh i) (sh j)) (wdJ sh i j a) ≤ 5656
    omega
theorem wdK_rng {sh : Nat → sR} {size : Nat} (h : ∀ k : Nat, k < size → pt (sh k).2.1 (sh k).2.2.1) : ∀ i : Nat, i ≤ size → 0 ≤ wdK sh i ∧ wdK sh i ≤ 5656 := by
  intro i
  induction i with
  | zero =>
    intro _
    show (0 : Int) ≤ 0 ∧ (0 : Int) ≤ 5656
    decide
  | succ i ih => intro hi; exact wdJ_rng h (by omega) i _ (Nat.le_refl _) (ih (by omega))
theorem c_X7_widest {μ : Nat → Nat → Int32} {u : Nat} {F : fS3} (hu : jm_Shots u) (hD : FD μ) (hF : SH μ u F) (hpt : ∀ k : Nat, k < F.2.2 → pt (F.2.1 k).2.1 (F.2.1 k).2.2.1) (h : P (some (.int (ii (wdK F.2.1 F.2.2)))) μ) : jD g ad m_X7_widest [.ref u, .ref 29] μ P := by
  refine jd_intro [some (.ref u), some (.ref 29), none, none, none] (by decide) rfl rfl (fun κ hE => ?_)
  have hn := hF.2.2.1
  have key : ∀ k i : Nat, i + k = F.2.2 → jS g ad m_X7_widest κ 4 [some (.ref u), some (.ref 29), some (.int (ii (wdK F.2.1 i))), some (.int (ii i)), none] [] μ := by
    intro k
    induction k with
    | zero =>
      intro i hi
      refine sX7_widest_4 hE u hu _ _ ⟨fun _ => ?_, fun c => ?_⟩
      · rw [show i = F.2.2 by omega]
        exact h
      · rw [hF.2.1] at c
        simp (disch := omega) only [ii_lit, ii_neg, ii_add, ii_sub, ii_mul, ii_lt, ii_le, ii_eq] at c
        omega
    | succ k ih =>
      intro i hi
      have hwr := wdK_rng hpt i (by omega)
      have e5 : ii (i : Int) + 1 = ii ((i + 1 : Nat) : Int) := by simp (disch := omega) only [ii_lit, ii_neg, ii_add, ii_sub, ii_mul, ii_lt, ii_le, ii_eq]; rfl
      obtain ⟨a1, a2, a3, a4, a5, a6⟩ := hF.2.2.2 i (by omega)
      have inner : ∀ m j : Nat, j + m = i → jS g ad m_X7_widest κ 15 [some (.ref u), some (.ref 29), some (.int (ii (wdJ F.2.1 i j (wdK F.2.1 i)))), some (.int (ii i)), some (.int (ii j))] [] μ := by
        intro m
        induction m with
        | zero =>
          intro j hj
          refine sX7_widest_15 hE u hu _ _ _ ⟨fun _ => ?_, fun c => ?_⟩
          · have e : j = i := by omega
            subst e
            rw [e5]
            exact ih (j + 1) (by omega)
          · simp (disch := omega) only [ii_lit, ii_neg, ii_add, ii_sub, ii_mul, ii_lt, ii_le, ii_eq] at c
            omega
        | succ m ihm =>
          intro j hj
          have e6 : ii (j : Int) + 1 = ii ((j + 1 : Nat) : Int) := by simp (disch := omega) only [ii_lit, ii_neg, ii_add, ii_sub, ii_mul, ii_lt, ii_le, ii_eq]; rfl
          obtain ⟨b1, b2, b3, b4, b5, b6⟩ := hF.2.2.2 j (by omega)
          have hpi := hpt i (by omega)
          have hpj := hpt j (by omega)
          have hw9 := wdJ_rng hpt (show i < F.2.2 by omega) j (wdK F.2.1 i) (by omega) hwr
          have hd := dSh_rng hpi hpj
          refine sX7_widest_15 hE u hu _ _ _ ⟨fun c => ?_, fun _ => ⟨ii_in (by omega) (by omega) (by omega), ii_in (by omega) (by omega) (by omega), ii_in (by omega) (by omega) (by omega), ii_in (by omega) (by omega) (by omega), ?_⟩⟩
          · simp (disch := omega) only [ii_lit, ii_neg, ii_add, ii_sub, ii_mul, ii_lt, ii_le, ii_eq] at c
            omega
          · rw [ii_natN (by omega), ii_natN (by omega), a1, a2, b1, b2]
            unfold pt at hpi hpj
            refine c_X2_distance (by omega) (by omega) (by omega) (by omega) hD (sX7_widest_64 hE u hu _ _ _ _ ?_)
            show jS g ad m_X7_widest κ 15 [some (.ref u), some (.ref 29), some (.int (if ii (wdJ F.2.1 i j (wdK F.2.1 i)) < ii (dSh (F.2.1 i) (F.2.1 j)) then ii (dSh (F.2.1 i) (F.2.1 j)) else ii (wdJ F.2.1 i j (wdK F.2.1 i)))), some (.int (ii i)), some (.int (ii j + 1))] [] μ
            rw [ii_max (by omega) (by omega), e6]
            exact ihm (j + 1) (by omega)
      refine sX7_widest_4 hE u hu _ _ ⟨fun c => ?_, fun _ => inner i 0 (by omega)⟩
      rw [hF.2.1] at c
      simp (disch := omega) only [ii_lit, ii_neg, ii_add, ii_sub, ii_mul, ii_lt, ii_le, ii_eq] at c
      omega
  refine sX7_widest_0 hE u hu ?_
  exact key F.2.2 0 (by omega)
theorem c_X0_spreadOf {μ : Nat → Nat → Int32} {h : sH} {s : sR} {q : Nat} {sp x y : Int} (hq : jm_Shot q) (hq9 : 37 < q) (hh : HR μ 1 h) (hB : fB h.2.1 h.2.2) (hs : shotR μ q s) (hok : ∀ e : Nat, e < 4 → ∃ j : Nat, j < h.2.1 ∧ s.1 e = j) (hsp : 313 ≤ sp) (hT : FTm μ sp) (hx : 0 ≤ x ∧ x ≤ 40) (hy : 0 ≤ y ∧ y ≤ 40)
    (hp : ∀ μ' : Nat → Nat → Int32, (∀ c : Nat, c ≠ 34 → μ' c = μ c) → P (some (.int (ii (spr sp (fun e => h.2.2 (s.1 e).toNat / 4) x y)))) μ') : jD g ad m_X0_spreadOf [.ref 32, .ref 29, .ref 1, .ref q, .int (ii x), .int (ii y)] μ P := by
  refine jd_intro [some (.ref 32), some (.ref 29), some (.ref 1), some (.ref q), some (.int (ii x)), some (.int (ii y)), none] (by decide) rfl rfl (fun κ hE => ?_)
  have htB : tB (fun e => h.2.2 (s.1 e).toNat / 4) := by
    intro e he
    obtain ⟨j, hj, ej⟩ := hok e he
    have := hB j hj
    show 0 ≤ h.2.2 (s.1 e).toNat / 4 ∧ h.2.2 (s.1 e).toNat / 4 ≤ 99999
    rw [ej, Int.toNat_natCast]
    omega
  have key : ∀ (k e : Nat) (μ2 : Nat → Nat → Int32), e + k = 4 → (∀ c : Nat, c ≠ 34 → μ2 c = μ c) → (∀ j : Nat, j < e → μ2 34 j = ii (h.2.2 (s.1 j).toNat / 4)) → jS g ad m_X0_spreadOf κ 3 [some (.ref 32), some (.ref 29), some (.ref 1), some (.ref q), some (.int (ii x)), some (.int (ii y)), some (.int (ii e))] [] μ2 := by
    intro k
    induction k with
    | zero =>
      intro e μ2 he h2 h3
      refine sX0_spreadOf_3 hE 1 jm_heard1 q hq _ _ _ ⟨fun _ => ?_, fun c => ?_⟩
      · exact c_X1_spreadAt hsp ⟨by rw [h2 29 (by decide)]; exact hT.1, fun j hj => by rw [h2 31 (by decide)]; exact hT.2 j hj⟩ (fun j hj => h3 j (by omega)) htB hx hy (sX0_spreadOf_48 hE 1 jm_heard1 q hq _ (hp μ2 h2))
      · simp (disch := omega) only [ii_lit, ii_neg, ii_add, ii_sub, ii_mul, ii_lt, ii_le, ii_eq] at c
        omega
    | succ k ih =>
      intro e μ2 he h2 h3
      obtain ⟨j, hj, ej⟩ := hok e (by omega)
      have e5 : ii (e : Int) + 1 = ii ((e + 1 : Nat) : Int) := by simp (disch := omega) only [ii_lit, ii_neg, ii_add, ii_sub, ii_mul, ii_lt, ii_le, ii_eq]; rfl
      refine sX0_spreadOf_3 hE 1 jm_heard1 q hq _ _ _ ⟨fun c => ?_, fun _ => ⟨ii_in (by omega) (by omega) (by omega), ?_⟩⟩
      · simp (disch := omega) only [ii_lit, ii_neg, ii_add, ii_sub, ii_mul, ii_lt, ii_le, ii_eq] at c
        omega
      · rw [ii_natN (by omega), h2 (q + 1) (by omega), hs.2.2.2.2.2 e (by omega), ej]
        have hf2 : hF μ2 1 h.2.1 h.2.2 := ⟨by rw [h2 1 (by decide)]; exact hh.2.1, hh.2.2.1, fun j hj => by rw [h2 (1 + 2) (by decide)]; exact hh.2.2.2 j hj⟩
        refine c_X3_timeOf jm_heard1 hf2 hB hj (sX0_spreadOf_29 hE 1 jm_heard1 q hq _ _ _ _ _ ⟨ii_in (by omega) (by omega) (by omega), ?_⟩)
        intro μ3 e3
        rw [ii_natN (by omega)] at e3
        rw [e5]
        refine ih (e + 1) μ3 (by omega) (fun c c1 => by rw [e3, jm_st_nc _ _ _ c1]; exact h2 c c1) (fun i hi => ?_)
        by_cases c : i = e
        · subst c
          rw [e3, jm_st_s, ej, Int.toNat_natCast]
        · rw [e3, jm_st_ni _ _ _ c]
          exact h3 i (by omega)
  exact sX0_spreadOf_0 hE 1 jm_heard1 q hq _ _ (key 4 0 μ (by omega) (fun _ _ => rfl) (fun j hj => by omega))
end JTE
