section JSH
variable {g : jm_G} {ad : Nat → Nat} {μ : Nat → Nat → Int32} {P : Option Value → (Nat → Nat → Int32) → Prop}
/-- a shot: its pulses by their ears, x, y, spread, moment -/
abbrev sR : Type := (Nat → Int) × Int × Int × Int × Int
/-- the ring of a place -/
def rng (X Y : Int) : Int := max (10 - dD (if 0 ≤ X - 20 then X - 20 else 20 - X) (if 0 ≤ Y - 20 then Y - 20 else 20 - Y) / 200) 0
theorem rng_rng {X Y : Int} (h : pt X Y) : 0 ≤ rng X Y ∧ rng X Y ≤ 10 := by
  unfold pt at h
  have := dD_rng (dx := if 0 ≤ X - 20 then X - 20 else 20 - X) (dy := if 0 ≤ Y - 20 then Y - 20 else 20 - Y) (by split <;> omega) (by split <;> omega)
  unfold rng
  omega
def shotR (μ : Nat → Nat → Int32) (t : Nat) (s : sR) : Prop := μ t 1 = ii s.2.1 ∧ μ t 2 = ii s.2.2.1 ∧ μ t 3 = ii s.2.2.2.1 ∧ μ t 4 = ii s.2.2.2.2 ∧ μ t 5 = ii (rng s.2.1 s.2.2.1) ∧ ∀ e : Nat, e < 4 → μ (t + 1) e = ii (s.1 e)
theorem shotR.kept {μ μ' : Nat → Nat → Int32} {t : Nat} {s : sR} (h : shotR μ t s) (h1 : μ' t = μ t) (h2 : μ' (t + 1) = μ (t + 1)) : shotR μ' t s := by
  unfold shotR
  rw [h1, h2]
  exact h
theorem c_X6_become {sp X Y S : Int} {t : Nat → Int} {r : Nat → Int} {q : Nat} (hq : jm_Shot q) (hq9 : 37 < q) (hs : 313 ≤ sp) (hT : FTm μ sp) (hD : FD μ) (ht : tF μ t) (hB : tB t) (hp : pt X Y) (hX : μ 33 1 = ii X) (hY : μ 33 2 = ii Y) (hS : μ 33 3 = ii S) (hr : ∀ e : Nat, e < 4 → μ 37 e = ii (r e))
    (h : ∀ μ' : Nat → Nat → Int32, shotR μ' q (r, X, Y, S, lstS sp t X Y) → (∀ c : Nat, c ≠ q → c ≠ q + 1 → μ' c = μ c) → P none μ') : jD g ad m_X6_become [.ref q, .ref 29, .ref 33, .ref 37] μ P := by
  refine jd_intro [some (.ref q), some (.ref 29), some (.ref 33), some (.ref 37)] (by decide) rfl rfl (fun κ hE => ?_)
  unfold pt at hp
  refine sX6_become_0 hE q hq ⟨by decide, by decide, by decide, by decide, by decide, ?_⟩
  intro μ1 e1 μ2 e2 μ3 e3 μ4 e4
  have a2 : ∀ c : Nat, c ≠ q → c ≠ q + 1 → μ4 c = μ c := fun c c1 c2 => by rw [e4, jm_st_nc _ _ _ c1, e3, jm_st_nc _ _ _ c1, e2, jm_st_nc _ _ _ c1, e1, jm_up_n _ _ c2]
  have f1 : μ1 33 1 = ii X := by rw [e1, jm_up_n _ _ (by omega)]; exact hX
  have f2 : μ2 33 2 = ii Y := by rw [e2, jm_st_nc _ _ _ (by omega), e1, jm_up_n _ _ (by omega)]; exact hY
  have f3 : μ3 33 3 = ii S := by rw [e3, jm_st_nc _ _ _ (by omega), e2, jm_st_nc _ _ _ (by omega), e1, jm_up_n _ _ (by omega)]; exact hS
  rw [f1] at e2
  rw [f2] at e3
  rw [f3] at e4
  have hT4 : FTm μ4 sp := ⟨by rw [a2 29 (by omega) (by omega)]; exact hT.1, fun j hj => by rw [a2 31 (by omega) (by omega)]; exact hT.2 j hj⟩
  have ht4 : tF μ4 t := fun e he => by rw [a2 34 (by omega) (by omega)]; exact ht e he
  refine c_X1_leastStart (x := X) (y := Y) hs hT4 ht4 hB (by omega) (by omega) (by rw [a2 33 (by omega) (by omega)]; exact hX) (by rw [a2 33 (by omega) (by omega)]; exact hY) (sX6_become_41 hE q hq _ ?_)
  intro μ5 e5
  have x1 : μ5 q 1 = ii X := by rw [e5, jm_st_ni _ _ _ (by decide), e4, jm_st_ni _ _ _ (by decide), e3, jm_st_ni _ _ _ (by decide), e2, jm_st_s]
  have x2 : μ5 q 2 = ii Y := by rw [e5, jm_st_ni _ _ _ (by decide), e4, jm_st_ni _ _ _ (by decide), e3, jm_st_s]
  have x3 : μ5 q 3 = ii S := by rw [e5, jm_st_ni _ _ _ (by decide), e4, jm_st_s]
  have x4 : μ5 q 4 = ii (lstS sp t X Y) := by rw [e5, jm_st_s]
  have a5 : ∀ c : Nat, c ≠ q → c ≠ q + 1 → μ5 c = μ c := fun c c1 c2 => by rw [e5, jm_st_nc _ _ _ c1]; exact a2 c c1 c2
  rw [x1, x2]
  have e20 : (20 : Int32) = ii 20 := by decide
  rw [e20]
  refine c_X2_distance (by omega) (by omega) (by omega) (by omega) (fun i hi => by rw [a5 30 (by omega) (by omega)]; exact hD i hi) (sX6_become_64 hE q hq _ _ _ ?_)
  have hd := dD_rng (dx := if 0 ≤ X - 20 then X - 20 else 20 - X) (dy := if 0 ≤ Y - 20 then Y - 20 else 20 - Y) (by split <;> omega) (by split <;> omega)
  intro μ6 e6
  have e10 : (if (0 : Int32) < 10 - ii (dD (if 0 ≤ X - 20 then X - 20 else 20 - X) (if 0 ≤ Y - 20 then Y - 20 else 20 - Y)) / 200 then 10 - ii (dD (if 0 ≤ X - 20 then X - 20 else 20 - X) (if 0 ≤ Y - 20 then Y - 20 else 20 - Y)) / 200 else (0 : Int32)) = ii (rng X Y) := by
    unfold rng
    generalize dD (if 0 ≤ X - 20 then X - 20 else 20 - X) (if 0 ≤ Y - 20 then Y - 20 else 20 - Y) = d at hd
    have e7 : (10 : Int32) - ii d / 200 = ii (10 - d / 200) := by rw [ii_lit 200, ii_div (by omega) (by omega) (by decide) (by decide), ii_lit 10, ii_sub]
    rw [e7, ii_0, ii_max (by omega) (by omega)]
  rw [e10] at e6
  refine h μ6 ⟨?_, ?_, ?_, ?_, ?_, fun e he => ?_⟩ (fun c c1 c2 => by rw [e6, jm_st_nc _ _ _ c1]; exact a5 c c1 c2)
  · rw [e6, jm_st_ni _ _ _ (by decide)]; exact x1
  · rw [e6, jm_st_ni _ _ _ (by decide)]; exact x2
  · rw [e6, jm_st_ni _ _ _ (by decide)]; exact x3
  · rw [e6, jm_st_ni _ _ _ (by decide)]; exact x4
  · rw [e6, jm_st_s]
  · have z0 : (0 : Int32).toNatClampNeg = 0 := by decide
    have z4 : (4 : Int32).toNatClampNeg = 4 := by decide
    rw [e6, jm_st_nc _ _ _ (by omega), e5, jm_st_nc _ _ _ (by omega), e4, jm_st_nc _ _ _ (by omega), e3, jm_st_nc _ _ _ (by omega), e2, jm_st_nc _ _ _ (by omega), e1, jm_up_s, z0, z4, va_cpy, if_pos (by omega), show 0 + (e - 0) = e by omega]
    exact hr e he
/-- the shots that were found: owners, shots, how many -/
abbrev fS3 : Type := (Nat → Int) × (Nat → sR) × Nat
def SHo (μ : Nat → Nat → Int32) (u : Nat) (own : Nat → Int) : Prop := ∀ j : Nat, j < 32 → μ (u + 2) j = ii (own j)
def SHs (μ : Nat → Nat → Int32) (u : Nat) (sh : Nat → sR) (size : Nat) : Prop := μ u 2 = ii size ∧ size ≤ 8 ∧ ∀ k : Nat, k < size → shotR μ (u + 3 + 2 * k) (sh k)
def SH (μ : Nat → Nat → Int32) (u : Nat) (F : fS3) : Prop := SHo μ u F.1 ∧ SHs μ u F.2.1 F.2.2
/-- what belongs to the shots at u -/
def inSh (u c : Nat) : Prop := u ≤ c ∧ c ≤ u + 18
theorem c_X7_reset {u : Nat} (hu : jm_Shots u) (h : ∀ μ' : Nat → Nat → Int32, SHo μ' u (fun _ => -1) → μ' u 2 = ii 0 → (∀ c : Nat, c ≠ u → c ≠ u + 2 → μ' c = μ c) → P none μ') : jD g ad m_X7_reset [.ref u] μ P := by
  refine jd_intro [some (.ref u), none] (by decide) rfl rfl (fun κ hE => ?_)
  have key : ∀ (k i : Nat) (μ2 : Nat → Nat → Int32), i + k = 32 → μ2 u 2 = ii 0 → (∀ c : Nat, c ≠ u → c ≠ u + 2 → μ2 c = μ c) → (∀ j : Nat, j < i → μ2 (u + 2) j = ii (-1)) → jS g ad m_X7_reset κ 7 [some (.ref u), some (.int (ii i))] [] μ2 := by
    intro k
    induction k with
    | zero =>
      intro i μ2 hi h1 h2 h3
      refine sX7_reset_7 hE u hu _ ⟨fun _ => h μ2 (fun j hj => h3 j (by omega)) h1 h2, fun c => ?_⟩
      simp (disch := omega) only [ii_lit, ii_neg, ii_add, ii_sub, ii_mul, ii_lt, ii_le, ii_eq] at c
      omega
    | succ k ih =>
      intro i μ2 hi h1 h2 h3
      refine sX7_reset_7 hE u hu _ ⟨fun c => ?_, fun c => ⟨ii_in (by omega) (by omega) (by omega), ?_⟩⟩
      · simp (disch := omega) only [ii_lit, ii_neg, ii_add, ii_sub, ii_mul, ii_lt, ii_le, ii_eq] at c
        omega
      · intro μ3 e3
        rw [ii_natN (by omega)] at e3
        have e5 : ii (i : Int) + 1 = ii ((i + 1 : Nat) : Int) := by simp (disch := omega) only [ii_lit, ii_neg, ii_add, ii_sub, ii_mul, ii_lt, ii_le, ii_eq]; rfl
        rw [e5]
        refine ih (i + 1) μ3 (by omega) ?_ (fun c c1 c2 => ?_) (fun j hj => ?_)
        · rw [e3, jm_st_nc _ _ _ (by omega)]; exact h1
        · rw [e3, jm_st_nc _ _ _ c2]; exact h2 c c1 c2
        · rw [e3]
          by_cases c : j = i
          · subst c; rw [jm_st_s]; decide
          · rw [jm_st_ni _ _ _ c]; exact h3 j (by omega)
  refine sX7_reset_0 hE u hu ?_
  intro μ1 e1
  exact key 32 0 μ1 (by omega) (by rw [e1, jm_st_s]; decide) (fun c c1 c2 => by rw [e1, jm_st_nc _ _ _ c1]) (fun j hj => by omega)
end JSH
