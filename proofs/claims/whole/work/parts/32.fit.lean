section JFT
variable {g : jm_G} {ad : Nat → Nat} {μ : Nat → Nat → Int32} {P : Option Value → (Nat → Nat → Int32) → Prop}
theorem ii_min {a b : Int} (ha : ir a) (hb : ir b) : (if ii a < ii b then ii a else ii b) = ii (min a b) := by
  by_cases c : a < b
  · rw [if_pos ((ii_lt ha hb).mpr c)]; congr 1; omega
  · rw [if_neg (fun q => c ((ii_lt ha hb).mp q))]; congr 1; omega
theorem ii_max {a b : Int} (ha : ir a) (hb : ir b) : (if ii b < ii a then ii a else ii b) = ii (max a b) := by
  by_cases c : b < a
  · rw [if_pos ((ii_lt hb ha).mpr c)]; congr 1; omega
  · rw [if_neg (fun q => c ((ii_lt hb ha).mp q))]; congr 1; omega
theorem tk_0 (sp x y : Int) : tk sp 0 x y = tD sp x y := rfl
theorem tk_1 (sp x y : Int) : tk sp 1 x y = tD sp (40 - x) y := rfl
theorem tk_2 (sp x y : Int) : tk sp 2 x y = tD sp (40 - x) (40 - y) := rfl
theorem tk_3 (sp x y : Int) : tk sp 3 x y = tD sp x (40 - y) := rfl
/-- an ear's start, if the shot passed there -/
def stt (sp : Int) (t : Nat → Int) (x y : Int) (e : Nat) : Int := t e - tk sp e x y
def lstS (sp : Int) (t : Nat → Int) (x y : Int) : Int := min (stt sp t x y 3) (min (stt sp t x y 2) (min (stt sp t x y 1) (stt sp t x y 0)))
def gstS (sp : Int) (t : Nat → Int) (x y : Int) : Int := max (stt sp t x y 3) (max (stt sp t x y 2) (max (stt sp t x y 1) (stt sp t x y 0)))
/-- the spread with which times fit a point -/
def spr (sp : Int) (t : Nat → Int) (x y : Int) : Int := gstS sp t x y - lstS sp t x y
def tB (t : Nat → Int) : Prop := ∀ e : Nat, e < 4 → 0 ≤ t e ∧ t e ≤ 99999
theorem stt_rng {sp x y : Int} {t : Nat → Int} {e : Nat} (hs : 313 ≤ sp) (ht : tB t) (he : e < 4) (hx : 0 ≤ x ∧ x ≤ 40) (hy : 0 ≤ y ∧ y ≤ 40) : -1807 ≤ stt sp t x y e ∧ stt sp t x y e ≤ 99999 := by
  have h1 := tk_rng (e := e) hs hx hy
  have h2 := ht e he
  unfold stt
  omega
theorem spr_rng {sp x y : Int} {t : Nat → Int} (hs : 313 ≤ sp) (ht : tB t) (hx : 0 ≤ x ∧ x ≤ 40) (hy : 0 ≤ y ∧ y ≤ 40) : 0 ≤ spr sp t x y ∧ spr sp t x y ≤ 101806 := by
  have h0 := stt_rng (e := 0) hs ht (by omega) hx hy
  have h1 := stt_rng (e := 1) hs ht (by omega) hx hy
  have h2 := stt_rng (e := 2) hs ht (by omega) hx hy
  have h3 := stt_rng (e := 3) hs ht (by omega) hx hy
  unfold spr gstS lstS
  omega
/-- the times of the four ears, in the array of Fit -/
def tF (μ : Nat → Nat → Int32) (t : Nat → Int) : Prop := ∀ e : Nat, e < 4 → μ 34 e = ii (t e)
theorem c_X1_spreadAt {sp x y : Int} {t : Nat → Int} (hs : 313 ≤ sp) (hT : FTm μ sp) (ht : tF μ t) (hB : tB t) (hx : 0 ≤ x ∧ x ≤ 40) (hy : 0 ≤ y ∧ y ≤ 40) (h : P (some (.int (ii (spr sp t x y)))) μ) : jD g ad m_X1_spreadAt [.ref 33, .ref 29, .int (ii x), .int (ii y)] μ P := by
  refine jd_intro [some (.ref 33), some (.ref 29), some (.int (ii x)), some (.int (ii y)), none, none, none, none] (by decide) rfl rfl (fun κ hE => ?_)
  have h0 := stt_rng (e := 0) hs hB (by omega) hx hy
  have h1 := stt_rng (e := 1) hs hB (by omega) hx hy
  have h2 := stt_rng (e := 2) hs hB (by omega) hx hy
  have h3 := stt_rng (e := 3) hs hB (by omega) hx hy
  have step : ∀ (e : Nat) (lo hi : Int), e < 4 → ir lo → ir hi → jS g ad m_X1_spreadAt κ 23 [some (.ref 33), some (.ref 29), some (.int (ii x)), some (.int (ii y)), some (.int (ii (min (stt sp t x y e) lo))), some (.int (ii (max (stt sp t x y e) hi))), some (.int (ii ((e : Int) + 1))), none] [] μ → jS g ad m_X1_spreadAt κ 23 [some (.ref 33), some (.ref 29), some (.int (ii x)), some (.int (ii y)), some (.int (ii lo)), some (.int (ii hi)), some (.int (ii e)), none] [] μ := by
    intro e lo hi he hlo hhi kk
    have he9 := stt_rng (e := e) hs hB he hx hy
    refine sX1_spreadAt_23 hE _ _ _ _ _ ⟨fun c => ?_, fun c => ⟨ii_in (by omega) (by omega) (by omega), c_X2_crackTime hT hx hy (by omega) (sX1_spreadAt_44 hE _ _ _ _ _ _ _ ?_)⟩⟩
    · simp (disch := omega) only [ii_lit, ii_neg, ii_add, ii_sub, ii_mul, ii_lt, ii_le, ii_eq] at c
      omega
    · rw [ii_natN (by omega), ht e he, ii_sub]
      show jS g ad m_X1_spreadAt κ 23 [some (.ref 33), some (.ref 29), some (.int (ii x)), some (.int (ii y)), some (.int (if ii (stt sp t x y e) < ii lo then ii (stt sp t x y e) else ii lo)), some (.int (if ii hi < ii (stt sp t x y e) then ii (stt sp t x y e) else ii hi)), some (.int (ii e + 1)), none] [] μ
      rw [ii_min (by omega) hlo, ii_max (by omega) hhi, ii_1, ii_add]
      exact kk
  refine sX1_spreadAt_0 hE _ _ (c_X2_crackTime (e := 0) hT hx hy (by omega) (sX1_spreadAt_13 hE _ _ _ _ ?_))
  have e0 : μ 34 0 = ii (t 0) := ht 0 (by omega)
  rw [e0, ii_sub]
  show jS g ad m_X1_spreadAt κ 23 [some (.ref 33), some (.ref 29), some (.int (ii x)), some (.int (ii y)), some (.int (ii (stt sp t x y 0))), some (.int (ii (stt sp t x y 0))), some (.int (ii ((1 : Nat) : Int))), none] [] μ
  refine step 1 _ _ (by omega) (by omega) (by omega) ?_
  refine step 2 _ _ (by omega) (by omega) (by omega) ?_
  refine step 3 _ _ (by omega) (by omega) (by omega) ?_
  refine sX1_spreadAt_23 hE _ _ _ _ _ ⟨fun _ => ?_, fun c => absurd (by decide) c⟩
  rw [ii_sub]
  exact h
theorem c_X1_leastStart {sp x y : Int} {t : Nat → Int} (hs : 313 ≤ sp) (hT : FTm μ sp) (ht : tF μ t) (hB : tB t) (hx : 0 ≤ x ∧ x ≤ 40) (hy : 0 ≤ y ∧ y ≤ 40) (hX : μ 33 1 = ii x) (hY : μ 33 2 = ii y) (h : P (some (.int (ii (lstS sp t x y)))) μ) : jD g ad m_X1_leastStart [.ref 33, .ref 29] μ P := by
  refine jd_intro [some (.ref 33), some (.ref 29), none, none] (by decide) rfl rfl (fun κ hE => ?_)
  have h0 := stt_rng (e := 0) hs hB (by omega) hx hy
  have h1 := stt_rng (e := 1) hs hB (by omega) hx hy
  have h2 := stt_rng (e := 2) hs hB (by omega) hx hy
  have h3 := stt_rng (e := 3) hs hB (by omega) hx hy
  have step : ∀ (e : Nat) (lo : Int), e < 4 → ir lo → jS g ad m_X1_leastStart κ 23 [some (.ref 33), some (.ref 29), some (.int (ii (min (stt sp t x y e) lo))), some (.int (ii ((e : Int) + 1)))] [] μ → jS g ad m_X1_leastStart κ 23 [some (.ref 33), some (.ref 29), some (.int (ii lo)), some (.int (ii e))] [] μ := by
    intro e lo he hlo kk
    have he9 := stt_rng (e := e) hs hB he hx hy
    refine sX1_leastStart_23 hE _ _ ⟨fun c => ?_, fun c => ⟨ii_in (by omega) (by omega) (by omega), ?_⟩⟩
    · simp (disch := omega) only [ii_lit, ii_neg, ii_add, ii_sub, ii_mul, ii_lt, ii_le, ii_eq] at c
      omega
    · rw [hX, hY]
      refine c_X2_crackTime hT hx hy (by omega) (sX1_leastStart_48 hE _ _ _ _ ?_)
      rw [ii_natN (by omega), ht e he, ii_sub]
      show jS g ad m_X1_leastStart κ 23 [some (.ref 33), some (.ref 29), some (.int (if ii (stt sp t x y e) < ii lo then ii (stt sp t x y e) else ii lo)), some (.int (ii e + 1))] [] μ
      rw [ii_min (by omega) hlo, ii_1, ii_add]
      exact kk
  refine sX1_leastStart_0 hE ?_
  rw [hX, hY]
  refine c_X2_crackTime (e := 0) hT hx hy (by omega) (sX1_leastStart_19 hE _ _ ?_)
  have e0 : μ 34 0 = ii (t 0) := ht 0 (by omega)
  rw [e0, ii_sub]
  show jS g ad m_X1_leastStart κ 23 [some (.ref 33), some (.ref 29), some (.int (ii (stt sp t x y 0))), some (.int (ii ((1 : Nat) : Int)))] [] μ
  refine step 1 _ (by omega) (by omega) ?_
  refine step 2 _ (by omega) (by omega) ?_
  refine step 3 _ (by omega) (by omega) ?_
  exact sX1_leastStart_23 hE _ _ ⟨fun _ => h, fun c => absurd (by decide) c⟩
end JFT
