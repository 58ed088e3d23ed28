section JM9
variable {g : jm_G} {ad : Nat → Nat} {P : Option Value → (Nat → Nat → Int32) → Prop}
def shM (μ : Nat → Nat → Int32) (k : Nat) (s : sR) : Prop := μ 92 k = ii (41 * s.2.2.1 + s.2.1) ∧ μ 93 k = ii s.2.2.2.1 ∧ μ 94 k = ii s.2.2.2.2 ∧ ∀ e : Nat, e < 4 → μ 95 (4 * k + e) = ii (s.1 e)
/-- the shots that the reference found -/
def mSH (μ : Nat → Nat → Int32) (F : fS3) : Prop := SO μ F.1 ∧ μ 82 11 = ii F.2.2 ∧ F.2.2 ≤ 8 ∧ ∀ k : Nat, k < F.2.2 → shM μ k (F.2.1 k)
theorem shM.kept {μ μ' : Nat → Nat → Int32} {k : Nat} {s : sR} (h : shM μ k s) (h92 : μ' 92 k = μ 92 k) (h93 : μ' 93 k = μ 93 k) (h94 : μ' 94 k = μ 94 k) (h95 : ∀ e : Nat, e < 4 → μ' 95 (4 * k + e) = μ 95 (4 * k + e)) : shM μ' k s := by
  obtain ⟨a, b, c, d⟩ := h
  exact ⟨by rw [h92]; exact a, by rw [h93]; exact b, by rw [h94]; exact c, fun e he => by rw [h95 e he]; exact d e he⟩
set_option maxRecDepth 100000 in
theorem c_X9_becomesShot {μ : Nat → Nat → Int32} {h : sH} {F : fS3} {r : Nat → Nat} {sp S : Int} {pl : Nat} (hf : MS μ h) (hB : fB h.2.1 h.2.2) (hsp : 313 ≤ sp) (hT : MTm μ sp) (hF : mSH μ F) (hs9 : F.2.2 < 8) (hr : ∀ e : Nat, e < 4 → μ 98 e = ii (r e : Nat) ∧ r e < h.2.1) (hpl : μ 82 20 = ii pl) (hpl9 : pl < 1681) (hS : μ 82 21 = ii S)
    (hp : ∀ μ' : Nat → Nat → Int32, mSH μ' (ownA F.1 r F.2.2 4, fun k => if k = F.2.2 then (fun e => ((r e : Nat) : Int), ((pl % 41 : Nat) : Int), ((pl / 41 : Nat) : Int), S, lstS sp (fun e => h.2.2 (r e) / 4) ((pl % 41 : Nat) : Int) ((pl / 41 : Nat) : Int)) else F.2.1 k, F.2.2 + 1) → (∀ j : Nat, j ≠ 11 → μ' 82 j = μ 82 j) → (∀ c : Nat, c ≠ 82 → ¬ (91 ≤ c ∧ c ≤ 96) → μ' c = μ c) → P none μ') : jD g ad m_X9_becomesShot [.ref 82] μ P := by
  refine jd_intro [some (.ref 82), none] (by decide) rfl rfl (fun κ hE => ?_)
  have hn := hf.2.2.1
  obtain ⟨f1, f2, f3, f4⟩ := hF
  generalize hsz : F.2.2 = size at *
  have key : ∀ (m e : Nat) (μ1 : Nat → Nat → Int32), e + m = 4 → (∀ j : Nat, j < e → μ1 96 j = ii (r j : Nat)) → SO μ1 (ownA F.1 r size e) → (∀ j : Nat, j < e → μ1 95 (4 * size + j) = ii (r j : Nat)) → (∀ j : Nat, j < 4 * size → μ1 95 j = μ 95 j) → (∀ c : Nat, c ≠ 91 → c ≠ 95 → c ≠ 96 → μ1 c = μ c) → jS g ad m_X9_becomesShot κ 2 [some (.ref 82), some (.int (ii e))] [] μ1 := by
    intro m
    induction m with
    | zero =>
      intro e μ1 he a1 a2 a3 a4 a5
      have e4 : e = 4 := by omega
      subst e4
      refine sX9_becomesShot_2 hE _ ⟨fun _ => ?_, fun q => absurd (by decide) q⟩
      have x11 : μ1 82 11 = ii size := by rw [a5 82 (by decide) (by decide) (by decide)]; exact f2
      have x20 : μ1 82 20 = ii pl := by rw [a5 82 (by decide) (by decide) (by decide)]; exact hpl
      have x21 : μ1 82 21 = ii S := by rw [a5 82 (by decide) (by decide) (by decide)]; exact hS
      rw [x11, x20, ii_natN (by omega)]
      refine ⟨ii_in (by omega) (by omega) (by omega), ?_⟩
      intro μ2 e2
      have y11 : μ2 82 11 = ii size := by rw [e2, jm_st_nc _ _ _ (by decide)]; exact x11
      have y21 : μ2 82 21 = ii S := by rw [e2, jm_st_nc _ _ _ (by decide)]; exact x21
      rw [y11, y21, ii_natN (by omega)]
      refine ⟨ii_in (by omega) (by omega) (by omega), ?_⟩
      intro μ3 e3
      have k3 : ∀ c : Nat, c ≠ 92 → c ≠ 93 → μ3 c = μ1 c := fun c c1 c2 => by rw [e3, jm_st_nc _ _ _ c2, e2, jm_st_nc _ _ _ c1]
      have z11 : μ3 82 11 = ii size := by rw [k3 82 (by decide) (by decide)]; exact x11
      have z20 : μ3 82 20 = ii pl := by rw [k3 82 (by decide) (by decide)]; exact x20
      rw [z11, z20]
      refine c_X9_momentAt (h := h) (r := r) (sp := sp) (hf.kept (by rw [k3 83 (by decide) (by decide), a5 83 (by decide) (by decide) (by decide)])) hB (fun e he => ⟨by rw [k3 96 (by decide) (by decide)]; exact a1 e he, (hr e he).2⟩) hsp (hT.kept (by rw [k3 82 (by decide) (by decide), a5 82 (by decide) (by decide) (by decide)]) (by rw [k3 90 (by decide) (by decide), a5 90 (by decide) (by decide) (by decide)])) hpl9 (sX9_becomesShot_101 hE _ _ ⟨ii_in (by omega) (by omega) (by omega), ?_⟩)
      intro μ4 e4
      rw [ii_natN (by omega)] at e4
      intro μ5 e5
      have w11 : μ4 82 11 = ii size := by rw [e4, jm_st_nc _ _ _ (by decide)]; exact z11
      rw [w11, ii_1, ii_add] at e5
      have k5 : ∀ c : Nat, c ≠ 82 → c ≠ 92 → c ≠ 93 → c ≠ 94 → μ5 c = μ1 c := fun c c0 c1 c2 c3 => by rw [e5, jm_st_nc _ _ _ c0, e4, jm_st_nc _ _ _ c3]; exact k3 c c1 c2
      refine hp μ5 ⟨fun j hj => by rw [k5 91 (by decide) (by decide) (by decide) (by decide)]; exact a2 j hj, by rw [e5, jm_st_s]; rfl, by show size + 1 ≤ 8; omega, fun k hk => ?_⟩ (fun j hj => by rw [e5, jm_st_ni _ _ _ hj, e4, jm_st_nc _ _ _ (by decide), k3 82 (by decide) (by decide), a5 82 (by decide) (by decide) (by decide)]) (fun c c1 c2 => by rw [k5 c c1 (by omega) (by omega) (by omega), a5 c (by omega) (by omega) (by omega)])
      have hk : k < size + 1 := hk
      show shM μ5 k (if k = size then (fun e => ((r e : Nat) : Int), ((pl % 41 : Nat) : Int), ((pl / 41 : Nat) : Int), S, lstS sp (fun e => h.2.2 (r e) / 4) ((pl % 41 : Nat) : Int) ((pl / 41 : Nat) : Int)) else F.2.1 k)
      by_cases c : k = size
      · rw [if_pos c, c]
        refine ⟨?_, ?_, ?_, fun e he => by rw [k5 95 (by decide) (by decide) (by decide) (by decide)]; exact a3 e he⟩
        · rw [e5, jm_st_nc _ _ _ (by decide), e4, jm_st_nc _ _ _ (by decide), e3, jm_st_nc _ _ _ (by decide), e2, jm_st_s]
          congr 1
          show (pl : Int) = 41 * ((pl / 41 : Nat) : Int) + ((pl % 41 : Nat) : Int)
          omega
        · rw [e5, jm_st_nc _ _ _ (by decide), e4, jm_st_nc _ _ _ (by decide), e3, jm_st_s]
        · rw [e5, jm_st_nc _ _ _ (by decide), e4, jm_st_s]
      · rw [if_neg c]
        refine (f4 k (by omega)).kept ?_ ?_ ?_ (fun e he => ?_)
        · rw [e5, jm_st_nc _ _ _ (by decide), e4, jm_st_nc _ _ _ (by decide), e3, jm_st_nc _ _ _ (by decide), e2, jm_st_ni _ _ _ c, a5 92 (by decide) (by decide) (by decide)]
        · rw [e5, jm_st_nc _ _ _ (by decide), e4, jm_st_nc _ _ _ (by decide), e3, jm_st_ni _ _ _ c, e2, jm_st_nc _ _ _ (by decide), a5 93 (by decide) (by decide) (by decide)]
        · rw [e5, jm_st_nc _ _ _ (by decide), e4, jm_st_ni _ _ _ c, k3 94 (by decide) (by decide), a5 94 (by decide) (by decide) (by decide)]
        · rw [k5 95 (by decide) (by decide) (by decide) (by decide)]
          exact a4 _ (by omega)
    | succ m ih =>
      intro e μ1 he a1 a2 a3 a4 a5
      have e5 : ii (e : Int) + 1 = ii ((e + 1 : Nat) : Int) := by simp (disch := omega) only [ii_lit, ii_neg, ii_add, ii_sub, ii_mul, ii_lt, ii_le, ii_eq]; rfl
      obtain ⟨r1, r2⟩ := hr e (by omega)
      refine sX9_becomesShot_2 hE _ ⟨fun q => ?_, fun _ => ⟨ii_in (by omega) (by omega) (by omega), ii_in (by omega) (by omega) (by omega), ?_⟩⟩
      · simp (disch := omega) only [ii_lit, ii_neg, ii_add, ii_sub, ii_mul, ii_lt, ii_le, ii_eq] at q
        omega
      · rw [ii_natN (by omega)]
        have x98 : μ1 98 e = ii (r e : Nat) := by rw [a5 98 (by decide) (by decide) (by decide)]; exact r1
        rw [x98]
        intro μ2 e2
        have y98 : μ2 98 e = ii (r e : Nat) := by rw [e2, jm_st_nc _ _ _ (by decide)]; exact x98
        have y11 : μ2 82 11 = ii size := by rw [e2, jm_st_nc _ _ _ (by decide), a5 82 (by decide) (by decide) (by decide)]; exact f2
        rw [y98, y11, ii_natN (by omega)]
        refine ⟨ii_in (by omega) (by omega) (by omega), ii_in (by omega) (by omega) (by omega), ?_⟩
        intro μ3 e3
        have z98 : μ3 98 e = ii (r e : Nat) := by rw [e3, jm_st_nc _ _ _ (by decide)]; exact y98
        have z11 : μ3 82 11 = ii size := by rw [e3, jm_st_nc _ _ _ (by decide)]; exact y11
        rw [z98, z11, ii_4, ii_mul, ii_add, ii_nat (by omega) (by omega), show (4 * (size : Int) + e).toNat = 4 * size + e by omega]
        refine ⟨ii_in (by omega) (by omega) (by omega), ii_in (by omega) (by omega) (by omega), ?_⟩
        intro μ4 e4
        rw [e5]
        refine ih (e + 1) μ4 (by omega) (fun j hj => ?_) (fun j hj => ?_) (fun j hj => ?_) (fun j hj => ?_) (fun c c1 c2 c3 => by rw [e4, jm_st_nc _ _ _ c2, e3, jm_st_nc _ _ _ c1, e2, jm_st_nc _ _ _ c3]; exact a5 c c1 c2 c3)
        · rw [e4, jm_st_nc _ _ _ (by decide), e3, jm_st_nc _ _ _ (by decide), e2]
          by_cases q : j = e
          · rw [q, jm_st_s]
          · rw [jm_st_ni _ _ _ q]; exact a1 j (by omega)
        · rw [e4, jm_st_nc _ _ _ (by decide), e3]
          show _ = ii (oc (if j = r e then (size : Int) else ownA F.1 r size e j))
          by_cases q : j = r e
          · rw [if_pos q, q, jm_st_s]
            congr 1
          · rw [if_neg q, jm_st_ni _ _ _ q, e2, jm_st_nc _ _ _ (by decide)]
            exact a2 j hj
        · rw [e4]
          by_cases q : j = e
          · rw [q, jm_st_s]
          · rw [jm_st_ni _ _ _ (by omega), e3, jm_st_nc _ _ _ (by decide), e2, jm_st_nc _ _ _ (by decide)]; exact a3 j (by omega)
        · rw [e4, jm_st_ni _ _ _ (by omega), e3, jm_st_nc _ _ _ (by decide), e2, jm_st_nc _ _ _ (by decide)]; exact a4 j hj
  refine sX9_becomesShot_0 hE ?_
  exact key 4 0 μ (by omega) (fun j hj => by omega) f1 (fun j hj => by omega) (fun _ _ => rfl) (fun _ _ _ _ => rfl)
/-- what the reference's search leaves as it was -/
def aF (μ μ' : Nat → Nat → Int32) : Prop := (∀ j : Nat, j < 10 → μ' 82 j = μ 82 j) ∧ ∀ c : Nat, c ≠ 82 → ¬ (90 ≤ c ∧ c ≤ 98) → μ' c = μ c
theorem aF.trans {μ μ' μ'' : Nat → Nat → Int32} (h : aF μ μ') (h' : aF μ' μ'') : aF μ μ'' := ⟨fun j hj => by rw [h'.1 j hj]; exact h.1 j hj, fun c c1 c2 => by rw [h'.2 c c1 c2]; exact h.2 c c1 c2⟩
set_option maxRecDepth 100000 in
theorem c_X9_findShots {μ : Nat → Nat → Int32} {h : sH} {heat : Int} (hf : MS μ h) (hv : vH h) (hD : MD μ) (hT0 : MT0 μ) (hheat : -30 ≤ heat ∧ heat ≤ 50) (hp : ∀ μ' : Nat → Nat → Int32, MTm μ' (spd heat) → mSH μ' (fd h heat (-1)) → aF μ μ' → P none μ') : jD g ad m_X9_findShots [.ref 82, .int (ii heat)] μ P := by
  refine jd_intro [some (.ref 82), some (.int (ii heat)), none, none] (by decide) rfl rfl (fun κ hE => ?_)
  have hsp := spd_rng hheat.1 hheat.2
  have hv9 := hv
  obtain ⟨v0, v1, v2, vn, vB, vS⟩ := hv
  refine sX9_findShots_0 hE _ (c_X9_speedBy hheat (sX9_findShots_5 hE _ (c_X9_reckon hsp hD hT0 (fun μ1 t1 r1 r2 => sX9_findShots_8 hE ?_))))
  intro μ2 e2
  have b1 : ∀ j : Nat, j ≠ 10 → j ≠ 11 → μ2 82 j = μ 82 j := fun j j1 j2 => by rw [e2, jm_st_ni _ _ _ j2]; exact r1 j j1
  have b2 : ∀ c : Nat, c ≠ 82 → c ≠ 90 → μ2 c = μ c := fun c c1 c2 => by rw [e2, jm_st_nc _ _ _ c1]; exact r2 c c1 c2
  have t2 : MTm μ2 (spd heat) := t1.kept (by rw [e2, jm_st_ni _ _ _ (by decide)]) (by rw [e2, jm_st_nc _ _ _ (by decide)])
  have h0 : ∀ j : Nat, j < h.2.1 → own0F h.2.1 (-1) j = -1 ∨ own0F h.2.1 (-1) j = -6 := by
    intro j hj
    unfold own0F
    split
    · exact Or.inr rfl
    · exact Or.inl rfl
  unfold fd at hp
  generalize hw9 : h.1 1 = win at *
  generalize hl9 : h.1 2 = slack at *
  have walk : ∀ (m p : Nat) (μ3 : Nat → Nat → Int32), p + m = h.2.1 → MTm μ3 (spd heat) → mSH μ3 (findF h.2.1 h.2.2 win slack (spd heat) (own0F h.2.1 (-1)) p) → aF μ μ3 → jS g ad m_X9_findShots κ 37 [some (.ref 82), none, some (.int (ii p)), none] [] μ3 := by
    intro m
    induction m with
    | zero =>
      intro p μ3 hpm tm hs fr
      have ep : p = h.2.1 := by omega
      rw [ep] at hs
      have hf3 : MS μ3 h := hf.kept (fr.2 83 (by decide) (by omega))
      refine sX9_findShots_37 hE _ ⟨fun _ => hp μ3 tm hs fr, fun q => ?_⟩
      rw [hf3.2.1] at q
      simp (disch := omega) only [ii_lit, ii_neg, ii_add, ii_sub, ii_mul, ii_lt, ii_le, ii_eq] at q
      omega
    | succ m ih =>
      intro p μ3 hpm tm hs fr
      have hf3 : MS μ3 h := hf.kept (fr.2 83 (by decide) (by omega))
      have e5 : ii (p : Int) + 1 = ii ((p + 1 : Nat) : Int) := by simp (disch := omega) only [ii_lit, ii_neg, ii_add, ii_sub, ii_mul, ii_lt, ii_le, ii_eq]; rfl
      obtain ⟨hok, h8⟩ := find_ok (win := win) (slack := slack) (sp := spd heat) vB vn h0 p (by omega)
      have eF : findF h.2.1 h.2.2 win slack (spd heat) (own0F h.2.1 (-1)) (p + 1) = stepF h.2.1 h.2.2 win slack (spd heat) p (findF h.2.1 h.2.2 win slack (spd heat) (own0F h.2.1 (-1)) p) := rfl
      have ih := ih (p + 1)
      rw [eF] at ih
      generalize hFe : findF h.2.1 h.2.2 win slack (spd heat) (own0F h.2.1 (-1)) p = F at *
      have hop := hok.1 p (by omega)
      refine sX9_findShots_37 hE _ ⟨fun q => ?_, fun _ => ⟨ii_in (by omega) (by omega) (by omega), ?_⟩⟩
      · rw [hf3.2.1] at q
        simp (disch := omega) only [ii_lit, ii_neg, ii_add, ii_sub, ii_mul, ii_lt, ii_le, ii_eq] at q
        omega
      rw [ii_natN (by omega), hs.1 p (by omega), e5]
      have ho40 : ii (oc (F.1 p)) = 40 ↔ F.1 p = -1 := by
        have e40 : (40 : Int32) = ii 40 := by decide
        rw [e40]
        unfold oc
        by_cases q : F.1 p = -1
        · rw [if_pos q]
          exact ⟨fun _ => q, fun _ => rfl⟩
        · rw [if_neg q, ii_eq (by omega) (by decide)]
          exact ⟨fun q2 => by omega, fun q2 => absurd q2 q⟩
      rw [ho40]
      refine ⟨fun c => ?_, fun c => ⟨ii_in (by omega) (by omega) (by omega), ?_⟩⟩
      · refine ih μ3 (by omega) tm ?_ fr
        unfold stepF
        rw [if_neg c]
        exact hs
      · intro μ4 e4
        have h88 := find_lt8 vn (by omega) hok c
        have hstep : stepF h.2.1 h.2.2 win slack (spd heat) p F = judgeF h.2.1 h.2.2 win slack (spd heat) p F := by
          unfold stepF
          rw [if_pos c]
        rw [hstep] at ih
        unfold judgeF at ih
        generalize hown : (fun j => if j = p then -6 else F.1 j : Nat → Int) = own at *
        have hownj : ∀ j : Nat, own j = if j = p then -6 else F.1 j := fun j => by rw [← hown]
        have k4 : ∀ c : Nat, c ≠ 91 → μ4 c = μ3 c := fun c cc => by rw [e4, jm_st_nc _ _ _ cc]
        have ho4 : SO μ4 own := by
          intro j hj
          rw [e4, hownj]
          by_cases q : j = p
          · rw [if_pos q, q, jm_st_s]; decide
          · rw [if_neg q, jm_st_ni _ _ _ q]; exact hs.1 j hj
        have hor : ∀ j : Nat, j < h.2.1 → -6 ≤ own j ∧ own j ≤ 8 := by
          intro j hj
          rw [hownj]
          have := hok.1 j hj
          split <;> omega
        have hf4 : MS μ4 h := hf3.kept (k4 _ (by decide))
        -- without a shot
        have stray : ∀ μ5 : Nat → Nat → Int32, kpL (near h.2.1 h.2.2 win own p) (fun c => (bst (spd heat) (rowT h.2.2 (near h.2.1 h.2.2 win own p) c)).2) slack 16 = none → (∀ j : Nat, ¬ (20 ≤ j ∧ j ≤ 23) → μ5 82 j = μ4 82 j) → (∀ c : Nat, c ≠ 82 → c ≠ 96 → c ≠ 97 → c ≠ 98 → μ5 c = μ4 c) → jS g ad m_X9_findShots κ 37 [some (.ref 82), none, some (.int (ii ((p + 1 : Nat) : Int))), none] [] μ5 := by
          intro μ5 hk w1 w2
          rw [hk] at ih
          refine ih μ5 (by omega) (tm.kept (by rw [w1 10 (by omega), k4 82 (by decide)]) (by rw [w2 90 (by decide) (by decide) (by decide) (by decide), k4 90 (by decide)])) ⟨fun j hj => by rw [w2 91 (by decide) (by decide) (by decide) (by decide)]; exact ho4 j hj, by rw [w1 11 (by omega), k4 82 (by decide)]; exact hs.2.1, hs.2.2.1, fun k hk => ?_⟩ ⟨fun j hj => by rw [w1 j (by omega), k4 82 (by decide)]; exact fr.1 j hj, fun c c1 c2 => by rw [w2 c c1 (by omega) (by omega) (by omega), k4 c (by omega)]; exact fr.2 c c1 c2⟩
          refine (hs.2.2.2 k hk).kept ?_ ?_ ?_ (fun e he => ?_)
          · rw [w2 92 (by decide) (by decide) (by decide) (by decide), k4 92 (by decide)]
          · rw [w2 93 (by decide) (by decide) (by decide) (by decide), k4 93 (by decide)]
          · rw [w2 94 (by decide) (by decide) (by decide) (by decide), k4 94 (by decide)]
          · rw [w2 95 (by decide) (by decide) (by decide) (by decide), k4 95 (by decide)]
        refine c_X9_findCandidates (own := own) hf4 hv9 (by omega) ho4 hor (fun μ5 n5 r5 k5 => sX9_findShots_71 hE _ _ ⟨fun q => absurd q (by decide), fun _ => ?_⟩) (fun μ5 n5 k5 => sX9_findShots_71 hE _ _ ⟨fun _ => ⟨fun _ => ?_, fun q => absurd rfl q⟩, fun q => absurd rfl q⟩)
        · rw [hw9] at n5 r5
          generalize hNe : near h.2.1 h.2.2 win own p = N at *
          have hin : ∀ (e v : Nat), e < 4 → v ∈ N e → v < h.2.1 := fun e v _ hv => (near_in (show p < h.2.1 by omega) (by rw [hNe]; exact hv)).1
          refine c_X9_findBest (sp := spd heat) (hf4.kept (k5 _ (by decide))) vB n5 hin hsp.1 (tm.kept (by rw [k5 82 (by decide), k4 82 (by decide)]) (by rw [k5 90 (by decide), k4 90 (by decide)])) r5 (fun μ6 b hb x21 x20 x98 w1 w2 => sX9_findShots_80 hE _ _ ⟨fun q => absurd q (by decide), fun _ => ?_⟩)
          have hk16 := kpL_kp (N := N) (S := fun c => (bst (spd heat) (rowT h.2.2 N c)).2) (slack := slack) 16
          rw [hb] at hk16
          have hk16 : kpL N (fun c => (bst (spd heat) (rowT h.2.2 N c)).2) slack 16 = if (bst (spd heat) (rowT h.2.2 N b)).2 ≤ slack then some b else none := hk16
          have hbrow := (kp_lt hb).2
          have hrix : ∀ e : Nat, e < 4 → rowIx N b e < h.2.1 := fun e he => hin e _ he (rowIx_in (rowB_iff.mp hbrow e he))
          have htB : tB (rowT h.2.2 N b) := by
            intro e he
            have := vB _ (hrix e he)
            unfold rowT
            omega
          have hbb := bst_best (spd heat) (rowT h.2.2 N b)
          have hpt := hbb.1
          unfold pt at hpt
          have hSr : 0 ≤ (bst (spd heat) (rowT h.2.2 N b)).2 ∧ (bst (spd heat) (rowT h.2.2 N b)).2 ≤ 101806 := by
            rw [hbb.2.1]
            exact spr_rng hsp.1 htB (by omega) (by omega)
          have xsl : μ6 83 2 = ii slack := by rw [w2 83 (by decide) (by decide) (by decide), k5 83 (by decide), hf4.1 2 (by decide), hl9]
          rw [xsl, x21, ii_lt (by omega) (by omega), e5]
          refine ⟨fun q => ?_, fun q => ?_⟩
          · rw [if_neg (by omega)] at hk16
            exact stray μ6 hk16 (fun j hj => by rw [w1 j hj, k5 82 (by decide)]) (fun c c1 c2 c3 c4 => by rw [w2 c c1 c2 c4, k5 c c3])
          · rw [if_pos (by omega)] at hk16
            rw [hk16] at ih
            have hs6 : mSH μ6 (own, F.2.1, F.2.2) := by
              refine ⟨fun j hj => by rw [w2 91 (by decide) (by decide) (by decide), k5 91 (by decide)]; exact ho4 j hj, by rw [w1 11 (by omega), k5 82 (by decide), k4 82 (by decide)]; exact hs.2.1, hs.2.2.1, fun k hk => ?_⟩
              refine (hs.2.2.2 k hk).kept ?_ ?_ ?_ (fun e he => ?_)
              · rw [w2 92 (by decide) (by decide) (by decide), k5 92 (by decide), k4 92 (by decide)]
              · rw [w2 93 (by decide) (by decide) (by decide), k5 93 (by decide), k4 93 (by decide)]
              · rw [w2 94 (by decide) (by decide) (by decide), k5 94 (by decide), k4 94 (by decide)]
              · rw [w2 95 (by decide) (by decide) (by decide), k5 95 (by decide), k4 95 (by decide)]
            have hT6 : MTm μ6 (spd heat) := tm.kept (by rw [w1 10 (by omega), k5 82 (by decide), k4 82 (by decide)]) (by rw [w2 90 (by decide) (by decide) (by decide), k5 90 (by decide), k4 90 (by decide)])
            refine c_X9_becomesShot (F := (own, F.2.1, F.2.2)) (r := rowIx N b) (pl := (bst (spd heat) (rowT h.2.2 N b)).1) (hf4.kept (by rw [w2 83 (by decide) (by decide) (by decide), k5 83 (by decide)])) vB hsp.1 hT6 hs6 h88 (fun e he => ⟨x98 e he, hrix e he⟩) x20 (by omega) x21 (fun μ7 s7 j7 k7 => sX9_findShots_101 hE _ ?_)
            rw [e5]
            refine ih μ7 (by omega) (hT6.kept (j7 10 (by decide)) (k7 90 (by decide) (by omega))) s7 ⟨fun j hj => by rw [j7 j (by omega), w1 j (by omega), k5 82 (by decide), k4 82 (by decide)]; exact fr.1 j hj, fun c c1 c2 => by rw [k7 c c1 (by omega), w2 c c1 (by omega) (by omega), k5 c (by omega), k4 c (by omega)]; exact fr.2 c c1 c2⟩
        · rw [hw9] at n5
          rw [e5]
          refine stray μ5 ?_ (fun j hj => by rw [k5 82 (by decide)]) (fun c c1 c2 c3 c4 => by rw [k5 c c3])
          have : ∀ k : Nat, kpL (near h.2.1 h.2.2 win own p) (fun c => (bst (spd heat) (rowT h.2.2 (near h.2.1 h.2.2 win own p) c)).2) slack k = none := by
            intro k
            induction k with
            | zero => rfl
            | succ k ihk =>
              rw [kpL, if_neg (fun q => n5 k q.1)]
              exact ihk
          exact this 16
  have zero : ∀ (m p : Nat) (μ3 : Nat → Nat → Int32), p + m = 32 → (∀ j : Nat, j < p → μ3 91 j = 40) → (∀ c : Nat, c ≠ 91 → μ3 c = μ2 c) → jS g ad m_X9_findShots κ 15 [some (.ref 82), none, some (.int (ii p)), none] [] μ3 := by
    intro m
    induction m with
    | zero =>
      intro p μ3 hpm a1 a2
      refine sX9_findShots_15 hE _ ⟨fun _ => ?_, fun q => ?_⟩
      · refine walk h.2.1 0 μ3 (by omega) (t2.kept (by rw [a2 82 (by decide)]) (a2 90 (by decide))) ⟨fun j hj => ?_, by rw [a2 82 (by decide), e2, jm_st_s]; exact (by decide : (0 : Int32) = ii ((0 : Nat) : Int)), by show 0 ≤ 8; omega, fun k hk => absurd hk (Nat.not_lt_zero _)⟩ ⟨fun j hj => by rw [a2 82 (by decide)]; exact b1 j (by omega) (by omega), fun c c1 c2 => by rw [a2 c (by omega)]; exact b2 c c1 (by omega)⟩
        rw [a1 j (by omega)]
        show (40 : Int32) = ii (oc (own0F h.2.1 (-1) j))
        have : own0F h.2.1 (-1) j = -1 := by
          unfold own0F
          rw [if_neg (by omega)]
        rw [this]
        decide
      · rw [ii_lit 32, ii_le (by decide) (by omega)] at q
        have q : ¬ (32 : Int) ≤ (p : Int) := q
        omega
    | succ m ih =>
      intro p μ3 hpm a1 a2
      have e5 : ii (p : Int) + 1 = ii ((p + 1 : Nat) : Int) := by simp (disch := omega) only [ii_lit, ii_neg, ii_add, ii_sub, ii_mul, ii_lt, ii_le, ii_eq]; rfl
      refine sX9_findShots_15 hE _ ⟨fun q => ?_, fun _ => ⟨ii_in (by omega) (by omega) (by omega), ?_⟩⟩
      · rw [ii_lit 32, ii_le (by decide) (by omega)] at q
        have q : (32 : Int) ≤ (p : Int) := q
        omega
      · intro μ4 e4
        rw [ii_natN (by omega)] at e4
        rw [e5]
        refine ih (p + 1) μ4 (by omega) (fun j hj => ?_) (fun c cc => by rw [e4, jm_st_nc _ _ _ cc]; exact a2 c cc)
        rw [e4]
        by_cases q : j = p
        · rw [q, jm_st_s]
        · rw [jm_st_ni _ _ _ q]; exact a1 j (by omega)
  exact zero 32 0 μ2 (by omega) (fun j hj => by omega) (fun _ _ => rfl)
end JM9
