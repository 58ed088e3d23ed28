section JME
variable {g : jm_G} {ad : Nat → Nat} {P : Option Value → (Nat → Nat → Int32) → Prop}
/-! a pulse that is left out, and a pulse that is gone -/
def ph (z j : Nat) : Nat := if j < z then j else j + 1
theorem ph_ne (z j : Nat) : ph z j ≠ z := by
  unfold ph
  split <;> omega
theorem ph_inj {z i j : Nat} (h : ph z i = ph z j) : i = j := by
  unfold ph at h
  split at h <;> split at h <;> omega
theorem ph_lt {z j n : Nat} (hj : j < n - 1) : ph z j < n := by
  unfold ph
  split <;> omega
theorem del_ph (f : Nat → Int) (z j : Nat) : delF f z j = f (ph z j) := by
  unfold delF ph
  split <;> rfl
theorem filt_ph {Q : Nat → Bool} {z : Nat} (hz : Q z = false) : ∀ k : Nat, (List.range (z + 1 + k)).filter Q = ((List.range (z + k)).filter (fun j => Q (ph z j))).map (ph z) := by
  intro k
  induction k with
  | zero =>
    have e1 : (List.range (z + 1 + 0)).filter Q = (List.range z).filter Q := by
      show (List.range (z + 1)).filter Q = _
      rw [List.range_succ, List.filter_append]
      simp [hz]
    have e2 : (List.range (z + 0)).filter (fun j => Q (ph z j)) = (List.range z).filter Q := by
      show (List.range z).filter (fun j => Q (ph z j)) = _
      apply List.filter_congr
      intro j hj
      have := List.mem_range.mp hj
      unfold ph
      rw [if_pos this]
    rw [e1, e2]
    have : ∀ l : List Nat, (∀ j ∈ l, j < z) → l.map (ph z) = l := by
      intro l hl
      induction l with
      | nil => rfl
      | cons a l ih =>
        rw [List.map_cons, ih (fun j hj => hl j (List.mem_cons_of_mem _ hj))]
        have := hl a List.mem_cons_self
        unfold ph
        rw [if_pos this]
    exact (this _ (fun j hj => List.mem_range.mp (List.mem_filter.mp hj).1)).symm
  | succ k ih =>
    show (List.range (z + 1 + k + 1)).filter Q = ((List.range (z + k + 1)).filter (fun j => Q (ph z j))).map (ph z)
    rw [List.range_succ, List.filter_append, ih, List.range_succ, List.filter_append, List.map_append]
    have e : ph z (z + k) = z + 1 + k := by
      unfold ph
      rw [if_neg (by omega)]
      omega
    congr 1
    by_cases h : Q (z + 1 + k) = true
    · simp [h, e]
    · simp [h, e]
theorem near_ph {n z p' : Nat} {f : Nat → Int} {win : Int} {own own' : Nat → Int} {e : Int} (hz : z < n) (hoz : own z ≠ -1) (ho : ∀ j : Nat, j < n - 1 → own' j = own (ph z j)) : near n f win own (ph z p') e = (near (n - 1) (delF f z) win own' p' e).map (ph z) := by
  unfold near
  rw [del_ph]
  by_cases c : e = f (ph z p') % 4
  · rw [if_pos c, if_pos c]
    rfl
  · rw [if_neg c, if_neg c, List.map_take]
    have hQz : cdQ f win own (ph z p') e z = false := decide_eq_false (fun q => hoz q.2.1)
    have h1 := filt_ph hQz (n - 1 - z)
    rw [show z + 1 + (n - 1 - z) = n by omega, show z + (n - 1 - z) = n - 1 by omega] at h1
    rw [h1]
    congr 2
    apply List.filter_congr
    intro j hj
    have hj9 := List.mem_range.mp hj
    unfold cdQ
    rw [del_ph, del_ph, ho j hj9]
theorem spr_congr {sp x y : Int} {t t' : Nat → Int} (h : ∀ e : Nat, e < 4 → t e = t' e) : spr sp t x y = spr sp t' x y := by
  unfold spr gstS lstS stt
  rw [h 0 (by decide), h 1 (by decide), h 2 (by decide), h 3 (by decide)]
theorem bst_congr {sp : Int} {t t' : Nat → Int} (h : ∀ e : Nat, e < 4 → t e = t' e) : bst sp t = bst sp t' := by
  have h1 : ∀ k : Nat, spP sp t k = spP sp t' k := fun k => spr_congr h
  have : ∀ k : Nat, bp sp t k = bp sp t' k := by
    intro k
    induction k with
    | zero => unfold bp; rw [h1]
    | succ k ih => unfold bp; rw [ih, h1]
  exact this 1680
theorem kpL_congr {N N' : Int → List Nat} {S S' : Nat → Int} {slack : Int} (hrow : ∀ c : Nat, rowB N c = rowB N' c) (hS : ∀ c : Nat, rowB N c = true → S c = S' c) : ∀ c : Nat, kpL N S slack c = kpL N' S' slack c := by
  intro c
  induction c with
  | zero => rfl
  | succ c ih =>
    unfold kpL
    rw [← ih, ← hrow]
    cases hk : kpL N S slack c with
    | none =>
      by_cases hr : rowB N c = true
      · simp only [hr, hS c hr]
      · simp only [hr]
        simp
    | some b =>
      have hb := hS b (kpL_row hk).2
      by_cases hr : rowB N c = true
      · simp only [hr, hS c hr, hb]
      · simp only [hr]
        simp
/-- the search without a pulse, and the search without it there -/
def rlF (n z : Nat) (F F' : fS3) : Prop := F.2.2 = F'.2.2 ∧ (∀ j : Nat, j < n - 1 → F'.1 j = F.1 (ph z j)) ∧ F.1 z = -6
set_option maxRecDepth 100000 in
theorem judge_ph {n z p' : Nat} {f : Nat → Int} {win slack sp : Int} {F F' : fS3} (hz : z < n) (hp : p' < n - 1) (h : rlF n z F F') : rlF n z (judgeF n f win slack sp (ph z p') F) (judgeF (n - 1) (delF f z) win slack sp p' F') := by
  obtain ⟨h1, h2, h3⟩ := h
  unfold judgeF
  generalize hown : (fun j => if j = ph z p' then -6 else F.1 j : Nat → Int) = own
  generalize hown' : (fun j => if j = p' then -6 else F'.1 j : Nat → Int) = own'
  have hownj : ∀ j : Nat, own j = if j = ph z p' then -6 else F.1 j := fun j => by rw [← hown]
  have hownj' : ∀ j : Nat, own' j = if j = p' then -6 else F'.1 j := fun j => by rw [← hown']
  have hoz : own z = -6 := by
    rw [hownj]
    split
    · rfl
    · exact h3
  have ho : ∀ j : Nat, j < n - 1 → own' j = own (ph z j) := by
    intro j hj
    rw [hownj, hownj']
    by_cases c : j = p'
    · rw [if_pos c, if_pos (by rw [c])]
    · rw [if_neg c, if_neg (fun q => c (ph_inj q))]
      exact h2 j hj
  have hN : ∀ e : Int, near n f win own (ph z p') e = (near (n - 1) (delF f z) win own' p' e).map (ph z) := fun e => near_ph hz (by rw [hoz]; decide) ho
  have hin' : ∀ (e : Int) (v : Nat), v ∈ near (n - 1) (delF f z) win own' p' e → v < n - 1 := fun e v hv => (near_in hp hv).1
  generalize near n f win own (ph z p') = N at *
  generalize near (n - 1) (delF f z) win own' p' = N' at *
  have hlen : ∀ e : Int, (N e).length = (N' e).length := fun e => by rw [hN, List.length_map]
  have hrow : ∀ c : Nat, rowB N c = rowB N' c := fun c => by
    unfold rowB
    rw [hlen, hlen, hlen, hlen]
  have hix : ∀ c : Nat, rowB N c = true → ∀ e : Nat, e < 4 → rowIx N c e = ph z (rowIx N' c e) := by
    intro c hc e he
    have hb := rowB_iff.mp hc e he
    have hb' : bitC c e < (N' e).length := by rw [← hlen]; exact hb
    unfold rowIx
    rw [List.getD_eq_getElem?_getD, List.getD_eq_getElem?_getD, hN, List.getElem?_map, List.getElem?_eq_getElem hb']
    rfl
  have hT : ∀ c : Nat, rowB N c = true → ∀ e : Nat, e < 4 → rowT f N c e = rowT (delF f z) N' c e := by
    intro c hc e he
    unfold rowT
    rw [hix c hc e he, del_ph]
  have hk := kpL_congr (slack := slack) hrow (S := fun c => (bst sp (rowT f N c)).2) (S' := fun c => (bst sp (rowT (delF f z) N' c)).2) (fun c hc => by
    show (bst sp (rowT f N c)).2 = (bst sp (rowT (delF f z) N' c)).2
    rw [bst_congr (hT c hc)]) 16
  rw [← hk]
  cases hkk : kpL N (fun c => (bst sp (rowT f N c)).2) slack 16 with
  | none => exact ⟨h1, ho, hoz⟩
  | some b =>
    have hbr := (kpL_row hkk).2
    refine ⟨by show F.2.2 + 1 = F'.2.2 + 1; rw [h1], fun j hj => ?_, ?_⟩
    · show ownA own' (rowIx N' b) F'.2.2 4 j = ownA own (rowIx N b) F.2.2 4 (ph z j)
      have : ∀ k : Nat, k ≤ 4 → ownA own' (rowIx N' b) F'.2.2 k j = ownA own (rowIx N b) F.2.2 k (ph z j) := by
        intro k
        induction k with
        | zero => intro _; exact ho j hj
        | succ k ih =>
          intro hk4
          show (if j = rowIx N' b k then (F'.2.2 : Int) else ownA own' (rowIx N' b) F'.2.2 k j) = (if ph z j = rowIx N b k then (F.2.2 : Int) else ownA own (rowIx N b) F.2.2 k (ph z j))
          rw [hix b hbr k (by omega), ih (by omega), h1]
          by_cases c : j = rowIx N' b k
          · rw [if_pos c, if_pos (by rw [c])]
          · rw [if_neg c, if_neg (fun q => c (ph_inj q))]
      exact this 4 (Nat.le_refl _)
    · show ownA own (rowIx N b) F.2.2 4 z = -6
      have : ∀ k : Nat, k ≤ 4 → ownA own (rowIx N b) F.2.2 k z = -6 := by
        intro k
        induction k with
        | zero => intro _; exact hoz
        | succ k ih =>
          intro hk4
          show (if z = rowIx N b k then (F.2.2 : Int) else ownA own (rowIx N b) F.2.2 k z) = -6
          rw [hix b hbr k (by omega), if_neg (fun q => ph_ne z _ q.symm)]
          exact ih (by omega)
      exact this 4 (Nat.le_refl _)
theorem find_ph {n z : Nat} {f : Nat → Int} {win slack sp : Int} (hz : z < n) : (findF n f win slack sp (own0F n z) n).2.2 = (findF (n - 1) (delF f z) win slack sp (own0F (n - 1) (-1)) (n - 1)).2.2 := by
  have low : ∀ p : Nat, p ≤ z → rlF n z (findF n f win slack sp (own0F n z) p) (findF (n - 1) (delF f z) win slack sp (own0F (n - 1) (-1)) p) := by
    intro p
    induction p with
    | zero =>
      intro _
      refine ⟨rfl, fun j hj => ?_, ?_⟩
      · show own0F (n - 1) (-1) j = own0F n z (ph z j)
        have := ph_ne z j
        unfold own0F
        rw [if_neg (by omega), if_neg (by omega)]
      · show own0F n z z = -6
        unfold own0F
        rw [if_pos ⟨rfl, hz⟩]
    | succ p ih =>
      intro hp
      have hr := ih (by omega)
      have e : ph z p = p := by unfold ph; rw [if_pos (by omega)]
      show rlF n z (stepF n f win slack sp p (findF n f win slack sp (own0F n z) p)) (stepF (n - 1) (delF f z) win slack sp p (findF (n - 1) (delF f z) win slack sp (own0F (n - 1) (-1)) p))
      generalize findF n f win slack sp (own0F n z) p = F at *
      generalize findF (n - 1) (delF f z) win slack sp (own0F (n - 1) (-1)) p = F' at *
      have h2 := hr.2.1 p (by omega)
      rw [e] at h2
      unfold stepF
      rw [h2]
      by_cases c : F.1 p = -1
      · rw [if_pos c, if_pos c]
        have h9 := judge_ph (f := f) (win := win) (slack := slack) (sp := sp) hz (show p < n - 1 by omega) hr
        rw [e] at h9
        exact h9
      · rw [if_neg c, if_neg c]
        exact hr
  have high : ∀ k : Nat, z + k ≤ n - 1 → rlF n z (findF n f win slack sp (own0F n z) (z + 1 + k)) (findF (n - 1) (delF f z) win slack sp (own0F (n - 1) (-1)) (z + k)) := by
    intro k
    induction k with
    | zero =>
      intro _
      have hr := low z (Nat.le_refl _)
      show rlF n z (stepF n f win slack sp z (findF n f win slack sp (own0F n z) z)) _
      unfold stepF
      rw [if_neg (by rw [hr.2.2]; decide)]
      exact hr
    | succ k ih =>
      intro hk
      have hr := ih (by omega)
      have e : ph z (z + k) = z + 1 + k := by
        unfold ph
        rw [if_neg (by omega)]
        omega
      show rlF n z (stepF n f win slack sp (z + 1 + k) (findF n f win slack sp (own0F n z) (z + 1 + k))) (stepF (n - 1) (delF f z) win slack sp (z + k) (findF (n - 1) (delF f z) win slack sp (own0F (n - 1) (-1)) (z + k)))
      generalize findF n f win slack sp (own0F n z) (z + 1 + k) = F at *
      generalize findF (n - 1) (delF f z) win slack sp (own0F (n - 1) (-1)) (z + k) = F' at *
      have h2 := hr.2.1 (z + k) (by omega)
      rw [e] at h2
      unfold stepF
      rw [h2]
      by_cases c : F.1 (z + 1 + k) = -1
      · rw [if_pos c, if_pos c]
        have h9 := judge_ph (f := f) (win := win) (slack := slack) (sp := sp) hz (show z + k < n - 1 by omega) hr
        rw [e] at h9
        exact h9
      · rw [if_neg c, if_neg c]
        exact hr
  have h := (high (n - 1 - z) (by omega)).1
  rw [show z + 1 + (n - 1 - z) = n by omega, show z + (n - 1 - z) = n - 1 by omega] at h
  exact h
theorem c_X9_findFr {μ : Nat → Nat → Int32} {σ : sT} (hc : MI μ σ) (hp : ∀ μ' : Nat → Nat → Int32, MI μ' σ → MTm μ' (spd (σ.1.1 0)) → mSH μ' (fdT σ) → aF μ μ' → P none μ') : jD g ad m_X9_find [.ref 82] μ P := by
  refine jd_intro [some (.ref 82)] (by decide) rfl rfl (fun κ hE => ?_)
  refine sX9_find_0 hE ?_
  have e0 : μ 83 0 = ii (σ.1.1 0) := hc.1.1 0 (by decide)
  rw [e0]
  exact c_X9_findShots hc.1 hc.2.1 hc.2.2.2.2.2.1 hc.2.2.2.2.2.2 hc.2.1.1 (fun μ' tm s fr => sX9_find_10 hE (hp μ' (hc.fr (MT0.of hc.2.1.1 tm) fr).1 tm s fr))
theorem c_X9_ifForgot {μ : Nat → Nat → Int32} {σ : sT} {z : Int} (hc : MI μ σ) (hz : ir z) (hp : ∀ μ' : Nat → Nat → Int32, MI μ' σ → aA μ μ' → P (some (.int (ii (opIfForgot σ z)))) μ') : jD g ad m_X9_ifForgot [.ref 82, .int (ii z)] μ P := by
  refine jd_intro [some (.ref 82), some (.int (ii z))] (by decide) rfl rfl (fun κ hE => ?_)
  unfold opIfForgot at hp
  obtain ⟨cS, cv, cH, cs, cp, cD, cT⟩ := id hc
  refine sX9_ifForgot_0 hE _ (c_X9_isPulse cS hz (fun j e1 e2 => sX9_ifForgot_5 hE _ _ ⟨fun _ => ?_, fun q => absurd q (by decide)⟩) (fun c => sX9_ifForgot_5 hE _ _ ⟨fun q => absurd rfl q, fun _ => ?_⟩))
  · subst e1
    rw [if_pos (by omega)] at hp
    rw [ii_0]
    refine c_X9_moves (f := 0) (t := 0) ga_83 ga_84 (by decide) (by decide) (by decide) (by decide) (by decide) (fun μ1 m1 m2 m3 => sX9_ifForgot_23 hE _ ?_)
    have hS1 : MS μ1 σ.1 := cS.kept (m3 83 (by decide))
    refine c_X9_goes hS1 e2 (fun μ2 s2 a2 => sX9_ifForgot_28 hE ?_)
    have k2 : ∀ c : Nat, c ≠ 83 → c ≠ 84 → μ2 c = μ c := fun c c1 c2 => by rw [a2 c c1, m3 c c2]
    have hc2 : MI μ2 (delH σ.1 j, σ.2) := ⟨s2, delH_v cv, cH.kept (by rw [k2 82 (by decide) (by decide)]) (k2 _ (by decide) (by decide)), cs.kept (k2 _ (by decide) (by decide)) (k2 _ (by decide) (by decide)), cp.kept (by rw [k2 82 (by decide) (by decide)]) (k2 _ (by decide) (by decide)), cD.kept (k2 _ (by decide) (by decide)), cT.kept (by rw [k2 82 (by decide) (by decide)]) (k2 _ (by decide) (by decide))⟩
    refine c_X9_findFr hc2 (fun μ3 k3 t3 s3 fr => sX9_ifForgot_32 hE ?_)
    rw [ii_0]
    refine c_X9_moves (f := 0) (t := 0) ga_84 ga_83 (by decide) (by decide) (by decide) (by decide) (by decide) (fun μ4 n1 n2 n3 => sX9_ifForgot_45 hE ?_)
    have x11 : μ4 82 11 = ii (fdT (delH σ.1 j, σ.2)).2.2 := by rw [n3 82 (by decide)]; exact s3.2.1
    have ecount : (fdT (delH σ.1 j, σ.2)).2.2 = (fd σ.1 (σ.1.1 0) j).2.2 := by
      unfold fdT fd
      exact (find_ph (f := σ.1.2.2) (win := σ.1.1 1) (slack := σ.1.1 2) (sp := spd (σ.1.1 0)) e2).symm
    rw [x11, ecount]
    have k4 : ∀ c : Nat, c ≠ 82 → ¬ (90 ≤ c ∧ c ≤ 98) → c ≠ 83 → c ≠ 84 → μ4 c = μ c := fun c c0 c1 c2 c3 => by rw [n3 c c2, fr.2 c c0 c1]; exact k2 c c2 c3
    have j4 : ∀ i : Nat, i < 10 → μ4 82 i = μ 82 i := fun i hi => by rw [n3 82 (by decide), fr.1 i hi, k2 82 (by decide) (by decide)]
    have hS4 : MS μ4 σ.1 := by
      refine MS_iff.mp ((MS_iff.mpr cS).same (fun i hi => ?_))
      rw [n1 i hi, fr.2 84 (by decide) (by omega), a2 84 (by decide), m1 i hi]
    refine hp μ4 ⟨hS4, cv, cH.kept (j4 3 (by decide)) (k4 _ (by decide) (by omega) (by decide) (by decide)), cs.kept (k4 _ (by decide) (by omega) (by decide) (by decide)) (k4 _ (by decide) (by omega) (by decide) (by decide)), cp.kept (j4 7 (by decide)) (k4 _ (by decide) (by omega) (by decide) (by decide)), cD.kept (k4 _ (by decide) (by omega) (by decide) (by decide)), k3.2.2.2.2.2.2.kept (by rw [n3 82 (by decide)]) (n3 90 (by decide))⟩ (fun c cc => k4 c (by omega) (by omega) (by omega) (by omega))
  · rw [if_neg c] at hp
    rw [e_m1]
    exact hp μ hc (fun _ _ => rfl)
end JME
