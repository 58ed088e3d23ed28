section JM3
variable {g : jm_G} {ad : Nat → Nat} {P : Option Value → (Nat → Nat → Int32) → Prop}
theorem c_X9_earA {μ : Nat → Nat → Int32} {j : Nat} {v : Int32} (hj : j < 32) (hv : μ 83 (4 + 2 * j) = v) (hp : P (some (.int v)) μ) : jD g ad m_X9_earOf [.ref 82, .int (ii j)] μ P := by
  refine jd_intro [some (.ref 82), some (.int (ii j))] (by decide) rfl rfl (fun κ hE => ?_)
  refine sX9_earOf_0 hE _ ?_
  rw [ii_2, ii_mul, ii_4, ii_add]
  refine ⟨ii_in (by omega) (by omega) (by omega), ?_⟩
  rw [ii_nat (by omega) (by omega), show (4 + 2 * (j : Int)).toNat = 4 + 2 * j by omega, hv]
  exact hp
theorem c_X9_timeA {μ : Nat → Nat → Int32} {j : Nat} {v : Int32} (hj : j < 32) (hv : μ 83 (5 + 2 * j) = v) (hp : P (some (.int v)) μ) : jD g ad m_X9_timeOf [.ref 82, .int (ii j)] μ P := by
  refine jd_intro [some (.ref 82), some (.int (ii j))] (by decide) rfl rfl (fun κ hE => ?_)
  refine sX9_timeOf_0 hE _ ?_
  rw [ii_2, ii_mul, ii_4, ii_add, ii_1, ii_add]
  refine ⟨ii_in (by omega) (by omega) (by omega), ?_⟩
  rw [ii_nat (by omega) (by omega), show (4 + 2 * (j : Int) + 1).toNat = 5 + 2 * j by omega, hv]
  exact hp
theorem c_X9_comes {μ : Nat → Nat → Int32} {h : sH} {e t : Int} (hf : MS μ h) (hB : fB h.2.1 h.2.2) (hS : fS h.2.1 h.2.2) (he : 0 ≤ e ∧ e < 4) (ht : 0 ≤ t ∧ t ≤ 99999) (hn : h.2.1 < 32) (hno : ¬ hasF h.2.1 h.2.2 (t * 4 + e)) (hp : ∀ μ' : Nat → Nat → Int32, MS μ' (insH h (t * 4 + e)) → (∀ c : Nat, c ≠ 83 → μ' c = μ c) → P (some (.int (ii (plc h.2.2 (t * 4 + e) h.2.1 : Nat)))) μ') : jD g ad m_X9_comes [.ref 82, .int (ii e), .int (ii t)] μ P := by
  refine jd_intro [some (.ref 82), some (.int (ii e)), some (.int (ii t)), none] (by decide) rfl rfl (fun κ hE => ?_)
  obtain ⟨f1, f2, f3, f4⟩ := hf
  have fin : ∀ (p : Nat) (μ1 : Nat → Nat → Int32), p ≤ h.2.1 → isPl h.2.1 h.2.2 (t * 4 + e) p → (∀ i : Nat, i < 4 → μ1 83 i = μ 83 i) → (∀ j : Nat, j < p → μ1 83 (4 + 2 * j) = ii (h.2.2 j % 4) ∧ μ1 83 (5 + 2 * j) = ii (h.2.2 j / 4)) → (∀ j : Nat, p ≤ j → j < h.2.1 → μ1 83 (4 + 2 * (j + 1)) = ii (h.2.2 j % 4) ∧ μ1 83 (5 + 2 * (j + 1)) = ii (h.2.2 j / 4)) → (∀ c : Nat, c ≠ 83 → μ1 c = μ c) → vp_in (4 + 2 * ii p) 68 ∧ (∀ μ2 : Nat → Nat → Int32, μ2 = jm_st μ1 83 (4 + 2 * ii p).toNatClampNeg (ii e) → vp_in (4 + 2 * ii p + 1) 68 ∧ (∀ μ4 : Nat → Nat → Int32, μ4 = jm_st μ2 83 (4 + 2 * ii p + 1).toNatClampNeg (ii t) → (∀ μ5 : Nat → Nat → Int32, μ5 = jm_st μ4 83 3 (μ4 83 3 + 1) → P (some (.int (ii p))) μ5))) := by
    intro p μ1 hpn hpl a0 a1 a2 a3
    rw [ii_2, ii_mul, ii_4, ii_add, ii_1, ii_add, ii_nat (by omega) (by omega), ii_nat (by omega) (by omega), show (4 + 2 * (p : Int)).toNat = 4 + 2 * p by omega, show (4 + 2 * (p : Int) + 1).toNat = 5 + 2 * p by omega]
    refine ⟨ii_in (by omega) (by omega) (by omega), fun μ2 e2 => ⟨ii_in (by omega) (by omega) (by omega), fun μ4 e4 μ5 e5 => ?_⟩⟩
    have x3 : μ4 83 3 = ii h.2.1 := by rw [e4, jm_st_ni _ _ _ (by omega), e2, jm_st_ni _ _ _ (by omega), a0 3 (by omega)]; exact f2
    rw [x3] at e5
    have epl := hpl.uniq (plc_is hS)
    rw [epl] at a1 a2 e2 e4 ⊢
    have hple : plc h.2.2 (t * 4 + e) h.2.1 ≤ h.2.1 := (plc_is hS).1
    generalize hq : plc h.2.2 (t * 4 + e) h.2.1 = q at *
    refine hp μ5 ⟨fun i hi => ?_, ?_, hn, fun j hj => ?_⟩ (fun c cc => by rw [e5, jm_st_nc _ _ _ cc, e4, jm_st_nc _ _ _ cc, e2, jm_st_nc _ _ _ cc]; exact a3 c cc)
    · rw [e5, jm_st_ni _ _ _ (by omega), e4, jm_st_ni _ _ _ (by omega), e2, jm_st_ni _ _ _ (by omega), a0 i (by omega)]
      exact f1 i hi
    · rw [e5, jm_st_s, ii_add]
      rfl
    · have hj : j < h.2.1 + 1 := hj
      show μ5 83 (4 + 2 * j) = ii (insF h.2.2 (plc h.2.2 (t * 4 + e) h.2.1) (t * 4 + e) j % 4) ∧ μ5 83 (5 + 2 * j) = ii (insF h.2.2 (plc h.2.2 (t * 4 + e) h.2.1) (t * 4 + e) j / 4)
      rw [hq]
      unfold insF
      rw [e5, jm_st_ni _ _ _ (by omega), jm_st_ni _ _ _ (by omega), e4]
      by_cases c2 : j = q
      · rw [if_neg (by omega), if_pos c2, c2, jm_st_s, jm_st_ni _ _ _ (by omega), e2, jm_st_s]
        exact ⟨by congr 1; omega, by congr 1; omega⟩
      · rw [jm_st_ni _ _ _ (by omega), jm_st_ni _ _ _ (by omega), e2, jm_st_ni _ _ _ (by omega), jm_st_ni _ _ _ (by omega)]
        by_cases c1 : j < q
        · rw [if_pos c1]
          exact a1 j c1
        · rw [if_neg c1, if_neg c2]
          have h9 := a2 (j - 1) (by omega) (by omega)
          rw [show j - 1 + 1 = j by omega] at h9
          exact h9
  have key : ∀ (p : Nat) (μ1 : Nat → Nat → Int32), p ≤ h.2.1 → (∀ j : Nat, p ≤ j → j < h.2.1 → t * 4 + e < h.2.2 j) → (∀ i : Nat, i < 4 → μ1 83 i = μ 83 i) → (∀ j : Nat, j < p → μ1 83 (4 + 2 * j) = ii (h.2.2 j % 4) ∧ μ1 83 (5 + 2 * j) = ii (h.2.2 j / 4)) → (∀ j : Nat, p ≤ j → j < h.2.1 → μ1 83 (4 + 2 * (j + 1)) = ii (h.2.2 j % 4) ∧ μ1 83 (5 + 2 * (j + 1)) = ii (h.2.2 j / 4)) → (∀ c : Nat, c ≠ 83 → μ1 c = μ c) → jS g ad m_X9_comes κ 7 [some (.ref 82), some (.int (ii e)), some (.int (ii t)), some (.int (ii p))] [] μ1 := by
    intro p
    induction p with
    | zero =>
      intro μ1 hpn hgt a0 a1 a2 a3
      refine sX9_comes_7 hE _ _ _ ⟨fun _ => fin 0 μ1 hpn ⟨hpn, fun j hj => by omega, fun j _ hj => by have := hgt j (by omega) hj; omega⟩ a0 a1 a2 a3, fun c => absurd (by decide) c⟩
    | succ p ih =>
      intro μ1 hpn hgt a0 a1 a2 a3
      have hb := hB p (by omega)
      have hne : h.2.2 p ≠ t * 4 + e := fun q => hno ⟨p, by omega, q⟩
      have e0 : ii ((p + 1 : Nat) : Int) - 1 = ii (p : Int) := by rw [ii_1, ii_sub]; congr 1; omega
      have em : ii ((p + 1 : Nat) : Int) + -ii 1 = ii (p : Int) := by rw [ii_neg, ii_add]; congr 1; omega
      have stop : h.2.2 p < t * 4 + e → isPl h.2.1 h.2.2 (t * 4 + e) (p + 1) := by
        intro q
        refine ⟨hpn, fun j hj => ?_, fun j h1 h2 => by have := hgt j h1 h2; omega⟩
        by_cases c : j = p
        · rw [c]; exact q
        · have := hS j p (by omega) (by omega)
          omega
      have move : t * 4 + e < h.2.2 p → jD g ad m_X9_earOf [.ref 82, .int (ii ((p + 1 : Nat) : Int) - 1)] μ1 (fun v μ' => jS g ad m_X9_comes κ 60 [some (.ref 82), some (.int (ii e)), some (.int (ii t)), some (.int (ii ((p + 1 : Nat) : Int)))] (jm_ps v [.int (4 + 2 * ii ((p + 1 : Nat) : Int)), .ref 83]) μ') := by
        intro hq
        obtain ⟨w1, w2⟩ := a1 p (by omega)
        rw [e0]
        refine c_X9_earA (by omega) w1 (sX9_comes_60 hE _ _ _ _ _ ?_)
        rw [ii_2, ii_mul, ii_4, ii_add, ii_nat (by omega) (by omega), show (4 + 2 * ((p + 1 : Nat) : Int)).toNat = 4 + 2 * (p + 1) by omega]
        refine ⟨ii_in (by omega) (by omega) (by omega), fun μ2 e2 => ?_⟩
        rw [e0]
        refine c_X9_timeA (v := ii (h.2.2 p / 4)) (by omega) (by rw [e2, jm_st_ni _ _ _ (by omega)]; exact w2) (sX9_comes_79 hE _ _ _ _ _ ?_)
        rw [ii_1, ii_add, ii_nat (by omega) (by omega), show (4 + 2 * ((p + 1 : Nat) : Int) + 1).toNat = 5 + 2 * (p + 1) by omega]
        refine ⟨ii_in (by omega) (by omega) (by omega), fun μ3 e3 => ?_⟩
        rw [em]
        refine ih μ3 (by omega) (fun j h1 h2 => ?_) (fun i hi => ?_) (fun j hj => ?_) (fun j h1 h2 => ?_) (fun c cc => by rw [e3, jm_st_nc _ _ _ cc, e2, jm_st_nc _ _ _ cc]; exact a3 c cc)
        · by_cases c : j = p
          · rw [c]; exact hq
          · exact hgt j (by omega) h2
        · rw [e3, jm_st_ni _ _ _ (by omega), e2, jm_st_ni _ _ _ (by omega)]; exact a0 i hi
        · rw [e3, jm_st_ni _ _ _ (by omega), jm_st_ni _ _ _ (by omega), e2, jm_st_ni _ _ _ (by omega), jm_st_ni _ _ _ (by omega)]
          exact a1 j (by omega)
        · by_cases c : j = p
          · rw [c, e3, jm_st_s, jm_st_ni _ _ _ (by omega), e2, jm_st_s]
            exact ⟨rfl, rfl⟩
          · rw [e3, jm_st_ni _ _ _ (by omega), jm_st_ni _ _ _ (by omega), e2, jm_st_ni _ _ _ (by omega), jm_st_ni _ _ _ (by omega)]
            exact a2 j (by omega) h2
      obtain ⟨w1, w2⟩ := a1 p (by omega)
      refine sX9_comes_7 hE _ _ _ ⟨fun c => ?_, fun _ => ?_⟩
      · simp (disch := omega) only [ii_lit, ii_neg, ii_add, ii_sub, ii_mul, ii_lt, ii_le, ii_eq] at c
        omega
      · rw [e0]
        refine c_X9_timeA (by omega) w2 (sX9_comes_18 hE _ _ _ _ ?_)
        rw [ii_lt (by omega) (by omega)]
        refine ⟨fun c => move (by omega), fun c => ?_⟩
        rw [e0]
        refine c_X9_timeA (by omega) w2 (sX9_comes_29 hE _ _ _ _ ?_)
        rw [ii_eq (by omega) (by omega)]
        refine ⟨fun c2 => fin (p + 1) μ1 hpn (stop (by omega)) a0 a1 a2 a3, fun c2 => ?_⟩
        rw [e0]
        refine c_X9_earA (by omega) w1 (sX9_comes_40 hE _ _ _ _ ?_)
        rw [ii_le (by omega) (by omega)]
        exact ⟨fun c3 => fin (p + 1) μ1 hpn (stop (by omega)) a0 a1 a2 a3, fun c3 => move (by omega)⟩
  refine sX9_comes_0 hE _ _ ?_
  rw [f2]
  exact key h.2.1 μ (Nat.le_refl _) (fun j h1 h2 => by omega) (fun _ _ => rfl) f4 (fun j h1 h2 => by omega) (fun _ _ => rfl)
theorem c_X9_goes {μ : Nat → Nat → Int32} {h : sH} {j : Nat} (hf : MS μ h) (hj : j < h.2.1) (hp : ∀ μ' : Nat → Nat → Int32, MS μ' (delH h j) → (∀ c : Nat, c ≠ 83 → μ' c = μ c) → P none μ') : jD g ad m_X9_goes [.ref 82, .int (ii j)] μ P := by
  refine jd_intro [some (.ref 82), some (.int (ii j)), none] (by decide) rfl rfl (fun κ hE => ?_)
  obtain ⟨f1, f2, f3, f4⟩ := hf
  have key : ∀ (m k : Nat) (μ1 : Nat → Nat → Int32), k + m = 4 + 2 * (h.2.1 - 1) → 4 + 2 * j ≤ k → (∀ i : Nat, i < 3 → μ1 83 i = μ 83 i) → μ1 83 3 = ii ((h.2.1 - 1 : Nat) : Int) → (∀ i : Nat, 4 ≤ i → i < 4 + 2 * j → μ1 83 i = μ 83 i) → (∀ i : Nat, 4 + 2 * j ≤ i → i < k → μ1 83 i = μ 83 (i + 2)) → (∀ i : Nat, k ≤ i → μ1 83 i = μ 83 i) → (∀ c : Nat, c ≠ 83 → μ1 c = μ c) → jS g ad m_X9_goes κ 16 [some (.ref 82), none, some (.int (ii k))] [] μ1 := by
    intro m
    induction m with
    | zero =>
      intro k μ1 hk hk2 a0 a1 a2 a3 a4 a5
      refine sX9_goes_16 hE _ ⟨fun _ => ?_, fun c => ?_⟩
      · refine hp μ1 ⟨fun i hi => by rw [a0 i hi]; exact f1 i hi, a1, by show h.2.1 - 1 ≤ 32; omega, fun i hi => ?_⟩ a5
        have hi : i < h.2.1 - 1 := hi
        show μ1 83 (4 + 2 * i) = ii (delF h.2.2 j i % 4) ∧ μ1 83 (5 + 2 * i) = ii (delF h.2.2 j i / 4)
        unfold delF
        by_cases c1 : i < j
        · rw [if_pos c1, a2 _ (by omega) (by omega), a2 _ (by omega) (by omega)]
          exact f4 i (by omega)
        · rw [if_neg c1, a3 _ (by omega) (by omega), a3 _ (by omega) (by omega)]
          exact f4 (i + 1) (by omega)
      · rw [a1, ii_2, ii_mul, ii_4, ii_add, ii_le (by omega) (by omega)] at c
        omega
    | succ m ih =>
      intro k μ1 hk hk2 a0 a1 a2 a3 a4 a5
      refine sX9_goes_16 hE _ ⟨fun c => ?_, fun _ => ?_⟩
      · rw [a1, ii_2, ii_mul, ii_4, ii_add, ii_le (by omega) (by omega)] at c
        omega
      · rw [ii_2, ii_add, ii_1, ii_add]
        refine ⟨ii_in (by omega) (by omega) (by omega), ii_in (by omega) (by omega) (by omega), fun μ2 e2 => ?_⟩
        rw [ii_natN (by omega), ii_nat (by omega) (by omega), show ((k : Int) + 2).toNat = k + 2 by omega, a4 (k + 2) (by omega)] at e2
        have e5 : ii ((k : Int) + 1) = ii ((k + 1 : Nat) : Int) := rfl
        rw [e5]
        refine ih (k + 1) μ2 (by omega) (by omega) (fun i hi => by rw [e2, jm_st_ni _ _ _ (by omega)]; exact a0 i hi) (by rw [e2, jm_st_ni _ _ _ (by omega)]; exact a1) (fun i h1 h2 => by rw [e2, jm_st_ni _ _ _ (by omega)]; exact a2 i h1 h2) (fun i h1 h2 => ?_) (fun i h1 => by rw [e2, jm_st_ni _ _ _ (by omega)]; exact a4 i (by omega)) (fun c cc => by rw [e2, jm_st_nc _ _ _ cc]; exact a5 c cc)
        rw [e2]
        by_cases c : i = k
        · rw [c, jm_st_s]
        · rw [jm_st_ni _ _ _ c]; exact a3 i h1 (by omega)
  refine sX9_goes_0 hE _ ?_
  intro μ1 e1
  rw [f2, ii_1, ii_sub, show ((h.2.1 : Nat) : Int) - 1 = ((h.2.1 - 1 : Nat) : Int) by omega] at e1
  rw [ii_2, ii_mul, ii_4, ii_add, show (4 + 2 * (j : Int)) = ((4 + 2 * j : Nat) : Int) by omega]
  exact key (2 * (h.2.1 - 1 - j)) (4 + 2 * j) μ1 (by omega) (Nat.le_refl _) (fun i hi => by rw [e1, jm_st_ni _ _ _ (by omega)]) (by rw [e1, jm_st_s]) (fun i h1 h2 => by rw [e1, jm_st_ni _ _ _ (by omega)]) (fun i h1 h2 => by omega) (fun i h1 => by rw [e1, jm_st_ni _ _ _ (by omega)]) (fun c cc => by rw [e1, jm_st_nc _ _ _ cc])
def MSl (μ : Nat → Nat → Int32) (sl : Nat → Option sH) : Prop := ∀ i : Nat, i < 2 → (sl i = none → μ 87 i = ii 0) ∧ ∀ h : sH, sl i = some h → μ 87 i = ii 1 ∧ MR μ 86 (68 * i) h ∧ vH h
def MP (μ : Nat → Nat → Int32) (pad : List Int) : Prop := μ 82 7 = ii pad.length ∧ pad.length ≤ 80 ∧ ∀ (k : Nat) (c : Int), pad[k]? = some c → μ 88 k = ii c ∧ 33 ≤ c ∧ c ≤ 126
/-- the reference holds the state -/
def MI (μ : Nat → Nat → Int32) (σ : sT) : Prop := MS μ σ.1 ∧ vH σ.1 ∧ MH μ σ.2.1 ∧ MSl μ σ.2.2.1 ∧ MP μ σ.2.2.2 ∧ MD μ ∧ MT0 μ
def aA (μ μ' : Nat → Nat → Int32) : Prop := ∀ c : Nat, c < 82 → μ' c = μ c
theorem MSl.kept {μ μ' : Nat → Nat → Int32} {sl : Nat → Option sH} (h : MSl μ sl) (h86 : μ' 86 = μ 86) (h87 : μ' 87 = μ 87) : MSl μ' sl := by
  intro i hi
  obtain ⟨a, b⟩ := h i hi
  rw [h87]
  exact ⟨a, fun x hx => ⟨(b x hx).1, (b x hx).2.1.same (fun j _ => by rw [h86]), (b x hx).2.2⟩⟩
theorem MP.kept {μ μ' : Nat → Nat → Int32} {pad : List Int} (h : MP μ pad) (h7 : μ' 82 7 = μ 82 7) (h88 : μ' 88 = μ 88) : MP μ' pad := by
  unfold MP
  rw [h7, h88]
  exact h
theorem MT0.kept {μ μ' : Nat → Nat → Int32} (h : MT0 μ) (h10 : μ' 82 10 = μ 82 10) (h90 : μ' 90 = μ 90) : MT0 μ' := by
  unfold MT0 MTm
  rw [h10, h90]
  exact h
theorem MTm.kept {μ μ' : Nat → Nat → Int32} {sp : Int} (h : MTm μ sp) (h10 : μ' 82 10 = μ 82 10) (h90 : μ' 90 = μ 90) : MTm μ' sp := by
  unfold MTm
  rw [h10, h90]
  exact h
theorem MD.kept {μ μ' : Nat → Nat → Int32} (h : MD μ) (h89 : μ' 89 = μ 89) : MD μ' := fun i hi => by rw [h89]; exact h i hi
theorem MI.kept {μ μ' : Nat → Nat → Int32} {σ : sT} (h : MI μ σ) (hk : ∀ c : Nat, 82 ≤ c → μ' c = μ c) : MI μ' σ := by
  obtain ⟨a, b, c, d, e, f, s⟩ := h
  exact ⟨a.kept (hk _ (by decide)), b, c.kept (by rw [hk 82 (by decide)]) (hk _ (by decide)), d.kept (hk _ (by decide)) (hk _ (by decide)), e.kept (by rw [hk 82 (by decide)]) (hk _ (by decide)), f.kept (hk _ (by decide)), s.kept (by rw [hk 82 (by decide)]) (hk _ (by decide))⟩
/-- behind a change of the state's now -/
theorem MI.chg {μ0 μ μ' : Nat → Nat → Int32} {σ : sT} {h : sH} (hc : MI μ0 σ) (h1 : MH μ (pushH σ.2.1 σ.1)) (h2 : ∀ j : Nat, j ≠ 3 → μ 82 j = μ0 82 j) (h3 : ∀ c : Nat, c ≠ 82 → c ≠ 85 → μ c = μ0 c) (h4 : MS μ' h) (hv : vH h) (h5 : ∀ c : Nat, c ≠ 83 → μ' c = μ c) : MI μ' (chg σ h) ∧ aA μ0 μ' := by
  obtain ⟨a, b, c, d, e, f, s⟩ := hc
  have hk : ∀ c : Nat, c ≠ 82 → c ≠ 83 → c ≠ 85 → μ' c = μ0 c := fun c c1 c2 c3 => by rw [h5 c c2, h3 c c1 c3]
  have hj : ∀ j : Nat, j ≠ 3 → μ' 82 j = μ0 82 j := fun j jj => by rw [h5 82 (by decide), h2 j jj]
  exact ⟨⟨h4, hv, h1.kept (by rw [h5 82 (by decide)]) (h5 _ (by decide)), d.kept (hk _ (by decide) (by decide) (by decide)) (hk _ (by decide) (by decide) (by decide)), e.kept (hj 7 (by decide)) (hk _ (by decide) (by decide) (by decide)), f.kept (hk _ (by decide) (by decide) (by decide)), s.kept (hj 10 (by decide)) (hk _ (by decide) (by decide) (by decide))⟩, fun c cc => hk c (by omega) (by omega) (by omega)⟩
end JM3
