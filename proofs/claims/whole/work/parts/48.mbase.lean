section JM1
variable {g : jm_G} {ad : Nat → Nat} {μ : Nat → Nat → Int32} {P : Option Value → (Nat → Nat → Int32) → Prop}
/-! the reference: a state in a row of 68 numbers -/
def MR (μ : Nat → Nat → Int32) (c o : Nat) (h : sH) : Prop := (∀ i : Nat, i < 3 → μ c (o + i) = ii (h.1 i)) ∧ μ c (o + 3) = ii h.2.1 ∧ h.2.1 ≤ 32 ∧ ∀ j : Nat, j < h.2.1 → μ c (o + 4 + 2 * j) = ii (h.2.2 j % 4) ∧ μ c (o + 5 + 2 * j) = ii (h.2.2 j / 4)
def MS (μ : Nat → Nat → Int32) (h : sH) : Prop := (∀ i : Nat, i < 3 → μ 83 i = ii (h.1 i)) ∧ μ 83 3 = ii h.2.1 ∧ h.2.1 ≤ 32 ∧ ∀ j : Nat, j < h.2.1 → μ 83 (4 + 2 * j) = ii (h.2.2 j % 4) ∧ μ 83 (5 + 2 * j) = ii (h.2.2 j / 4)
theorem MS_iff {μ : Nat → Nat → Int32} {h : sH} : MR μ 83 0 h ↔ MS μ h := by
  unfold MR MS
  simp only [Nat.zero_add]
theorem MR.same {μ μ' : Nat → Nat → Int32} {c o c' o' : Nat} {h : sH} (hh : MR μ c o h) (hk : ∀ j : Nat, j < 68 → μ' c' (o' + j) = μ c (o + j)) : MR μ' c' o' h := by
  obtain ⟨a, b, d, e⟩ := hh
  refine ⟨fun i hi => by rw [hk i (by omega)]; exact a i hi, by rw [hk 3 (by omega)]; exact b, d, fun j hj => ?_⟩
  obtain ⟨e1, e2⟩ := e j hj
  have k1 := hk (4 + 2 * j) (by omega)
  have k2 := hk (5 + 2 * j) (by omega)
  rw [← Nat.add_assoc, ← Nat.add_assoc] at k1 k2
  rw [k1, k2]
  exact ⟨e1, e2⟩
theorem MS.kept {μ μ' : Nat → Nat → Int32} {h : sH} (hh : MS μ h) (hk : μ' 83 = μ 83) : MS μ' h := by
  unfold MS
  rw [hk]
  exact hh
theorem c_X9_within {a lo hi : Int} (ha : ir a) (hlo : ir lo) (hhi : ir hi) (h1 : lo ≤ a → a ≤ hi → P (some (.int 1)) μ) (h0 : ¬ (lo ≤ a ∧ a ≤ hi) → P (some (.int 0)) μ) : jD g ad m_X9_within [.int (ii a), .int (ii lo), .int (ii hi)] μ P := by
  refine jd_intro [some (.int (ii a)), some (.int (ii lo)), some (.int (ii hi))] (by decide) rfl rfl (fun κ hE => ?_)
  refine sX9_within_0 hE _ _ _ ?_
  rw [ii_lt ha hlo, ii_lt hhi ha]
  exact ⟨fun c => h0 (by omega), fun c => ⟨fun c2 => h0 (by omega), fun c2 => h1 (by omega) (by omega)⟩⟩
theorem c_X9_isEar {z : Int} (hz : ir z) (h1 : 0 ≤ z → z < 4 → P (some (.int 1)) μ) (h0 : ¬ (0 ≤ z ∧ z < 4) → P (some (.int 0)) μ) : jD g ad m_X9_isEar [.int (ii z)] μ P := by
  refine jd_intro [some (.int (ii z))] (by decide) rfl rfl (fun κ hE => ?_)
  refine sX9_isEar_0 hE _ ?_
  rw [ii_0, ii_3]
  refine c_X9_within hz (by decide) (by decide) (fun c c2 => sX9_isEar_6 hE _ ⟨Or.inr rfl, h1 c (by omega)⟩) (fun c => sX9_isEar_6 hE _ ⟨Or.inl rfl, h0 (by omega)⟩)
theorem c_X9_isPoint {x y : Int} (hx : ir x) (hy : ir y) (h1 : 0 ≤ x → x ≤ 40 → 0 ≤ y → y ≤ 40 → P (some (.int 1)) μ) (h0 : ¬ (0 ≤ x ∧ x ≤ 40 ∧ 0 ≤ y ∧ y ≤ 40) → P (some (.int 0)) μ) : jD g ad m_X9_isPoint [.int (ii x), .int (ii y)] μ P := by
  refine jd_intro [some (.int (ii x)), some (.int (ii y))] (by decide) rfl rfl (fun κ hE => ?_)
  refine sX9_isPoint_0 hE _ _ ?_
  have e40 : (40 : Int32) = ii 40 := by decide
  rw [ii_0, e40]
  refine c_X9_within hx (by decide) (by decide) (fun c c2 => sX9_isPoint_7 hE _ _ ⟨fun q => absurd q (by decide), fun _ => ?_⟩) (fun c => sX9_isPoint_7 hE _ _ ⟨fun _ => h0 (by omega), fun q => absurd rfl q⟩)
  rw [ii_0, e40]
  exact c_X9_within hy (by decide) (by decide) (fun d d2 => sX9_isPoint_17 hE _ ⟨fun q => absurd q (by decide), fun _ => h1 c c2 d d2⟩) (fun d => sX9_isPoint_17 hE _ ⟨fun _ => h0 (by omega), fun q => absurd rfl q⟩)
theorem c_X9_size {z : Int} (hz : -2147483648 < z ∧ z < 2147483648) (h : P (some (.int (ii (if 0 ≤ z then z else -z)))) μ) : jD g ad m_X9_size [.int (ii z)] μ P := by
  refine jd_intro [some (.int (ii z))] (by decide) rfl rfl (fun κ hE => ?_)
  refine sX9_size_0 hE _ ?_
  rw [ii_0, ii_le (by decide) (by omega), ii_neg]
  refine ⟨fun c => ?_, fun c => ?_⟩
  · rw [if_pos c] at h; exact h
  · rw [if_neg c] at h; exact h
theorem c_X9_speedBy {z : Int} (hz : -30 ≤ z ∧ z ≤ 50) (h : P (some (.int (ii (spd z)))) μ) : jD g ad m_X9_speedBy [.int (ii z)] μ P := by
  refine jd_intro [some (.int (ii z))] (by decide) rfl rfl (fun κ hE => ?_)
  refine sX9_speedBy_0 hE _ ?_
  have e : (313 : Int32) + (((3 : Int32) * ii z + 90) / 5) = ii (spd z) := by
    rw [ii_lit 3, ii_mul, ii_lit 90, ii_add, ii_lit 5]
    rw [ii_div (by show 0 ≤ 3 * z + 90; omega) (by show 3 * z + 90 < 2147483648; omega) (by decide) (by decide), ii_lit 313, ii_add]
    congr 1
    show 313 + (3 * z + 90) / 5 = spd z
    unfold spd
    omega
  rw [e]
  exact h
/-- the reference's table of distances -/
def MD (μ : Nat → Nat → Int32) : Prop := ∀ i : Nat, i < 1681 → μ 89 i = ii (dl i)
theorem c_X9_distance {x y u v : Int} (hx : 0 ≤ x ∧ x ≤ 40) (hy : 0 ≤ y ∧ y ≤ 40) (hu : 0 ≤ u ∧ u ≤ 40) (hv : 0 ≤ v ∧ v ≤ 40) (hD : MD μ) (h : P (some (.int (ii (dD (if 0 ≤ x - u then x - u else u - x) (if 0 ≤ y - v then y - v else v - y))))) μ) : jD g ad m_X9_distance [.ref 82, .int (ii x), .int (ii y), .int (ii u), .int (ii v)] μ P := by
  refine jd_intro [some (.ref 82), some (.int (ii x)), some (.int (ii y)), some (.int (ii u)), some (.int (ii v))] (by decide) rfl rfl (fun κ hE => ?_)
  refine sX9_distance_0 hE _ _ _ _ ?_
  rw [ii_sub]
  refine c_X9_size (by omega) (sX9_distance_12 hE _ _ _ _ ?_)
  rw [ii_sub]
  refine c_X9_size (by omega) (sX9_distance_20 hE _ _ ?_)
  have r1 : 0 ≤ (if 0 ≤ x - u then x - u else u - x) ∧ (if 0 ≤ x - u then x - u else u - x) ≤ 40 := by split <;> omega
  have r2 : 0 ≤ (if 0 ≤ y - v then y - v else v - y) ∧ (if 0 ≤ y - v then y - v else v - y) ≤ 40 := by split <;> omega
  have n1 : (if 0 ≤ x - u then x - u else -(x - u)) = (if 0 ≤ x - u then x - u else u - x) := by split <;> omega
  have n2 : (if 0 ≤ y - v then y - v else -(y - v)) = (if 0 ≤ y - v then y - v else v - y) := by split <;> omega
  rw [n1, n2]
  generalize hX : (if 0 ≤ x - u then x - u else u - x) = X at *
  generalize hY : (if 0 ≤ y - v then y - v else v - y) = Y at *
  have e41 : (41 : Int32) = ii 41 := by decide
  rw [e41, ii_mul, ii_add]
  refine ⟨ii_in (by omega) (by omega) (by omega), ?_⟩
  rw [ii_nat (by omega) (by omega), hD _ (by omega), show (41 * X + Y).toNat = (X * 41 + Y).toNat by omega, dl_at r2 r1, dD_comm]
  exact h
theorem c_X9_takesBy {sp x y e : Int} (hsp : 313 ≤ sp ∧ sp ≤ 361) (hx : 0 ≤ x ∧ x ≤ 40) (hy : 0 ≤ y ∧ y ≤ 40) (he : 0 ≤ e ∧ e ≤ 3) (hD : MD μ) (h : P (some (.int (ii (tk sp e x y)))) μ) : jD g ad m_X9_takesBy [.ref 82, .int (ii sp), .int (ii x), .int (ii y), .int (ii e)] μ P := by
  refine jd_intro [some (.ref 82), some (.int (ii sp)), some (.int (ii x)), some (.int (ii y)), some (.int (ii e))] (by decide) rfl rfl (fun κ hE => ?_)
  have go : ∀ u v : Int, (0 ≤ u ∧ u ≤ 40) → (0 ≤ v ∧ v ≤ 40) → (if 0 ≤ x - u then x - u else u - x) = axE e x → (if 0 ≤ y - v then y - v else v - y) = ayE e y → jD g ad m_X9_distance [.ref 82, .int (ii x), .int (ii y), .int (ii u), .int (ii v)] μ (fun v μ' => jS g ad m_X9_takesBy κ 38 [none, some (.int (ii sp)), none, none, none] (jm_ps v [.int 100]) μ') := by
    intro u v hu hv e1 e2
    refine c_X9_distance hx hy hu hv hD (sX9_takesBy_38 hE _ _ _ ⟨?_, ?_⟩)
    · rw [ii_0]; exact fun q => by rw [ii_eq (by omega) (by omega)] at q; omega
    · rw [e1, e2]
      have hd := dD_rng (axE_rng (e := e) hx) (ayE_rng (e := e) hy)
      have e100 : (100 : Int32) = ii 100 := by decide
      rw [e100, ii_mul, ii_div (by omega) (by omega) (by omega) (by omega)]
      exact h
  have A1 : (e = 1 ∨ e = 2) → (if 0 ≤ x - 40 then x - 40 else 40 - x) = axE e x := fun q => by unfold axE; rw [if_pos q]; split <;> omega
  have A0 : ¬ (e = 1 ∨ e = 2) → (if 0 ≤ x - 0 then x - 0 else 0 - x) = axE e x := fun q => by unfold axE; rw [if_neg q]; split <;> omega
  have B1 : 2 ≤ e → (if 0 ≤ y - 40 then y - 40 else 40 - y) = ayE e y := fun q => by unfold ayE; rw [if_pos q]; split <;> omega
  have B0 : ¬ 2 ≤ e → (if 0 ≤ y - 0 then y - 0 else 0 - y) = ayE e y := fun q => by unfold ayE; rw [if_neg q]; split <;> omega
  have e40 : (40 : Int32) = ii 40 := by decide
  refine sX9_takesBy_0 hE _ _ _ _ ?_
  rw [ii_1, ii_2, ii_eq (by omega) (by decide), ii_eq (by omega) (by decide), ii_le (by omega) (by decide), ii_0, e40]
  refine ⟨fun c => ⟨fun c2 => ?_, fun c2 => by omega⟩, fun c => ⟨fun c3 => ⟨fun c2 => ?_, fun c2 => ?_⟩, fun c3 => ⟨fun c2 => by omega, fun c2 => ?_⟩⟩⟩
  · exact go 40 0 (by omega) (by omega) (A1 (by omega)) (B0 (by omega))
  · exact go 0 0 (by omega) (by omega) (A0 (by omega)) (B0 (by omega))
  · exact go 0 40 (by omega) (by omega) (A0 (by omega)) (B1 (by omega))
  · exact go 40 40 (by omega) (by omega) (A1 (by omega)) (B1 (by omega))
variable {h : sH}
theorem c_X9_isPulse {z : Int} (hf : MS μ h) (hz : ir z) (h1 : ∀ j : Nat, z = j → j < h.2.1 → P (some (.int 1)) μ) (h0 : ¬ (0 ≤ z ∧ z < h.2.1) → P (some (.int 0)) μ) : jD g ad m_X9_isPulse [.ref 82, .int (ii z)] μ P := by
  refine jd_intro [some (.ref 82), some (.int (ii z))] (by decide) rfl rfl (fun κ hE => ?_)
  have hn := hf.2.2.1
  refine sX9_isPulse_0 hE _ ?_
  rw [hf.2.1, ii_0, ii_1, ii_sub]
  exact c_X9_within hz (by decide) (by omega) (fun c c2 => sX9_isPulse_13 hE _ ⟨Or.inr rfl, h1 z.toNat (by omega) (by omega)⟩) (fun c => sX9_isPulse_13 hE _ ⟨Or.inl rfl, h0 (by omega)⟩)
theorem c_X9_earOf {j : Nat} (hf : MS μ h) (hj : j < h.2.1) (hp : P (some (.int (ii (h.2.2 j % 4)))) μ) : jD g ad m_X9_earOf [.ref 82, .int (ii j)] μ P := by
  refine jd_intro [some (.ref 82), some (.int (ii j))] (by decide) rfl rfl (fun κ hE => ?_)
  have hn := hf.2.2.1
  refine sX9_earOf_0 hE _ ?_
  rw [ii_2, ii_mul, ii_4, ii_add]
  refine ⟨ii_in (by omega) (by omega) (by omega), ?_⟩
  rw [ii_nat (by omega) (by omega), show (4 + 2 * (j : Int)).toNat = 4 + 2 * j by omega, (hf.2.2.2 j hj).1]
  exact hp
theorem c_X9_timeOf {j : Nat} (hf : MS μ h) (hj : j < h.2.1) (hp : P (some (.int (ii (h.2.2 j / 4)))) μ) : jD g ad m_X9_timeOf [.ref 82, .int (ii j)] μ P := by
  refine jd_intro [some (.ref 82), some (.int (ii j))] (by decide) rfl rfl (fun κ hE => ?_)
  have hn := hf.2.2.1
  refine sX9_timeOf_0 hE _ ?_
  rw [ii_2, ii_mul, ii_4, ii_add, ii_1, ii_add]
  refine ⟨ii_in (by omega) (by omega) (by omega), ?_⟩
  rw [ii_nat (by omega) (by omega), show (4 + 2 * (j : Int) + 1).toNat = 5 + 2 * j by omega, (hf.2.2.2 j hj).2]
  exact hp
theorem c_X9_isThere {e t : Int} (hf : MS μ h) (hB : fB h.2.1 h.2.2) (he : 0 ≤ e ∧ e < 4) (ht : ir t) (h1 : hasF h.2.1 h.2.2 (t * 4 + e) → P (some (.int 1)) μ) (h0 : ¬ hasF h.2.1 h.2.2 (t * 4 + e) → P (some (.int 0)) μ) : jD g ad m_X9_isThere [.ref 82, .int (ii e), .int (ii t)] μ P := by
  refine jd_intro [some (.ref 82), some (.int (ii e)), some (.int (ii t)), none, none] (by decide) rfl rfl (fun κ hE => ?_)
  have hn := hf.2.2.1
  have yes : ∀ (k i : Nat), i + k = h.2.1 → hasF h.2.1 h.2.2 (t * 4 + e) → jS g ad m_X9_isThere κ 5 [some (.ref 82), some (.int (ii e)), some (.int (ii t)), some (.int 1), some (.int (ii i))] [] μ := by
    intro k
    induction k with
    | zero =>
      intro i hi hh
      refine sX9_isThere_5 hE _ _ _ _ ⟨fun _ => ⟨Or.inr rfl, h1 hh⟩, fun c => ?_⟩
      rw [hf.2.1] at c
      simp (disch := omega) only [ii_lit, ii_neg, ii_add, ii_sub, ii_mul, ii_lt, ii_le, ii_eq] at c
      omega
    | succ k ih =>
      intro i hi hh
      have e5 : ii (i : Int) + 1 = ii ((i + 1 : Nat) : Int) := by simp (disch := omega) only [ii_lit, ii_neg, ii_add, ii_sub, ii_mul, ii_lt, ii_le, ii_eq]; rfl
      refine sX9_isThere_5 hE _ _ _ _ ⟨fun c => ?_, fun c => ⟨fun _ => ?_, fun q => absurd q (by decide)⟩⟩
      · rw [hf.2.1] at c
        simp (disch := omega) only [ii_lit, ii_neg, ii_add, ii_sub, ii_mul, ii_lt, ii_le, ii_eq] at c
        omega
      · rw [e5]
        exact ih (i + 1) (by omega) hh
  have key : ∀ (k i : Nat), i + k = h.2.1 → (∀ j : Nat, j < i → h.2.2 j ≠ t * 4 + e) → jS g ad m_X9_isThere κ 5 [some (.ref 82), some (.int (ii e)), some (.int (ii t)), some (.int 0), some (.int (ii i))] [] μ := by
    intro k
    induction k with
    | zero =>
      intro i hi hh
      refine sX9_isThere_5 hE _ _ _ _ ⟨fun _ => ⟨Or.inl rfl, h0 (fun ⟨j, hj, ej⟩ => hh j (by omega) ej)⟩, fun c => ?_⟩
      rw [hf.2.1] at c
      simp (disch := omega) only [ii_lit, ii_neg, ii_add, ii_sub, ii_mul, ii_lt, ii_le, ii_eq] at c
      omega
    | succ k ih =>
      intro i hi hh
      have e5 : ii (i : Int) + 1 = ii ((i + 1 : Nat) : Int) := by simp (disch := omega) only [ii_lit, ii_neg, ii_add, ii_sub, ii_mul, ii_lt, ii_le, ii_eq]; rfl
      have hb := hB i (by omega)
      have next : h.2.2 i ≠ t * 4 + e → ∀ j : Nat, j < i + 1 → h.2.2 j ≠ t * 4 + e := by
        intro hne j hj
        by_cases c : j = i
        · rw [c]; exact hne
        · exact hh j (by omega)
      refine sX9_isThere_5 hE _ _ _ _ ⟨fun c => ?_, fun c => ⟨fun q => absurd rfl q, fun _ => ?_⟩⟩
      · rw [hf.2.1] at c
        simp (disch := omega) only [ii_lit, ii_neg, ii_add, ii_sub, ii_mul, ii_lt, ii_le, ii_eq] at c
        omega
      · refine c_X9_earOf hf (by omega) (sX9_isThere_26 hE _ _ _ _ ?_)
        rw [ii_eq (by omega) (by omega), e5]
        refine ⟨fun c2 => ih (i + 1) (by omega) (next (by omega)), fun c2 => ?_⟩
        refine c_X9_timeOf hf (by omega) (sX9_isThere_36 hE _ _ _ _ ?_)
        rw [ii_eq (by omega) (by omega), e5]
        refine ⟨fun c3 => ih (i + 1) (by omega) (next (by omega)), fun c3 => yes k (i + 1) (by omega) ⟨i, by omega, by omega⟩⟩
  refine sX9_isThere_0 hE _ _ ?_
  exact key h.2.1 0 (by omega) (fun j hj => by omega)
end JM1
