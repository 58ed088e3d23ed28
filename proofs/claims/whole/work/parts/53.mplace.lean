section JM6
variable {g : jm_G} {ad : Nat → Nat} {P : Option Value → (Nat → Nat → Int32) → Prop}
/-- the row that is tried -/
def triR (μ : Nat → Nat → Int32) (n : Nat) (r : Nat → Nat) : Prop := ∀ e : Nat, e < 4 → μ 96 e = ii (r e : Nat) ∧ r e < n
theorem c_X9_spreadAt {μ : Nat → Nat → Int32} {h : sH} {r : Nat → Nat} {sp : Int} {p : Nat} (hf : MS μ h) (hB : fB h.2.1 h.2.2) (hr : triR μ h.2.1 r) (hsp : 313 ≤ sp) (hT : MTm μ sp) (hp9 : p < 1681) (hp : P (some (.int (ii (spP sp (fun e => h.2.2 (r e) / 4) p)))) μ) : jD g ad m_X9_spreadAt [.ref 82, .int (ii p)] μ P := by
  refine jd_intro [some (.ref 82), some (.int (ii p)), none, none, none, none] (by decide) rfl rfl (fun κ hE => ?_)
  have htB : tB (fun e => h.2.2 (r e) / 4) := by
    intro e he
    have := hB _ (hr e he).2
    show 0 ≤ h.2.2 (r e) / 4 ∧ h.2.2 (r e) / 4 ≤ 99999
    omega
  unfold spP at hp
  generalize hX : ((p % 41 : Nat) : Int) = X at hp
  generalize hY : ((p / 41 : Nat) : Int) = Y at hp
  have hX9 : 0 ≤ X ∧ X ≤ 40 := by omega
  have hY9 : 0 ≤ Y ∧ Y ≤ 40 := by omega
  have hr9 := fun e (he : e < 4) => stt_rng (e := e) hsp htB he hX9 hY9
  have step : ∀ (e : Nat) (lo hi : Int), e < 4 → ir lo → ir hi → jS g ad m_X9_spreadAt κ 9 [some (.ref 82), some (.int (ii p)), some (.int (ii (min (stt sp (fun e => h.2.2 (r e) / 4) X Y e) lo))), some (.int (ii (max (stt sp (fun e => h.2.2 (r e) / 4) X Y e) hi))), some (.int (ii ((e : Int) + 1))), none] [] μ → jS g ad m_X9_spreadAt κ 9 [some (.ref 82), some (.int (ii p)), some (.int (ii lo)), some (.int (ii hi)), some (.int (ii e)), none] [] μ := by
    intro e lo hi he hlo hhi kk
    have he9 := hr9 e he
    obtain ⟨t1, t2⟩ := hr e he
    refine sX9_spreadAt_9 hE _ _ _ _ ⟨fun c => ?_, fun c => ⟨ii_in (by omega) (by omega) (by omega), ?_⟩⟩
    · simp (disch := omega) only [ii_lit, ii_neg, ii_add, ii_sub, ii_mul, ii_lt, ii_le, ii_eq] at c
      omega
    · rw [ii_natN (by omega), t1]
      refine c_X9_timeOf hf t2 (sX9_spreadAt_26 hE _ _ _ _ _ ?_)
      rw [ii_4, ii_mul, ii_add, ii_nat (by omega) (by omega), show (4 * (p : Int) + e).toNat = 4 * p + e by omega, hT.2 p e hp9 he, hX, hY, ii_sub, ii_1, ii_add]
      refine ⟨ii_in (by omega) (by omega) (by omega), ?_⟩
      have es : h.2.2 (r e) / 4 - tk sp e X Y = stt sp (fun e => h.2.2 (r e) / 4) X Y e := rfl
      rw [es, ii_le hlo (by omega), ii_le (by omega) hhi]
      refine ⟨fun c1 => ⟨fun c2 => ?_, fun c2 => ?_⟩, fun c1 => ⟨fun c2 => ?_, fun c2 => ?_⟩⟩
      · rw [show min (stt sp (fun e => h.2.2 (r e) / 4) X Y e) lo = lo by omega, show max (stt sp (fun e => h.2.2 (r e) / 4) X Y e) hi = hi by omega] at kk
        exact kk
      · rw [show min (stt sp (fun e => h.2.2 (r e) / 4) X Y e) lo = lo by omega, show max (stt sp (fun e => h.2.2 (r e) / 4) X Y e) hi = stt sp (fun e => h.2.2 (r e) / 4) X Y e by omega] at kk
        exact kk
      · rw [show min (stt sp (fun e => h.2.2 (r e) / 4) X Y e) lo = stt sp (fun e => h.2.2 (r e) / 4) X Y e by omega, show max (stt sp (fun e => h.2.2 (r e) / 4) X Y e) hi = hi by omega] at kk
        exact kk
      · rw [show min (stt sp (fun e => h.2.2 (r e) / 4) X Y e) lo = stt sp (fun e => h.2.2 (r e) / 4) X Y e by omega, show max (stt sp (fun e => h.2.2 (r e) / 4) X Y e) hi = stt sp (fun e => h.2.2 (r e) / 4) X Y e by omega] at kk
        exact kk
  have h0 := hr9 0 (by omega)
  have h1 := hr9 1 (by omega)
  have h2 := hr9 2 (by omega)
  have h3 := hr9 3 (by omega)
  refine sX9_spreadAt_0 hE _ ?_
  show jS g ad m_X9_spreadAt κ 9 [some (.ref 82), some (.int (ii p)), some (.int (ii 99999)), some (.int (ii (-99999))), some (.int (ii ((0 : Nat) : Int))), none] [] μ
  refine step 0 _ _ (by omega) (by decide) (by decide) ?_
  rw [show min (stt sp (fun e => h.2.2 (r e) / 4) X Y 0) 99999 = stt sp (fun e => h.2.2 (r e) / 4) X Y 0 by omega, show max (stt sp (fun e => h.2.2 (r e) / 4) X Y 0) (-99999) = stt sp (fun e => h.2.2 (r e) / 4) X Y 0 by omega]
  refine step 1 _ _ (by omega) (by omega) (by omega) ?_
  refine step 2 _ _ (by omega) (by omega) (by omega) ?_
  refine step 3 _ _ (by omega) (by omega) (by omega) ?_
  refine sX9_spreadAt_9 hE _ _ _ _ ⟨fun _ => ?_, fun c => absurd (by decide) c⟩
  rw [ii_sub]
  exact hp
theorem c_X9_momentAt {μ : Nat → Nat → Int32} {h : sH} {r : Nat → Nat} {sp : Int} {p : Nat} (hf : MS μ h) (hB : fB h.2.1 h.2.2) (hr : triR μ h.2.1 r) (hsp : 313 ≤ sp) (hT : MTm μ sp) (hp9 : p < 1681) (hp : P (some (.int (ii (lstS sp (fun e => h.2.2 (r e) / 4) ((p % 41 : Nat) : Int) ((p / 41 : Nat) : Int))))) μ) : jD g ad m_X9_momentAt [.ref 82, .int (ii p)] μ P := by
  refine jd_intro [some (.ref 82), some (.int (ii p)), none, none, none] (by decide) rfl rfl (fun κ hE => ?_)
  have htB : tB (fun e => h.2.2 (r e) / 4) := by
    intro e he
    have := hB _ (hr e he).2
    show 0 ≤ h.2.2 (r e) / 4 ∧ h.2.2 (r e) / 4 ≤ 99999
    omega
  generalize hX : ((p % 41 : Nat) : Int) = X at hp
  generalize hY : ((p / 41 : Nat) : Int) = Y at hp
  have hX9 : 0 ≤ X ∧ X ≤ 40 := by omega
  have hY9 : 0 ≤ Y ∧ Y ≤ 40 := by omega
  have hr9 := fun e (he : e < 4) => stt_rng (e := e) hsp htB he hX9 hY9
  have step : ∀ (e : Nat) (lo : Int), e < 4 → ir lo → jS g ad m_X9_momentAt κ 5 [some (.ref 82), some (.int (ii p)), some (.int (ii (min (stt sp (fun e => h.2.2 (r e) / 4) X Y e) lo))), some (.int (ii ((e : Int) + 1))), none] [] μ → jS g ad m_X9_momentAt κ 5 [some (.ref 82), some (.int (ii p)), some (.int (ii lo)), some (.int (ii e)), none] [] μ := by
    intro e lo he hlo kk
    have he9 := hr9 e he
    obtain ⟨t1, t2⟩ := hr e he
    refine sX9_momentAt_5 hE _ _ _ ⟨fun c => ?_, fun c => ⟨ii_in (by omega) (by omega) (by omega), ?_⟩⟩
    · simp (disch := omega) only [ii_lit, ii_neg, ii_add, ii_sub, ii_mul, ii_lt, ii_le, ii_eq] at c
      omega
    · rw [ii_natN (by omega), t1]
      refine c_X9_timeOf hf t2 (sX9_momentAt_20 hE _ _ _ _ ?_)
      rw [ii_4, ii_mul, ii_add, ii_nat (by omega) (by omega), show (4 * (p : Int) + e).toNat = 4 * p + e by omega, hT.2 p e hp9 he, hX, hY, ii_sub, ii_1, ii_add]
      refine ⟨ii_in (by omega) (by omega) (by omega), ?_⟩
      have es : h.2.2 (r e) / 4 - tk sp e X Y = stt sp (fun e => h.2.2 (r e) / 4) X Y e := rfl
      rw [es, ii_le hlo (by omega)]
      refine ⟨fun c1 => ?_, fun c1 => ?_⟩
      · rw [show min (stt sp (fun e => h.2.2 (r e) / 4) X Y e) lo = lo by omega] at kk
        exact kk
      · rw [show min (stt sp (fun e => h.2.2 (r e) / 4) X Y e) lo = stt sp (fun e => h.2.2 (r e) / 4) X Y e by omega] at kk
        exact kk
  have h0 := hr9 0 (by omega)
  have h1 := hr9 1 (by omega)
  have h2 := hr9 2 (by omega)
  have h3 := hr9 3 (by omega)
  refine sX9_momentAt_0 hE _ ?_
  show jS g ad m_X9_momentAt κ 5 [some (.ref 82), some (.int (ii p)), some (.int (ii 99999)), some (.int (ii ((0 : Nat) : Int))), none] [] μ
  refine step 0 _ (by omega) (by decide) ?_
  rw [show min (stt sp (fun e => h.2.2 (r e) / 4) X Y 0) 99999 = stt sp (fun e => h.2.2 (r e) / 4) X Y 0 by omega]
  refine step 1 _ (by omega) (by omega) ?_
  refine step 2 _ (by omega) (by omega) ?_
  refine step 3 _ (by omega) (by omega) ?_
  exact sX9_momentAt_5 hE _ _ _ ⟨fun _ => hp, fun c => absurd (by decide) c⟩
theorem triR.kept {μ μ' : Nat → Nat → Int32} {n : Nat} {r : Nat → Nat} (h : triR μ n r) (hk : μ' 96 = μ 96) : triR μ' n r := by
  unfold triR
  rw [hk]
  exact h
theorem c_X9_findPlace {μ : Nat → Nat → Int32} {h : sH} {r : Nat → Nat} {sp : Int} (hf : MS μ h) (hB : fB h.2.1 h.2.2) (hr : triR μ h.2.1 r) (hsp : 313 ≤ sp) (hT : MTm μ sp) (hp : ∀ μ' : Nat → Nat → Int32, μ' 82 22 = ii ((bst sp (fun e => h.2.2 (r e) / 4)).1 : Nat) → μ' 82 23 = ii (bst sp (fun e => h.2.2 (r e) / 4)).2 → (∀ j : Nat, j ≠ 22 → j ≠ 23 → μ' 82 j = μ 82 j) → (∀ c : Nat, c ≠ 82 → μ' c = μ c) → P none μ') : jD g ad m_X9_findPlace [.ref 82] μ P := by
  refine jd_intro [some (.ref 82), none, none] (by decide) rfl rfl (fun κ hE => ?_)
  have htB : tB (fun e => h.2.2 (r e) / 4) := by
    intro e he
    have := hB _ (hr e he).2
    show 0 ≤ h.2.2 (r e) / 4 ∧ h.2.2 (r e) / 4 ≤ 99999
    omega
  have hsr : ∀ k : Nat, k < 1681 → 0 ≤ spP sp (fun e => h.2.2 (r e) / 4) k ∧ spP sp (fun e => h.2.2 (r e) / 4) k ≤ 101806 := fun k hk => spr_rng hsp htB (by omega) (by omega)
  generalize ht : (fun e => h.2.2 (r e) / 4 : Nat → Int) = t at *
  have hbr : ∀ k : Nat, k ≤ 1680 → 0 ≤ (bp sp t k).2 ∧ (bp sp t k).2 ≤ 101806 := by
    intro k hk
    obtain ⟨a, b, -⟩ := bp_le (sp := sp) (t := t) k
    rw [b]
    exact hsr _ (by omega)
  have key : ∀ (m k : Nat) (μ1 : Nat → Nat → Int32), k + m = 1680 → μ1 82 22 = ii ((bp sp t k).1 : Nat) → μ1 82 23 = ii (bp sp t k).2 → (∀ j : Nat, j ≠ 22 → j ≠ 23 → μ1 82 j = μ 82 j) → (∀ c : Nat, c ≠ 82 → μ1 c = μ c) → jS g ad m_X9_findPlace κ 16 [some (.ref 82), some (.int (ii ((k + 1 : Nat) : Int))), none] [] μ1 := by
    intro m
    induction m with
    | zero =>
      intro k μ1 hk a1 a2 a3 a4
      have e : k = 1680 := by omega
      subst e
      refine sX9_findPlace_16 hE _ ⟨fun _ => hp μ1 a1 a2 a3 a4, fun c => absurd (by decide) c⟩
    | succ m ih =>
      intro k μ1 hk a1 a2 a3 a4
      have hb := hbr k (by omega)
      have hs := hsr (k + 1) (by omega)
      have e9 : bp sp t (k + 1) = if spP sp t (k + 1) < (bp sp t k).2 then (k + 1, spP sp t (k + 1)) else bp sp t k := rfl
      have e5 : ii ((k + 1 : Nat) : Int) + 1 = ii ((k + 1 + 1 : Nat) : Int) := by rw [ii_1, ii_add]; rfl
      refine sX9_findPlace_16 hE _ ⟨fun c => ?_, fun _ => ?_⟩
      · rw [ii_lit 1681, ii_le (by decide) (by omega)] at c
        have c : (1681 : Int) ≤ ((k + 1 : Nat) : Int) := c
        omega
      · refine c_X9_spreadAt (hf.kept (a4 _ (by decide))) hB (hr.kept (a4 _ (by decide))) hsp (hT.kept (a3 10 (by decide) (by decide)) (a4 _ (by decide))) (by omega) (sX9_findPlace_28 hE _ _ ?_)
        rw [ht, a2, a1, ii_le (by omega) (by omega), e5]
        have h9 := ih (k + 1)
        rw [e9] at h9
        refine ⟨fun c => ?_, fun c => ?_⟩
        · rw [if_neg (by omega)] at h9
          intro μ2 e2
          have x23 : μ2 82 23 = ii (bp sp t k).2 := by rw [e2, jm_st_ni _ _ _ (by decide)]; exact a2
          rw [x23, ii_le (by omega) (by omega)]
          refine ⟨fun _ => ?_, fun c2 => absurd c c2⟩
          intro μ3 e3
          refine h9 μ3 (by omega) (by rw [e3, jm_st_ni _ _ _ (by decide), e2, jm_st_s]) (by rw [e3, jm_st_s]) (fun j j1 j2 => by rw [e3, jm_st_ni _ _ _ j2, e2, jm_st_ni _ _ _ j1]; exact a3 j j1 j2) (fun c cc => by rw [e3, jm_st_nc _ _ _ cc, e2, jm_st_nc _ _ _ cc]; exact a4 c cc)
        · rw [if_pos (by omega)] at h9
          intro μ2 e2
          have x23 : μ2 82 23 = ii (bp sp t k).2 := by rw [e2, jm_st_ni _ _ _ (by decide)]; exact a2
          rw [x23, ii_le (by omega) (by omega)]
          refine ⟨fun c2 => absurd c2 c, fun _ => ?_⟩
          intro μ3 e3
          refine h9 μ3 (by omega) (by rw [e3, jm_st_ni _ _ _ (by decide), e2, jm_st_s]) (by rw [e3, jm_st_s]) (fun j j1 j2 => by rw [e3, jm_st_ni _ _ _ j2, e2, jm_st_ni _ _ _ j1]; exact a3 j j1 j2) (fun c cc => by rw [e3, jm_st_nc _ _ _ cc, e2, jm_st_nc _ _ _ cc]; exact a4 c cc)
  refine sX9_findPlace_0 hE ?_
  intro μ1 e1
  have b1 : ∀ j : Nat, j ≠ 22 → μ1 82 j = μ 82 j := fun j jj => by rw [e1, jm_st_ni _ _ _ jj]
  have b2 : ∀ c : Nat, c ≠ 82 → μ1 c = μ c := fun c cc => by rw [e1, jm_st_nc _ _ _ cc]
  refine c_X9_spreadAt (p := 0) (hf.kept (b2 _ (by decide))) hB (hr.kept (b2 _ (by decide))) hsp (hT.kept (b1 10 (by decide)) (b2 _ (by decide))) (by decide) (sX9_findPlace_11 hE _ ?_)
  rw [ht]
  intro μ2 e2
  exact key 1680 0 μ2 (by omega) (by rw [e2, jm_st_ni _ _ _ (by decide), e1, jm_st_s]; exact (by decide : (0 : Int32) = ii ((0 : Nat) : Int))) (by rw [e2, jm_st_s]; rfl) (fun j j1 j2 => by rw [e2, jm_st_ni _ _ _ j2]; exact b1 j j1) (fun c cc => by rw [e2, jm_st_nc _ _ _ cc]; exact b2 c cc)
end JM6
