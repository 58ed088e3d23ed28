section JM7
variable {g : jm_G} {ad : Nat → Nat} {P : Option Value → (Nat → Nat → Int32) → Prop}
/-- to which shot a pulse belongs: unused is 40 -/
def oc (v : Int) : Int := if v = -1 then 40 else v
def SO (μ : Nat → Nat → Int32) (own : Nat → Int) : Prop := ∀ j : Nat, j < 32 → μ 91 j = ii (oc (own j))
/-- the pulses that are looked at -/
def canR (μ : Nat → Nat → Int32) (N : Int → List Nat) : Prop := ∀ e : Nat, e < 4 → (N e).length ≤ 2 ∧ (∀ k v : Nat, (N e)[k]? = some v → μ 97 (2 * e + k) = ii v) ∧ ∀ k : Nat, (N e).length ≤ k → k < 2 → μ 97 (2 * e + k) = ii (-6)
theorem take2_len {Q : Nat → Bool} {i n : Nat} (h : i ≤ n) (h2 : 2 ≤ (((List.range i).filter Q).take 2).length) : ((List.range n).filter Q).take 2 = ((List.range i).filter Q).take 2 := by
  induction n with
  | zero => rw [show i = 0 by omega]
  | succ n ih =>
    rcases Nat.lt_or_ge n i with c | c
    · rw [show i = n + 1 by omega]
    · rw [filt_succ, if_neg, ih c]
      rintro ⟨-, q⟩
      rw [ih c] at q
      omega
/-- one ear's pulses among the first i -/
def earL (f : Nat → Int) (win : Int) (own : Nat → Int) (p i : Nat) (e : Nat) : List Nat := ((List.range i).filter (cdQ f win own p (e : Int))).take 2
theorem earL_len {f : Nat → Int} {win : Int} {own : Nat → Int} {p i : Nat} {e : Nat} : (earL f win own p i e).length ≤ 2 := by
  unfold earL
  simp
  omega
set_option maxRecDepth 100000 in
theorem c_X9_findCandidates {μ : Nat → Nat → Int32} {h : sH} {own : Nat → Int} {p : Nat} (hf : MS μ h) (hv : vH h) (hp9 : p < h.2.1) (ho : SO μ own) (hor : ∀ j : Nat, j < h.2.1 → -6 ≤ own j ∧ own j ≤ 8)
    (h1 : ∀ μ' : Nat → Nat → Int32, canR μ' (near h.2.1 h.2.2 (h.1 1) own p) → rowB (near h.2.1 h.2.2 (h.1 1) own p) 0 = true → (∀ c : Nat, c ≠ 97 → μ' c = μ c) → P (some (.int 1)) μ')
    (h0 : ∀ μ' : Nat → Nat → Int32, (∀ c : Nat, ¬ rowB (near h.2.1 h.2.2 (h.1 1) own p) c = true) → (∀ c : Nat, c ≠ 97 → μ' c = μ c) → P (some (.int 0)) μ') : jD g ad m_X9_findCandidates [.ref 82, .int (ii p)] μ P := by
  refine jd_intro [some (.ref 82), some (.int (ii p)), none, none, none, none, none] (by decide) rfl rfl (fun κ hE => ?_)
  obtain ⟨v0, v1, v2, vn, vB, vS⟩ := hv
  have hbp := vB p hp9
  generalize hf9 : h.2.2 = f at *
  generalize hn9 : h.2.1 = n at *
  generalize hw9 : h.1 1 = win at *
  have hne : ∀ e : Nat, e < 4 → (e : Int) ≠ f p % 4 → near n f win own p e = earL f win own p n e := by
    intro e _ c
    unfold near earL
    rw [if_neg c]
  have hnp : ∀ e : Nat, (e : Int) = f p % 4 → near n f win own p e = [p] := by
    intro e c
    unfold near
    rw [if_pos c]
  -- what the flag says
  have flag : ∀ (b : Int32) (e : Nat), (b = 1 ∧ ∀ e' : Nat, e' < e → 0 < (near n f win own p e').length) ∨ (b = 0 ∧ ∃ e' : Nat, e' < 4 ∧ (near n f win own p e').length = 0) → True := fun _ _ _ => trivial
  have ears : ∀ (m e : Nat) (b : Int32) (μ1 : Nat → Nat → Int32), e + m = 4 → ((b = 1 ∧ ∀ e' : Nat, e' < e → 0 < (near n f win own p e').length) ∨ (b = 0 ∧ ∃ e' : Nat, e' < 4 ∧ (near n f win own p e').length = 0)) → (∀ e' : Nat, e' < e → (∀ k v : Nat, (earL f win own p n e')[k]? = some v → μ1 97 (2 * e' + k) = ii v) ∧ ∀ k : Nat, (earL f win own p n e').length ≤ k → k < 2 → μ1 97 (2 * e' + k) = ii (-6)) → (∀ c : Nat, c ≠ 97 → μ1 c = μ c) → jS g ad m_X9_findCandidates κ 4 [some (.ref 82), some (.int (ii p)), some (.int b), some (.int (ii e)), none, none, none] [] μ1 := by
    intro m
    induction m with
    | zero =>
      intro e b μ1 he hb ha hk
      have e4 : e = 4 := by omega
      subst e4
      have hf1 : MS μ1 h := hf.kept (hk _ (by decide))
      refine sX9_findCandidates_4 hE _ _ _ ⟨fun _ => ?_, fun c => absurd (by decide) c⟩
      refine c_X9_earOf hf1 (by rw [hn9]; exact hp9) (sX9_findCandidates_185 hE _ _ _ _ ?_)
      rw [hf9, ii_2, ii_mul, ii_nat (by omega) (by omega)]
      refine ⟨ii_in (by omega) (by omega) (by omega), ?_⟩
      intro μ2 e2
      have hk2 : ∀ c : Nat, c ≠ 97 → μ2 c = μ c := fun c cc => by rw [e2, jm_st_nc _ _ _ cc]; exact hk c cc
      refine c_X9_earOf (hf.kept (hk2 _ (by decide))) (by rw [hn9]; exact hp9) (sX9_findCandidates_198 hE _ _ _ ?_)
      rw [hf9, ii_mul, ii_1, ii_add, ii_nat (by omega) (by omega)]
      refine ⟨ii_in (by omega) (by omega) (by omega), ?_⟩
      intro μ3 e3
      have hk3 : ∀ c : Nat, c ≠ 97 → μ3 c = μ c := fun c cc => by rw [e3, jm_st_nc _ _ _ cc]; exact hk2 c cc
      rcases hb with ⟨b1, b2⟩ | ⟨b1, e9, b3, b2⟩
      · subst b1
        refine ⟨Or.inr rfl, h1 μ3 (fun e he9 => ?_) (rowB_iff.mpr (fun e he9 => by have := b2 e he9; rw [show bitC 0 e = 0 by unfold bitC; simp]; exact this)) hk3⟩
        by_cases c : (e : Int) = f p % 4
        · rw [hnp e c]
          refine ⟨by simp, fun k v hkv => ?_, fun k k1 k2 => ?_⟩
          · have hk0 : k < 1 := (List.getElem?_eq_some_iff.mp hkv).1
            have hk00 : k = 0 := by omega
            subst hk00
            have hv9 : p = v := by simpa using hkv
            subst hv9
            rw [e3, jm_st_ni _ _ _ (by omega), e2, show (2 * (f p % 4)).toNat = 2 * e + 0 by omega, jm_st_s]
          · have k1 : 1 ≤ k := k1
            rw [e3, show (2 * (f p % 4) + 1).toNat = 2 * e + k by omega, jm_st_s]
            decide
        · rw [hne e he9 c]
          obtain ⟨w1, w2⟩ := ha e he9
          refine ⟨earL_len, fun k v hkv => ?_, fun k k1 k2 => ?_⟩
          · have hk2' : k < 2 := by
              have := (List.getElem?_eq_some_iff.mp hkv).1
              have := earL_len (f := f) (win := win) (own := own) (p := p) (i := n) (e := e)
              omega
            rw [e3, jm_st_ni _ _ _ (by omega), e2, jm_st_ni _ _ _ (by omega)]
            exact w1 k v hkv
          · rw [e3, jm_st_ni _ _ _ (by omega), e2, jm_st_ni _ _ _ (by omega)]
            exact w2 k k1 k2
      · subst b1
        refine ⟨Or.inl rfl, h0 μ3 (fun c hr => ?_) hk3⟩
        have := rowB_iff.mp hr e9 b3
        omega
    | succ m ih =>
      intro e b μ1 he hb ha hk
      have e5 : ii (e : Int) + 1 = ii ((e + 1 : Nat) : Int) := by simp (disch := omega) only [ii_lit, ii_neg, ii_add, ii_sub, ii_mul, ii_lt, ii_le, ii_eq]; rfl
      have hll := fun i => earL_len (f := f) (win := win) (own := own) (p := p) (i := i) (e := e)
      -- behind an ear
      have behind : ∀ μ2 : Nat → Nat → Int32, (∀ c : Nat, c ≠ 97 → μ2 c = μ c) → (∀ k v : Nat, (earL f win own p n e)[k]? = some v → μ2 97 (2 * e + k) = ii v) → (∀ k : Nat, (earL f win own p n e).length ≤ k → k < 2 → μ2 97 (2 * e + k) = ii (-6)) → (∀ j : Nat, j < 2 * e → μ2 97 j = μ1 97 j) → ((b = 0 → jS g ad m_X9_findCandidates κ 4 [some (.ref 82), some (.int (ii p)), some (.int 0), some (.int (ii e + 1)), none, none, none] [] μ2) ∧ (¬ b = 0 → jD g ad m_X9_earOf [.ref 82, .int (ii p)] μ2 (fun v μ' => jS g ad m_X9_findCandidates κ 155 [some (.ref 82), some (.int (ii p)), none, some (.int (ii e)), some (.int (ii ((earL f win own p n e).length : Nat))), none, none] (jm_ps v [.int (ii e)]) μ'))) := by
        intro μ2 k2 w1 w2 w3
        have hl := hll n
        have ha2 : ∀ e' : Nat, e' < e + 1 → (∀ k v : Nat, (earL f win own p n e')[k]? = some v → μ2 97 (2 * e' + k) = ii v) ∧ ∀ k : Nat, (earL f win own p n e').length ≤ k → k < 2 → μ2 97 (2 * e' + k) = ii (-6) := by
          intro e' he'
          by_cases c : e' = e
          · rw [c]; exact ⟨w1, w2⟩
          · obtain ⟨u1, u2⟩ := ha e' (by omega)
            refine ⟨fun k v hkv => ?_, fun k k1 k2 => ?_⟩
            · have hk2' : k < 2 := by
                have := (List.getElem?_eq_some_iff.mp hkv).1
                have := earL_len (f := f) (win := win) (own := own) (p := p) (i := n) (e := e')
                omega
              rw [w3 _ (by omega)]
              exact u1 k v hkv
            · rw [w3 _ (by omega)]
              exact u2 k k1 k2
        refine ⟨fun c => ?_, fun c => ?_⟩
        · rcases hb with ⟨b1, b2⟩ | ⟨b1, b2⟩
          · rw [b1] at c; exact absurd c (by decide)
          · rw [e5]
            exact ih (e + 1) 0 μ2 (by omega) (Or.inr ⟨rfl, b2⟩) ha2 k2
        · rcases hb with ⟨b1, b2⟩ | ⟨b1, b2⟩
          · refine c_X9_earOf (hf.kept (k2 _ (by decide))) (by rw [hn9]; exact hp9) (sX9_findCandidates_155 hE _ _ _ _ _ ?_)
            rw [hf9, ii_eq (by omega) (by omega), e5, ii_0, ii_le (by omega) (by decide)]
            refine ⟨fun c2 => ?_, fun c2 => ⟨fun c3 => ?_, fun c3 => ?_⟩⟩
            · refine ih (e + 1) 1 μ2 (by omega) (Or.inl ⟨rfl, fun e' he' => ?_⟩) ha2 k2
              by_cases c4 : e' = e
              · rw [c4, hnp e c2]; exact Nat.zero_lt_one
              · exact b2 e' (by omega)
            · refine ih (e + 1) 0 μ2 (by omega) (Or.inr ⟨rfl, e, by omega, ?_⟩) ha2 k2
              rw [hne e (by omega) c2]
              omega
            · refine ih (e + 1) 1 μ2 (by omega) (Or.inl ⟨rfl, fun e' he' => ?_⟩) ha2 k2
              by_cases c4 : e' = e
              · rw [c4, hne e (by omega) c2]; omega
              · exact b2 e' (by omega)
          · exact absurd b1 c
      have walk : ∀ (m2 i : Nat) (μ2 : Nat → Nat → Int32), i + m2 = n → (∀ c : Nat, c ≠ 97 → μ2 c = μ c) → (∀ k v : Nat, (earL f win own p i e)[k]? = some v → μ2 97 (2 * e + k) = ii v) → (∀ k : Nat, (earL f win own p i e).length ≤ k → k < 2 → μ2 97 (2 * e + k) = ii (-6)) → (∀ j : Nat, j < 2 * e → μ2 97 j = μ1 97 j) → jS g ad m_X9_findCandidates κ 37 [some (.ref 82), some (.int (ii p)), some (.int b), some (.int (ii e)), some (.int (ii ((earL f win own p i e).length : Nat))), some (.int (ii i)), none] [] μ2 := by
        intro m2
        induction m2 with
        | zero =>
          intro i μ2 hi k2 w1 w2 w3
          have ei : i = n := by omega
          subst ei
          refine sX9_findCandidates_37 hE _ _ _ _ _ ⟨fun _ => behind μ2 k2 w1 w2 w3, fun c => ?_⟩
          rw [k2 83 (by decide), hf.2.1, hn9] at c
          simp (disch := omega) only [ii_lit, ii_neg, ii_add, ii_sub, ii_mul, ii_lt, ii_le, ii_eq] at c
          omega
        | succ m2 ihm =>
          intro i μ2 hi k2 w1 w2 w3
          have hbi := vB i (by omega)
          have hoi := hor i (by omega)
          have hl := hll i
          have hf2 : MS μ2 h := hf.kept (k2 _ (by decide))
          have e6 : ii (i : Int) + 1 = ii ((i + 1 : Nat) : Int) := by simp (disch := omega) only [ii_lit, ii_neg, ii_add, ii_sub, ii_mul, ii_lt, ii_le, ii_eq]; rfl
          have eS : earL f win own p (i + 1) e = if cdQ f win own p (e : Int) i = true ∧ (earL f win own p i e).length < 2 then earL f win own p i e ++ [i] else earL f win own p i e := filt_succ _ _
          refine sX9_findCandidates_37 hE _ _ _ _ _ ⟨fun c => ?_, fun _ => ?_⟩
          · rw [k2 83 (by decide), hf.2.1, hn9] at c
            simp (disch := omega) only [ii_lit, ii_neg, ii_add, ii_sub, ii_mul, ii_lt, ii_le, ii_eq] at c
            omega
          · rw [ii_2, ii_le (by decide) (by omega)]
            refine ⟨fun c => ?_, fun c => ?_⟩
            · have e9 : earL f win own p n e = earL f win own p i e := take2_len (by omega) (by show 2 ≤ (earL f win own p i e).length; omega)
              rw [← e9] at w1 w2 ⊢
              exact behind μ2 k2 w1 w2 w3
            · have skip : ¬ cdQ f win own p (e : Int) i = true → jS g ad m_X9_findCandidates κ 37 [some (.ref 82), some (.int (ii p)), some (.int b), some (.int (ii e)), some (.int (ii ((earL f win own p i e).length : Nat))), some (.int (ii ((i + 1 : Nat) : Int))), none] [] μ2 := by
                intro q
                have h9 := ihm (i + 1) μ2 (by omega) k2
                rw [eS, if_neg (fun q2 => q q2.1)] at h9
                exact h9 w1 w2 w3
              have noQ : ¬ (f i % 4 = e ∧ own i = -1 ∧ f p / 4 ≤ f i / 4 ∧ f i / 4 ≤ f p / 4 + win) → ¬ cdQ f win own p (e : Int) i = true := fun q q2 => q (of_decide_eq_true q2)
              refine c_X9_earOf hf2 (by rw [hn9]; omega) (sX9_findCandidates_60 hE _ _ _ _ _ _ ?_)
              rw [hf9, ii_eq (by omega) (by omega), e6]
              refine ⟨fun c1 => ⟨fun _ => skip (noQ (fun q => c1 q.1)), fun q => absurd rfl q⟩, fun c1 => ⟨ii_in (by omega) (by omega) (by omega), ?_⟩⟩
              rw [ii_natN (by omega), k2 91 (by decide), ho i (by omega)]
              have ho40 : ii (oc (own i)) = 40 ↔ own i = -1 := by
                have e40 : (40 : Int32) = ii 40 := by decide
                rw [e40]
                unfold oc
                by_cases q : own i = -1
                · rw [if_pos q]
                  exact ⟨fun _ => q, fun _ => rfl⟩
                · rw [if_neg q, ii_eq (by omega) (by decide)]
                  exact ⟨fun q2 => by omega, fun q2 => absurd q2 q⟩
              rw [ho40]
              refine ⟨fun c2 => ⟨fun _ => skip (noQ (fun q => c2 q.2.1)), fun q => absurd rfl q⟩, fun c2 => ?_⟩
              refine c_X9_timeOf hf2 (by rw [hn9]; omega) (sX9_findCandidates_82 hE _ _ _ _ _ _ (c_X9_timeOf hf2 (by rw [hn9]; omega) (sX9_findCandidates_87 hE _ _ _ _ _ _ _ ?_)))
              rw [hf9, ii_lt (by omega) (by omega), e6]
              refine ⟨fun c3 => ⟨fun _ => skip (noQ (fun q => by omega)), fun q => absurd rfl q⟩, fun c3 => ?_⟩
              refine c_X9_timeOf hf2 (by rw [hn9]; omega) (sX9_findCandidates_96 hE _ _ _ _ _ _ (c_X9_timeOf hf2 (by rw [hn9]; omega) (sX9_findCandidates_101 hE _ _ _ _ _ _ _ ?_)))
              have x1 : μ2 83 1 = ii win := by rw [k2 83 (by decide), hf.1 1 (by decide), hw9]
              rw [hf9, x1, ii_sub, ii_lt (by omega) (by omega), e6]
              refine ⟨fun c4 => ⟨fun _ => skip (noQ (fun q => by omega)), fun q => absurd rfl q⟩, fun c4 => ⟨fun q => absurd q (by decide), fun _ => ?_⟩⟩
              have e7 : ii ((earL f win own p i e).length : Nat) + 1 = ii (((earL f win own p i e).length + 1 : Nat) : Int) := by simp (disch := omega) only [ii_lit, ii_neg, ii_add, ii_sub, ii_mul, ii_lt, ii_le, ii_eq]; rfl
              rw [ii_2, ii_mul, ii_add, ii_nat (by omega) (by omega), e7]
              refine ⟨ii_in (by omega) (by omega) (by omega), ?_⟩
              intro μ3 e3
              have hQ : cdQ f win own p (e : Int) i = true := decide_eq_true ⟨c1, c2, by omega, by omega⟩
              have h9 := ihm (i + 1) μ3 (by omega) (fun c cc => by rw [e3, jm_st_nc _ _ _ cc]; exact k2 c cc)
              have hlt : (earL f win own p i e).length < 2 := by omega
              rw [eS, if_pos ⟨hQ, hlt⟩, List.length_append] at h9
              refine h9 (fun k v hkv => ?_) (fun k k1 k2' => ?_) (fun j hj => by rw [e3, jm_st_ni _ _ _ (by omega)]; exact w3 j hj)
              · by_cases ck : k < (earL f win own p i e).length
                · rw [List.getElem?_append_left ck] at hkv
                  rw [e3, jm_st_ni _ _ _ (by omega)]
                  exact w1 k v hkv
                · rw [List.getElem?_append_right (by omega)] at hkv
                  have hz : k - (earL f win own p i e).length < 1 := (List.getElem?_eq_some_iff.mp hkv).1
                  rw [show k - (earL f win own p i e).length = 0 by omega] at hkv
                  have hv : i = v := by simpa using hkv
                  subst hv
                  rw [e3, show (2 * (e : Int) + ((earL f win own p i e).length : Nat)).toNat = 2 * e + k by omega, jm_st_s]
              · have k1 : (earL f win own p i e).length + 1 ≤ k := k1
                rw [e3, jm_st_ni _ _ _ (by omega)]
                exact w2 k (by omega) k2'
      refine sX9_findCandidates_4 hE _ _ _ ⟨fun c => ?_, fun _ => ?_⟩
      · simp (disch := omega) only [ii_lit, ii_neg, ii_add, ii_sub, ii_mul, ii_lt, ii_le, ii_eq] at c
        omega
      · rw [ii_2, ii_mul, ii_1, ii_add, ii_nat (by omega) (by omega), ii_nat (by omega) (by omega)]
        refine ⟨ii_in (by omega) (by omega) (by omega), ?_⟩
        intro μ2 e2
        refine ⟨ii_in (by omega) (by omega) (by omega), ?_⟩
        intro μ3 e3
        have h9 := walk n 0 μ3 (by omega) (fun c cc => by rw [e3, jm_st_nc _ _ _ cc, e2, jm_st_nc _ _ _ cc]; exact hk c cc) (fun k v hkv => by simp [earL] at hkv) (fun k _ k2 => ?_) (fun j hj => by rw [e3, jm_st_ni _ _ _ (by omega), e2, jm_st_ni _ _ _ (by omega)])
        · exact h9
        · rw [e3]
          by_cases c : k = 1
          · rw [c, show (2 * (e : Int) + 1).toNat = 2 * e + 1 by omega, jm_st_s]
            decide
          · rw [jm_st_ni _ _ _ (by omega), e2, show (2 * (e : Int)).toNat = 2 * e + k by omega, jm_st_s]
            decide
  refine sX9_findCandidates_0 hE _ ?_
  exact ears 4 0 1 μ (by omega) (Or.inl ⟨rfl, fun e' he' => by omega⟩) (fun e' he' => by omega) (fun _ _ => rfl)
end JM7
