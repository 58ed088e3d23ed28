section JPA
variable {g : jm_G} {ad : Nat → Nat} {P : Option Value → (Nat → Nat → Int32) → Prop}
/-- one sign of a text: state (0 an ear, 1 a colon, 2 a time, 3 within a time), ear, time; what it makes -/
def pstep (s : Int × Int × Int) (c : Int) : Option ((Int × Int × Int) × List Int) :=
  if s.1 = 0 then (if 0 ≤ c - 48 ∧ c - 48 < 4 then some ((1, c - 48, s.2.2), []) else none)
  else if s.1 = 1 then (if c = 58 then some ((2, s.2.1, s.2.2), []) else none)
  else if s.1 = 2 then (if 0 ≤ c - 48 ∧ c - 48 ≤ 9 then some ((3, s.2.1, c - 48), []) else none)
  else if c = 59 then some ((0, s.2.1, s.2.2), [s.2.2 * 4 + s.2.1])
  else if (0 ≤ c - 48 ∧ c - 48 ≤ 9) ∧ s.2.2 ≠ 0 ∧ s.2.2 * 10 + (c - 48) ≤ 99999 then some ((3, s.2.1, s.2.2 * 10 + (c - 48)), []) else none
theorem pstep0 (er tm c : Int) : pstep (0, er, tm) c = if 0 ≤ c - 48 ∧ c - 48 < 4 then some ((1, c - 48, tm), []) else none := by
  unfold pstep
  rw [if_pos (show (0 : Int) = 0 from rfl)]
theorem pstep1 (er tm c : Int) : pstep (1, er, tm) c = if c = 58 then some ((2, er, tm), []) else none := by
  unfold pstep
  rw [if_neg (show ¬ (1 : Int) = 0 by decide), if_pos (show (1 : Int) = 1 from rfl)]
theorem pstep2 (er tm c : Int) : pstep (2, er, tm) c = if 0 ≤ c - 48 ∧ c - 48 ≤ 9 then some ((3, er, c - 48), []) else none := by
  unfold pstep
  rw [if_neg (show ¬ (2 : Int) = 0 by decide), if_neg (show ¬ (2 : Int) = 1 by decide), if_pos (show (2 : Int) = 2 from rfl)]
theorem pstep3 (er tm c : Int) : pstep (3, er, tm) c = if c = 59 then some ((0, er, tm), [tm * 4 + er]) else if (0 ≤ c - 48 ∧ c - 48 ≤ 9) ∧ tm ≠ 0 ∧ tm * 10 + (c - 48) ≤ 99999 then some ((3, er, tm * 10 + (c - 48)), []) else none := by
  unfold pstep
  rw [if_neg (show ¬ (3 : Int) = 0 by decide), if_neg (show ¬ (3 : Int) = 1 by decide), if_neg (show ¬ (3 : Int) = 2 by decide)]
/-- a text read on from place i: its fault (-6: none), its pulses -/
def prun : Nat → List Int → Int × Int × Int → Int × List Int
  | i, [], s => if s.1 = 3 then (-6, [s.2.2 * 4 + s.2.1]) else (i, [])
  | i, c :: cs, s => match pstep s c with
    | none => (i, [])
    | some (s', out) => ((prun (i + 1) cs s').1, out ++ (prun (i + 1) cs s').2)
def pfault (pad : List Int) : Int × List Int := prun 0 pad (0, 0, 0)
/-- the reader's registers -/
def pReg (μ : Nat → Nat → Int32) (s : Int × Int × Int) (A : List Int) : Prop := (0 ≤ s.1 ∧ s.1 ≤ 3) ∧ (1 ≤ s.1 → μ 26 4 = ii s.2.1 ∧ 0 ≤ s.2.1 ∧ s.2.1 < 4) ∧ (s.1 = 3 → μ 26 5 = ii s.2.2 ∧ 0 ≤ s.2.2 ∧ s.2.2 ≤ 99999) ∧ μ 26 3 = ii A.length ∧ (∀ (k : Nat) (m : Int), A[k]? = some m → μ 28 k = ii m ∧ 0 ≤ m ∧ m ≤ 399999)
theorem c_X5_note {μ : Nat → Nat → Int32} {s : Int × Int × Int} {A : List Int} (hR : pReg μ s A) (h3 : s.1 = 3) (hA : A.length < 20) (hp : ∀ μ' : Nat → Nat → Int32, (∀ e t : Int, pReg μ' (0, e, t) (A ++ [s.2.2 * 4 + s.2.1])) → μ' 26 2 = μ 26 2 → (∀ c : Nat, c ≠ 26 → c ≠ 28 → μ' c = μ c) → P none μ') : jD g ad m_X5_note [.ref 26] μ P := by
  refine jd_intro [some (.ref 26)] (by decide) rfl rfl (fun κ hE => ?_)
  obtain ⟨a0, a1, a2, a3, a4⟩ := hR
  obtain ⟨b1, b2, b3⟩ := a1 (by omega)
  obtain ⟨d1, d2, d3⟩ := a2 h3
  refine sX5_note_0 hE ⟨fun c => ?_, fun _ => ?_⟩
  · rw [a3] at c
    simp (disch := omega) only [ii_lit, ii_neg, ii_add, ii_sub, ii_mul, ii_lt, ii_le, ii_eq] at c
    omega
  · rw [a3, b1, d1]
    refine c_X8_markOf (sX5_note_31 hE _ _ ⟨ii_in (by omega) (by omega) (by omega), ?_⟩)
    intro μ1 e1 μ2 e2
    rw [ii_natN (by omega)] at e1
    have x3 : μ1 26 3 = ii A.length := by rw [e1, jm_st_nc _ _ _ (by decide)]; exact a3
    rw [x3] at e2
    refine hp μ2 (fun e t => ⟨⟨by show (0 : Int) ≤ 0; omega, by show (0 : Int) ≤ 3; omega⟩, fun c => ?_, fun c => ?_, ?_, fun k m hk => ?_⟩) (by rw [e2, jm_st_ni _ _ _ (by decide), e1, jm_st_nc _ _ _ (by decide)]) (fun c c1 c2 => by rw [e2, jm_st_nc _ _ _ c1, e1, jm_st_nc _ _ _ c2])
    · have c : (1 : Int) ≤ 0 := c
      omega
    · have c : (0 : Int) = 3 := c
      omega
    · rw [e2, jm_st_s]
      simp (disch := omega) only [ii_lit, ii_neg, ii_add, ii_sub, ii_mul, ii_lt, ii_le, ii_eq]
      simp
    · rw [e2, jm_st_nc _ _ _ (by decide), e1]
      by_cases hk2 : k < A.length
      · rw [List.getElem?_append_left hk2] at hk
        rw [jm_st_ni _ _ _ (by omega)]
        exact a4 k m hk
      · rw [List.getElem?_append_right (by omega)] at hk
        have hz : k - A.length < 1 := (List.getElem?_eq_some_iff.mp hk).1
        rw [show k - A.length = 0 by omega] at hk
        have hv : s.2.2 * 4 + s.2.1 = m := by simpa using hk
        subst hv
        rw [show k = A.length by omega, jm_st_s]
        exact ⟨rfl, by omega, by omega⟩
theorem c_X5_step {μ : Nat → Nat → Int32} {s : Int × Int × Int} {A : List Int} {c : Int} (hR : pReg μ s A) (hc : 33 ≤ c ∧ c ≤ 126) (hA : s.1 = 3 → A.length < 20)
    (h0 : ∀ μ' : Nat → Nat → Int32, pstep s c = none → μ' 26 2 = μ 26 2 → (∀ k : Nat, k ≠ 26 → k ≠ 28 → μ' k = μ k) → P (some (.int 4)) μ')
    (h1 : ∀ (μ' : Nat → Nat → Int32) (s' : Int × Int × Int) (out : List Int), pstep s c = some (s', out) → pReg μ' s' (A ++ out) → μ' 26 2 = μ 26 2 → (∀ k : Nat, k ≠ 26 → k ≠ 28 → μ' k = μ k) → P (some (.int (ii s'.1))) μ') : jD g ad m_X5_step [.ref 26, .int (ii s.1), .int (ii c)] μ P := by
  refine jd_intro [some (.ref 26), some (.int (ii s.1)), some (.int (ii c)), none, none] (by decide) rfl rfl (fun κ hE => ?_)
  have hR9 := hR
  obtain ⟨a0, a1, a2, a3, a4⟩ := hR
  obtain ⟨st, er, tm⟩ := s
  dsimp only at a0 a1 a2 h0 h1 hA hR9 ⊢
  have e4 : (1 : Int32) = ii 1 := by decide
  have keep : ∀ (j : Nat) (x : Int32) (μ1 : Nat → Nat → Int32), j ≠ 2 → μ1 = jm_st μ 26 j x → μ1 26 2 = μ 26 2 ∧ ∀ k : Nat, k ≠ 26 → k ≠ 28 → μ1 k = μ k := fun j x μ1 hj e => ⟨by rw [e, jm_st_ni _ _ _ (fun q => hj q.symm)], fun k k1 _ => by rw [e, jm_st_nc _ _ _ k1]⟩
  -- each state, with the answer whether the sign is a digit
  have inner : ∀ z : Int32, ((z = 0 ∧ ¬ (0 ≤ c - 48 ∧ c - 48 ≤ 9)) ∨ (z = 1 ∧ 0 ≤ c - 48 ∧ c - 48 ≤ 9)) → (((ii st).toInt < 0 ∨ 2 < (ii st).toInt →
      ((¬ ii c = 59 → ((z = 0 → P (some (.int (4 : Int32))) μ) ∧ (¬ z = 0 → ((¬ μ 26 5 = 0 → (∀ μ1 : Nat → Nat → Int32, μ1 = jm_st μ 26 5 ((μ 26 5) * 10 + (ii c - 48)) → (((99999 : Int32) < μ1 26 5 → P (some (.int (4 : Int32))) μ1) ∧ (¬ (99999 : Int32) < μ1 26 5 → P (some (.int (3 : Int32))) μ1)))) ∧ (μ 26 5 = 0 → P (some (.int (4 : Int32))) μ))))) ∧
      (ii c = 59 → jD g ad m_X5_note [.ref 26] μ (fun v μ' => jS g ad m_X5_step κ 104 [none, none, none, none, none] (jm_ps v []) μ')))) ∧
      ((ii st).toInt = 0 → (∀ μ2 : Nat → Nat → Int32, μ2 = jm_st μ 26 4 (ii c - 48) → jD g ad m_X8_isEar [.int (ii c - 48)] μ2 (fun v μ' => jS g ad m_X5_step κ 57 [none, none, none, none, none] (jm_ps v []) μ'))) ∧
      ((ii st).toInt = 1 → ((¬ ii c = 58 → P (some (.int (4 : Int32))) μ) ∧ (ii c = 58 → P (some (.int (2 : Int32))) μ))) ∧
      ((ii st).toInt = 2 → (∀ μ3 : Nat → Nat → Int32, μ3 = jm_st μ 26 5 (ii c - 48) → ((z = 0 → P (some (.int (4 : Int32))) μ3) ∧ (¬ z = 0 → P (some (.int (3 : Int32))) μ3))))) := by
    intro z hz
    have e48 : ii c - 48 = ii (c - 48) := by simp (disch := omega) only [ii_lit, ii_neg, ii_add, ii_sub, ii_mul, ii_lt, ii_le, ii_eq]
    have z0 : z = 0 ↔ ¬ (0 ≤ c - 48 ∧ c - 48 ≤ 9) := by
      rcases hz with ⟨rfl, q⟩ | ⟨rfl, q⟩
      · exact ⟨fun _ => q, fun _ => rfl⟩
      · exact ⟨fun r => absurd r (by decide), fun r => absurd q r⟩
    rw [e48, ii_toInt (by omega) (by omega)]
    refine ⟨fun c1 => ⟨fun c2 => ⟨fun c3 => ?_, fun c3 => ⟨fun c4 => ?_, fun c4 => ?_⟩⟩, fun c2 => ?_⟩, fun c1 => ?_, fun c1 => ⟨fun c2 => ?_, fun c2 => ?_⟩, fun c1 => ?_⟩
    · have st3 : st = 3 := by omega
      subst st3
      rw [ii_lit, ii_eq (by omega) (by omega)] at c2
      rw [z0] at c3
      refine h0 μ ?_ rfl (fun _ _ _ => rfl)
      rw [pstep3, if_neg c2, if_neg (fun q => c3 q.1)]
    · have st3 : st = 3 := by omega
      subst st3
      rw [ii_lit, ii_eq (by omega) (by omega)] at c2
      rw [z0] at c3
      obtain ⟨d1, d2, d3⟩ := a2 rfl
      obtain ⟨b1, b2, b3⟩ := a1 (by omega)
      rw [d1, ii_0, ii_eq (by omega) (by omega)] at c4
      intro μ1 e1
      rw [d1, ii_lit 10, ii_mul, ii_add] at e1
      have x5 : μ1 26 5 = ii (tm * 10 + (c - 48)) := by rw [e1, jm_st_s]
      obtain ⟨k1, k2⟩ := keep 5 _ μ1 (by decide) e1
      have hdig : 0 ≤ c - 48 ∧ c - 48 ≤ 9 := by omega
      rw [x5, ii_lit, ii_lt (by decide) (by omega)]
      refine ⟨fun c5 => ?_, fun c5 => ?_⟩
      · refine h0 μ1 ?_ k1 k2
        rw [pstep3, if_neg c2, if_neg (fun q => by have h8 := q.2.2; have h8 : tm * 10 + (c - 48) ≤ 99999 := h8; have c5 : (99999 : Int) < tm * 10 + (c - 48) := c5; omega)]
      · have c5 : ¬ (99999 : Int) < tm * 10 + (c - 48) := c5
        refine h1 μ1 (3, er, tm * 10 + (c - 48)) [] ?_ ⟨(by decide : (0 : Int) ≤ 3 ∧ (3 : Int) ≤ 3), fun _ => ⟨by rw [e1, jm_st_ni _ _ _ (by decide)]; exact b1, b2, b3⟩, fun _ => ⟨x5, by show 0 ≤ tm * 10 + (c - 48); omega, by show tm * 10 + (c - 48) ≤ 99999; omega⟩, by rw [e1, jm_st_ni _ _ _ (by decide), List.append_nil]; exact a3, fun k m hk => by rw [e1, jm_st_nc _ _ _ (by decide)]; rw [List.append_nil] at hk; exact a4 k m hk⟩ k1 k2
        rw [pstep3, if_neg c2, if_pos ⟨hdig, c4, by show tm * 10 + (c - 48) ≤ 99999; omega⟩]
    · have st3 : st = 3 := by omega
      subst st3
      rw [ii_lit, ii_eq (by omega) (by omega)] at c2
      obtain ⟨d1, d2, d3⟩ := a2 rfl
      rw [d1, ii_0, ii_eq (by omega) (by omega)] at c4
      refine h0 μ ?_ rfl (fun _ _ _ => rfl)
      rw [pstep3, if_neg c2, if_neg (fun q => q.2.1 c4)]
    · have st3 : st = 3 := by omega
      subst st3
      rw [ii_lit, ii_eq (by omega) (by omega)] at c2
      have c2 : c = 59 := c2
      refine c_X5_note hR9 rfl (hA rfl) (fun μ1 r1 k1 k2 => sX5_step_104 hE ?_)
      refine h1 μ1 (0, er, tm) [tm * 4 + er] ?_ (r1 er tm) k1 k2
      rw [pstep3, if_pos c2]
    · subst c1
      intro μ2 e2
      obtain ⟨k1, k2⟩ := keep 4 _ μ2 (by decide) e2
      refine c_X8_isEar (by omega) (fun q1 q2 => sX5_step_57 hE _ ⟨fun q => absurd q (by decide), fun _ => ?_⟩) (fun q => sX5_step_57 hE _ ⟨fun _ => ?_, fun q2 => absurd rfl q2⟩)
      · refine h1 μ2 (1, c - 48, tm) [] ?_ ⟨(by decide : (0 : Int) ≤ 1 ∧ (1 : Int) ≤ 3), fun _ => ⟨by rw [e2, jm_st_s], q1, q2⟩, fun q => absurd q (show ¬ (1 : Int) = 3 by decide), by rw [e2, jm_st_ni _ _ _ (by decide), List.append_nil]; exact a3, fun k m hk => by rw [e2, jm_st_nc _ _ _ (by decide)]; rw [List.append_nil] at hk; exact a4 k m hk⟩ k1 k2
        rw [pstep0, if_pos ⟨q1, q2⟩]
      · refine h0 μ2 ?_ k1 k2
        rw [pstep0, if_neg q]
    · subst c1
      rw [ii_lit, ii_eq (by omega) (by omega)] at c2
      refine h0 μ ?_ rfl (fun _ _ _ => rfl)
      rw [pstep1, if_neg c2]
    · subst c1
      rw [ii_lit, ii_eq (by omega) (by omega)] at c2
      have c2 : c = 58 := c2
      refine h1 μ (2, er, tm) [] ?_ ⟨(by decide : (0 : Int) ≤ 2 ∧ (2 : Int) ≤ 3), fun _ => a1 (by omega), fun q => absurd q (show ¬ (2 : Int) = 3 by decide), by rw [List.append_nil]; exact a3, fun k m hk => by rw [List.append_nil] at hk; exact a4 k m hk⟩ rfl (fun _ _ _ => rfl)
      rw [pstep1, if_pos c2]
    · subst c1
      intro μ3 e3
      obtain ⟨k1, k2⟩ := keep 5 _ μ3 (by decide) e3
      obtain ⟨b1, b2, b3⟩ := a1 (by omega)
      refine ⟨fun c3 => ?_, fun c3 => ?_⟩
      · rw [z0] at c3
        refine h0 μ3 ?_ k1 k2
        rw [pstep2, if_neg c3]
      · rw [z0] at c3
        have hdig : 0 ≤ c - 48 ∧ c - 48 ≤ 9 := by omega
        refine h1 μ3 (3, er, c - 48) [] ?_ ⟨(by decide : (0 : Int) ≤ 3 ∧ (3 : Int) ≤ 3), fun _ => ⟨by rw [e3, jm_st_ni _ _ _ (by decide)]; exact b1, b2, b3⟩, fun _ => ⟨by rw [e3, jm_st_s], hdig.1, by show c - 48 ≤ 99999; omega⟩, by rw [e3, jm_st_ni _ _ _ (by decide), List.append_nil]; exact a3, fun k m hk => by rw [e3, jm_st_nc _ _ _ (by decide)]; rw [List.append_nil] at hk; exact a4 k m hk⟩ k1 k2
        rw [pstep2, if_pos hdig]
  have e48 : ii c - 48 = ii (c - 48) := by simp (disch := omega) only [ii_lit, ii_neg, ii_add, ii_sub, ii_mul, ii_lt, ii_le, ii_eq]
  refine sX5_step_0 hE _ _ ⟨fun c1 => inner 0 (Or.inl ⟨rfl, ?_⟩), fun c1 => ⟨fun c2 => inner 0 (Or.inl ⟨rfl, ?_⟩), fun c2 => inner 1 (Or.inr ⟨rfl, ?_⟩)⟩⟩
  · rw [e48, ii_0, ii_lt (by omega) (by omega)] at c1
    omega
  · rw [e48, ii_lit, ii_lt (by decide) (by omega)] at c2
    have c2 : (9 : Int) < c - 48 := c2
    omega
  · rw [e48, ii_0, ii_lt (by omega) (by omega)] at c1
    rw [e48, ii_lit, ii_lt (by decide) (by omega)] at c2
    have c2 : ¬ (9 : Int) < c - 48 := c2
    omega
end JPA
