section JSP
/-! what is found, as numbers -/
/-- a pulse that is looked at with p: of ear e, unused, in the window -/
def cdQ (f : Nat → Int) (win : Int) (own : Nat → Int) (p : Nat) (e : Int) (j : Nat) : Bool := decide (f j % 4 = e ∧ own j = -1 ∧ f p / 4 ≤ f j / 4 ∧ f j / 4 ≤ f p / 4 + win)
def near (n : Nat) (f : Nat → Int) (win : Int) (own : Nat → Int) (p : Nat) (e : Int) : List Nat := if e = f p % 4 then [p] else ((List.range n).filter (cdQ f win own p e)).take 2
theorem filt_succ (Q : Nat → Bool) (i : Nat) : ((List.range (i + 1)).filter Q).take 2 = if Q i = true ∧ (((List.range i).filter Q).take 2).length < 2 then ((List.range i).filter Q).take 2 ++ [i] else ((List.range i).filter Q).take 2 := by
  rw [List.range_succ, List.filter_append]
  generalize (List.range i).filter Q = L
  by_cases h : Q i = true
  · have e : List.filter Q [i] = [i] := by simp [h]
    rw [e, List.take_append]
    by_cases h2 : L.length < 2
    · rw [if_pos ⟨h, by simp; omega⟩]
      congr 1
      rw [show 2 - L.length = (1 - L.length) + 1 by omega]
      simp
    · rw [if_neg (by simp; omega)]
      simp
      omega
  · have e : List.filter Q [i] = [] := by simp [h]
    rw [e, if_neg (fun q => h q.1)]
    simp
theorem filt_same (Q : Nat → Bool) {i n : Nat} (h : i ≤ n) (hq : ∀ j : Nat, i ≤ j → j < n → Q j = false) : (List.range n).filter Q = (List.range i).filter Q := by
  induction n with
  | zero => rw [show i = 0 by omega]
  | succ n ih =>
    rcases Nat.lt_or_ge n i with c | c
    · rw [show i = n + 1 by omega]
    · rw [List.range_succ, List.filter_append, ih c (fun j h1 h2 => hq j h1 (by omega))]
      simp [hq n c (by omega)]
theorem near_in {n : Nat} {f : Nat → Int} {win : Int} {own : Nat → Int} {p : Nat} {e : Int} {j : Nat} (hp : p < n) (h : j ∈ near n f win own p e) : j < n ∧ f j % 4 = e ∧ (j = p ∨ own j = -1) := by
  unfold near at h
  split at h
  · next c =>
    have : j = p := by simpa using h
    subst this
    exact ⟨hp, c.symm, Or.inl rfl⟩
  · have h1 := List.mem_of_mem_take h
    obtain ⟨h2, h3⟩ := List.mem_filter.mp h1
    have h4 := of_decide_eq_true h3
    exact ⟨List.mem_range.mp h2, h4.1, Or.inr h4.2.1⟩
theorem near_len {n : Nat} {f : Nat → Int} {win : Int} {own : Nat → Int} {p : Nat} {e : Int} : (near n f win own p e).length ≤ 2 := by
  unfold near
  split
  · simp
  · simp; omega
/-- which of its two pulses a row takes of an ear -/
def bitC (c e : Nat) : Nat := c / 2 ^ (3 - e) % 2
theorem bitC_lt (c e : Nat) : bitC c e < 2 := Nat.mod_lt _ (by decide)
/-- the search's frame: pulses, window, slack, speed -/
abbrev sQ : Type := Nat × (Nat → Int) × Int × Int × Int
def rowOk (N : Int → List Nat) (c : Nat) : Prop := ∀ e : Nat, e < 4 → bitC c e < (N e).length
def rowB (N : Int → List Nat) (c : Nat) : Bool := decide (bitC c 0 < (N 0).length) && decide (bitC c 1 < (N 1).length) && decide (bitC c 2 < (N 2).length) && decide (bitC c 3 < (N 3).length)
theorem rowB_iff {N : Int → List Nat} {c : Nat} : rowB N c = true ↔ rowOk N c := by
  unfold rowB rowOk
  simp only [Bool.and_eq_true, decide_eq_true_eq]
  constructor
  · rintro ⟨⟨⟨h0, h1⟩, h2⟩, h3⟩ e he
    rcases (show e = 0 ∨ e = 1 ∨ e = 2 ∨ e = 3 by omega) with rfl | rfl | rfl | rfl
    · exact h0
    · exact h1
    · exact h2
    · exact h3
  · intro h
    exact ⟨⟨⟨h 0 (by omega), h 1 (by omega)⟩, h 2 (by omega)⟩, h 3 (by omega)⟩
def rowIx (N : Int → List Nat) (c e : Nat) : Nat := (N e).getD (bitC c e) 0
theorem rowIx_in {N : Int → List Nat} {c e : Nat} (h : bitC c e < (N e).length) : rowIx N c e ∈ N e := by
  unfold rowIx
  rw [List.getD_eq_getElem?_getD, List.getElem?_eq_getElem h]
  exact List.getElem_mem h
/-- the spread at a numbered point -/
def spP (sp : Int) (t : Nat → Int) (k : Nat) : Int := spr sp t ((k % 41 : Nat) : Int) ((k / 41 : Nat) : Int)
/-- the best of the points 0 to k -/
def bp (sp : Int) (t : Nat → Int) : Nat → Nat × Int
  | 0 => (0, spP sp t 0)
  | k + 1 => if spP sp t (k + 1) < (bp sp t k).2 then (k + 1, spP sp t (k + 1)) else bp sp t k
theorem bp_le {sp : Int} {t : Nat → Int} : ∀ k : Nat, (bp sp t k).1 ≤ k ∧ (bp sp t k).2 = spP sp t (bp sp t k).1 ∧ (∀ j : Nat, j ≤ k → (bp sp t k).2 ≤ spP sp t j) ∧ ∀ j : Nat, j < (bp sp t k).1 → (bp sp t k).2 < spP sp t j := by
  intro k
  induction k with
  | zero => exact ⟨Nat.le_refl _, rfl, fun j hj => by rw [show j = 0 by omega]; exact Int.le_refl _, fun j hj => absurd hj (Nat.not_lt_zero _)⟩
  | succ k ih =>
    obtain ⟨a, b, c, d⟩ := ih
    unfold bp
    by_cases h : spP sp t (k + 1) < (bp sp t k).2
    · rw [if_pos h]
      refine ⟨Nat.le_refl _, rfl, fun j hj => ?_, fun j hj => ?_⟩
      · rcases Nat.lt_or_ge j (k + 1) with h1 | h1
        · have := c j (by omega)
          show spP sp t (k + 1) ≤ _
          omega
        · rw [show j = k + 1 by omega]
          exact Int.le_refl _
      · have := c j (by have : j < k + 1 := hj; omega)
        show spP sp t (k + 1) < _
        omega
    · rw [if_neg h]
      refine ⟨by omega, b, fun j hj => ?_, d⟩
      rcases Nat.lt_or_ge j (k + 1) with h1 | h1
      · exact c j (by omega)
      · rw [show j = k + 1 by omega]
        omega
def bst (sp : Int) (t : Nat → Int) : Nat × Int := bp sp t 1680
theorem bst_best (sp : Int) (t : Nat → Int) : isBest sp t (bst sp t).2 (((bst sp t).1 % 41 : Nat) : Int) (((bst sp t).1 / 41 : Nat) : Int) := by
  obtain ⟨a, b, c, d⟩ := bp_le (sp := sp) (t := t) 1680
  unfold bst
  generalize bp sp t 1680 = B at *
  refine ⟨by unfold pt; omega, b, fun x y hp => ?_⟩
  unfold pt at hp
  have e1 : (((41 * y.toNat + x.toNat) % 41 : Nat) : Int) = x := by omega
  have e2 : (((41 * y.toNat + x.toNat) / 41 : Nat) : Int) = y := by omega
  have h1 := c (41 * y.toNat + x.toNat) (by omega)
  have e3 : spP sp t (41 * y.toNat + x.toNat) = spr sp t x y := by unfold spP; rw [e1, e2]
  rw [e3] at h1
  unfold Wn
  by_cases h2 : B.2 < spr sp t x y
  · exact Or.inl h2
  · refine Or.inr ⟨by omega, ?_⟩
    by_cases h3 : 41 * y.toNat + x.toNat < B.1
    · have h4 := d _ h3
      rw [e3] at h4
      omega
    · omega
/-- the row that is kept of the rows 0 to c - 1 -/
def kp (N : Int → List Nat) (S : Nat → Int) : Nat → Option Nat
  | 0 => none
  | c + 1 => if rowB N c = true ∧ (match kp N S c with | none => true | some b => decide (S c < S b)) = true then some c else kp N S c
/-- the same, if only rows within the slack count -/
def kpL (N : Int → List Nat) (S : Nat → Int) (slack : Int) : Nat → Option Nat
  | 0 => none
  | c + 1 => if rowB N c = true ∧ S c < (match kpL N S slack c with | none => slack + 1 | some b => S b) then some c else kpL N S slack c
theorem kp_lt {N : Int → List Nat} {S : Nat → Int} : ∀ {c b : Nat}, kp N S c = some b → b < c ∧ rowB N b = true := by
  intro c
  induction c with
  | zero => intro b h; simp [kp] at h
  | succ c ih =>
    intro b h
    rw [kp] at h
    by_cases hc : rowB N c = true ∧ (match kp N S c with | none => true | some b => decide (S c < S b)) = true
    · rw [if_pos hc] at h
      have e : c = b := by simpa using h
      subst e
      exact ⟨Nat.lt_succ_self _, hc.1⟩
    · rw [if_neg hc] at h
      have := ih h
      exact ⟨by omega, this.2⟩
theorem kpL_kp {N : Int → List Nat} {S : Nat → Int} {slack : Int} : ∀ c : Nat, kpL N S slack c = match kp N S c with | none => none | some b => if S b ≤ slack then some b else none := by
  intro c
  induction c with
  | zero => rfl
  | succ c ih =>
    unfold kpL kp
    rw [ih]
    cases hk : kp N S c with
    | none =>
      simp only
      by_cases h1 : rowB N c = true
      · by_cases h2 : S c ≤ slack
        · simp [h1, h2]; omega
        · simp [h1, h2]; omega
      · simp [h1]
    | some b =>
      simp only
      by_cases h1 : rowB N c = true
      · by_cases h2 : S b ≤ slack
        · simp only [h2, if_true]
          by_cases h3 : S c < S b
          · simp [h1, h3]
            omega
          · simp [h1, h3, h2]
        · simp only [h2, if_false]
          by_cases h3 : S c < S b
          · simp [h1, h3]
            by_cases h4 : S c < slack + 1
            · simp [h4]; omega
            · simp [h4]; omega
          · have h9 : ¬ S c < slack + 1 := by omega
            simp [h1, h3, h2, h9]
      · simp [h1]
end JSP
