section JRD
variable {g : jm_G} {ad : Nat → Nat} {P : Option Value → (Nat → Nat → Int32) → Prop}
/-! a long's bytes -/
def bx (x : Int64) : Nat := x.toUInt64.toNat
theorem bx_inj {x y : Int64} (h : bx x = bx y) : x = y := congrArg UInt64.toInt64 (UInt64.toNat_inj.mp h)
theorem bx_lt (x : Int64) : bx x < 18446744073709551616 := x.toUInt64.toNat_lt
theorem bx_low (x : Int64) : (x &&& (255 : Int64)) = Int64.ofNat (bx x % 256) := by
  apply bx_inj
  show (x.toUInt64 &&& Int64.toUInt64 255).toNat = _
  rw [UInt64.toNat_and]
  have e : (Int64.toUInt64 255).toNat = 2 ^ 8 - 1 := by decide
  rw [e, Nat.and_two_pow_sub_one_eq_mod]
  have h : bx (Int64.ofNat (bx x % 256)) = bx x % 256 % 2 ^ 64 := rfl
  rw [h, Nat.mod_eq_of_lt (a := bx x % 256) (by omega)]
  rfl
theorem bx_z {x : Int64} : lg_cmp x (0 : Int64) = 0 ↔ bx x = 0 := by
  unfold lg_cmp
  constructor
  · intro h
    by_cases c : x > 0
    · rw [if_pos c] at h; exact absurd h (by decide)
    · rw [if_neg c] at h
      by_cases c2 : x = 0
      · rw [c2]; rfl
      · rw [if_neg c2] at h; exact absurd h (by decide)
  · intro h
    have e : x = 0 := bx_inj (h.trans rfl)
    rw [e]
    decide
theorem bx_shr (x : Int64) (s : UInt64) : bx (x.toUInt64 >>> s).toInt64 = bx x / 2 ^ (s.toNat % 64) := by
  show (x.toUInt64 >>> s).toNat = _
  rw [UInt64.toNat_shiftRight, Nat.shiftRight_eq_div_pow]
  rfl
theorem bx_s8 (x : Int64) : bx (x.toUInt64 >>> ((8 : Int32).toInt64.toUInt64 &&& Int64.toUInt64 63)).toInt64 = bx x / 256 := by
  have h : ((8 : Int32).toInt64.toUInt64 &&& Int64.toUInt64 63).toNat % 64 = 8 := by decide
  rw [bx_shr, h]
theorem sh_8k : ∀ k : Nat, k < 8 → (((8 : Int32) * ii (k : Int)).toInt64.toUInt64 &&& Int64.toUInt64 63).toNat % 64 = 8 * k := by decide +kernel
theorem bx_sk (x : Int64) {k : Nat} (hk : k < 8) : bx (x.toUInt64 >>> (((8 : Int32) * ii (k : Int)).toInt64.toUInt64 &&& Int64.toUInt64 63)).toInt64 = bx x / 256 ^ k := by
  rw [bx_shr, sh_8k k hk, Nat.pow_mul]
theorem by_z : ∀ k : Nat, k < 256 → (lg_cmp (Int64.ofNat k) (0 : Int64) = 0 ↔ k = 0) := by decide +kernel
theorem by_33 : ∀ k : Nat, k < 256 → (lg_cmp (Int64.ofNat k) (33 : Int64) < 0 ↔ k < 33) := by decide +kernel
theorem by_126 : ∀ k : Nat, k < 256 → (lg_cmp (Int64.ofNat k) (126 : Int64) ≤ 0 ↔ k ≤ 126) := by decide +kernel
theorem by_i : ∀ k : Nat, k < 256 → (Int64.ofNat k).toInt32 = ii (k : Int) := by decide +kernel
theorem by_c : ∀ k : Nat, k < 256 → ((Int64.ofNat k).toInt32.toUInt32 % 65536).toInt32 = ii (k : Int) := by decide +kernel
theorem ch_k : ∀ k : Nat, k < 256 → vp_nar .char (ii (k : Int)) = ii (k : Int) := by
  have h : ∀ k : Nat, k < 256 → (ii (k : Int)).toUInt32.toUInt16.toUInt32.toInt32 = ii (k : Int) := by decide +kernel
  intro k hk
  rw [vp_nar_char]
  exact h k hk
/-- how many signs a number holds: none if it holds no text -/
def scanB : Nat → Nat → Nat → Option Nat
  | 0, X, n => if X = 0 ∧ n ≠ 0 then some n else none
  | k + 1, X, n => if X % 256 = 0 then (if X = 0 ∧ n ≠ 0 then some n else none) else if 33 ≤ X % 256 ∧ X % 256 ≤ 126 then scanB k (X / 256) (n + 1) else none
theorem scanB_le : ∀ {k X n m : Nat}, scanB k X n = some m → n ≤ m ∧ m ≤ n + k ∧ 0 < m ∧ ∀ j : Nat, j < m - n → 33 ≤ X / 256 ^ j % 256 ∧ X / 256 ^ j % 256 ≤ 126 := by
  intro k
  induction k with
  | zero =>
    intro X n m h
    unfold scanB at h
    by_cases c : X = 0 ∧ n ≠ 0
    · rw [if_pos c] at h
      have e : n = m := by simpa using h
      exact ⟨by omega, by omega, by omega, fun j hj => by omega⟩
    · rw [if_neg c] at h; cases h
  | succ k ih =>
    intro X n m h
    unfold scanB at h
    by_cases c : X % 256 = 0
    · rw [if_pos c] at h
      by_cases c2 : X = 0 ∧ n ≠ 0
      · rw [if_pos c2] at h
        have e : n = m := by simpa using h
        exact ⟨by omega, by omega, by omega, fun j hj => by omega⟩
      · rw [if_neg c2] at h; cases h
    · rw [if_neg c] at h
      by_cases c2 : 33 ≤ X % 256 ∧ X % 256 ≤ 126
      · rw [if_pos c2] at h
        obtain ⟨a, b, d, e⟩ := ih h
        refine ⟨by omega, by omega, d, fun j hj => ?_⟩
        cases j with
        | zero => simpa using c2
        | succ j =>
          have h9 := e j (by omega)
          rw [Nat.div_div_eq_div_mul] at h9
          rw [Nat.pow_succ, Nat.mul_comm]
          exact h9
      · rw [if_neg c2] at h; cases h
/-- the signs of a number, the highest of the first k bytes ahead -/
def bytesL (X : Nat) : Nat → List Int
  | 0 => []
  | k + 1 => ((X / 256 ^ k % 256 : Nat) : Int) :: bytesL X k
theorem bytesL_len (X : Nat) : ∀ k : Nat, (bytesL X k).length = k := by
  intro k
  induction k with
  | zero => rfl
  | succ k ih => show (bytesL X k).length + 1 = k + 1; rw [ih]
def opPut (σ : sT) (X : Nat) : Int × sT := match scanB 8 X 0 with
  | none => (-2, σ)
  | some n => if 80 < σ.2.2.2.length + n then (-4, σ) else ((σ.2.2.2.length + n : Nat), (σ.1, σ.2.1, σ.2.2.1, σ.2.2.2 ++ bytesL X n))
def opFault (σ : sT) : Int := (pfault σ.2.2.2).1
/-- the marks that come, one after the other, until one is refused -/
def hearM : sH → List Int → sH × Nat
  | h, [] => (h, 0)
  | h, m :: ms => if whyM h m = 0 then ((hearM (insH h m) ms).1, (hearM (insH h m) ms).2 + 1) else (h, 0)
def opHearAll (σ : sT) : Int × sT := if (pfault σ.2.2.2).1 = -6 then (((hearM σ.1 (pfault σ.2.2.2).2).2 : Nat), ((hearM σ.1 (pfault σ.2.2.2).2).1, pushH σ.2.1 σ.1, σ.2.2.1, [])) else (-3, σ)
theorem c_X5_append {μ : Nat → Nat → Int32} {pad : List Int} {c : Nat} (hP : pdR μ pad) (hl : pad.length < 80) (hc : 33 ≤ c ∧ c ≤ 126) (hp : ∀ μ' : Nat → Nat → Int32, pdR μ' (pad ++ [(c : Int)]) → (∀ k : Nat, k ≠ 26 → k ≠ 27 → μ' k = μ k) → P none μ') : jD g ad m_X5_append [.ref 26, .int (ii (c : Int))] μ P := by
  refine jd_intro [some (.ref 26), some (.int (ii (c : Int)))] (by decide) rfl rfl (fun κ hE => ?_)
  obtain ⟨a1, a2, a3⟩ := hP
  refine sX5_append_0 hE _ ⟨fun c1 => ?_, fun _ => ?_⟩
  · rw [a1] at c1
    simp (disch := omega) only [ii_lit, ii_neg, ii_add, ii_sub, ii_mul, ii_lt, ii_le, ii_eq] at c1
    omega
  · rw [a1]
    refine ⟨ii_in (by omega) (by omega) (by omega), ?_⟩
    intro μ1 e1 μ2 e2
    rw [ii_natN (by omega), ch_k c (by omega)] at e1
    have x2 : μ1 26 2 = ii pad.length := by rw [e1, jm_st_nc _ _ _ (by decide)]; exact a1
    rw [x2] at e2
    have hll : (pad ++ [(c : Int)]).length = pad.length + 1 := by simp
    refine hp μ2 ⟨?_, by omega, fun k d hk => ?_⟩ (fun k k1 k2 => by rw [e2, jm_st_nc _ _ _ k1, e1, jm_st_nc _ _ _ k2])
    · rw [e2, jm_st_s, hll]
      simp (disch := omega) only [ii_lit, ii_neg, ii_add, ii_sub, ii_mul, ii_lt, ii_le, ii_eq]
      rfl
    · rw [e2, jm_st_nc _ _ _ (by decide), e1]
      by_cases hk2 : k < pad.length
      · rw [List.getElem?_append_left hk2] at hk
        rw [jm_st_ni _ _ _ (by omega)]
        exact a3 k d hk
      · rw [List.getElem?_append_right (by omega)] at hk
        have hz : k - pad.length < 1 := (List.getElem?_eq_some_iff.mp hk).1
        rw [show k - pad.length = 0 by omega] at hk
        have hv : (c : Int) = d := by simpa using hk
        subst hv
        rw [show k = pad.length by omega, jm_st_s]
        exact ⟨rfl, by omega, by omega⟩
theorem pstep_len {s s' : Int × Int × Int} {c : Int} {out : List Int} (h : pstep s c = some (s', out)) (h0 : 0 ≤ s.1 ∧ s.1 ≤ 3) : 4 * (out.length : Int) + s'.1 ≤ s.1 + 1 ∧ 0 ≤ s'.1 ∧ s'.1 ≤ 3 := by
  unfold pstep at h
  by_cases c0 : s.1 = 0
  · rw [if_pos c0] at h
    split at h
    · have e := Option.some.inj h
      have e1 : (1 : Int) = s'.1 := congrArg (fun q => q.1.1) e
      have e2 : ([] : List Int) = out := congrArg (fun q => q.2) e
      rw [← e2, ← e1]
      simp
      omega
    · cases h
  · rw [if_neg c0] at h
    by_cases c1 : s.1 = 1
    · rw [if_pos c1] at h
      split at h
      · have e := Option.some.inj h
        have e1 : (2 : Int) = s'.1 := congrArg (fun q => q.1.1) e
        have e2 : ([] : List Int) = out := congrArg (fun q => q.2) e
        rw [← e2, ← e1]
        simp
        omega
      · cases h
    · rw [if_neg c1] at h
      by_cases c2 : s.1 = 2
      · rw [if_pos c2] at h
        split at h
        · have e := Option.some.inj h
          have e1 : (3 : Int) = s'.1 := congrArg (fun q => q.1.1) e
          have e2 : ([] : List Int) = out := congrArg (fun q => q.2) e
          rw [← e2, ← e1]
          simp
          omega
        · cases h
      · rw [if_neg c2] at h
        by_cases c3 : c = 59
        · rw [if_pos c3] at h
          have e := Option.some.inj h
          have e1 : (0 : Int) = s'.1 := congrArg (fun q => q.1.1) e
          have e2 : ([s.2.2 * 4 + s.2.1] : List Int) = out := congrArg (fun q => q.2) e
          rw [← e2, ← e1]
          simp
          omega
        · rw [if_neg c3] at h
          split at h
          · have e := Option.some.inj h
            have e1 : (3 : Int) = s'.1 := congrArg (fun q => q.1.1) e
            have e2 : ([] : List Int) = out := congrArg (fun q => q.2) e
            rw [← e2, ← e1]
            simp
            omega
          · cases h
/-- the marks that were read -/
def mkR (μ : Nat → Nat → Int32) (A : List Int) : Prop := μ 26 3 = ii A.length ∧ A.length ≤ 20 ∧ ∀ (k : Nat) (m : Int), A[k]? = some m → μ 28 k = ii m ∧ 0 ≤ m ∧ m ≤ 399999
theorem c_X5_read {μ : Nat → Nat → Int32} {pad : List Int} (hP : pdR μ pad) (hp : ∀ μ' : Nat → Nat → Int32, pdR μ' pad → ((pfault pad).1 = -6 → mkR μ' (pfault pad).2) → (∀ k : Nat, k ≠ 26 → k ≠ 28 → μ' k = μ k) → P (some (.int (ii (pfault pad).1))) μ') : jD g ad m_X5_read [.ref 26] μ P := by
  refine jd_intro [some (.ref 26), none, none] (by decide) rfl rfl (fun κ hE => ?_)
  obtain ⟨a1, a2, a3⟩ := hP
  have key : ∀ (cs : List Int) (i : Nat) (s : Int × Int × Int) (A : List Int) (μ1 : Nat → Nat → Int32), pad.drop i = cs → i ≤ pad.length → pReg μ1 s A → 4 * (A.length : Int) + s.1 ≤ i → (prun i cs s).1 = (pfault pad).1 → ((prun i cs s).1 = -6 → A ++ (prun i cs s).2 = (pfault pad).2) → μ1 26 2 = μ 26 2 → (∀ k : Nat, k ≠ 26 → k ≠ 28 → μ1 k = μ k) → jS g ad m_X5_read κ 9 [some (.ref 26), some (.int (ii s.1)), some (.int (ii i))] [] μ1 := by
    intro cs
    induction cs with
    | nil =>
      intro i s A μ1 hd hi hR hlen hf hf2 k1 k2
      have hil : i = pad.length := by
        have h1 := congrArg List.length hd
        rw [List.length_drop] at h1
        have h2 : pad.length - i = 0 := h1
        omega
      have hs0 := hR.1
      refine sX5_read_9 hE _ _ ⟨fun _ => ⟨fun c => ?_, fun c => ?_⟩, fun c => ?_⟩
      · rw [ii_3, ii_eq (by omega) (by omega)] at c
        have er : prun i [] s = (-6, [s.2.2 * 4 + s.2.1]) := by unfold prun; rw [if_pos c]
        rw [er] at hf hf2
        have hf2 := hf2 rfl
        refine c_X5_note hR c (by omega) (fun μ2 r1 k3 k4 => sX5_read_56 hE ?_)
        rw [e_m6]
        have hf : (-6 : Int) = (pfault pad).1 := hf
        rw [hf]
        refine hp μ2 ⟨by rw [k3, k1]; exact a1, a2, fun k c hk => by rw [k4 27 (by decide) (by decide), k2 27 (by decide) (by decide)]; exact a3 k c hk⟩ (fun _ => ?_) (fun k c1 c2 => by rw [k4 k c1 c2]; exact k2 k c1 c2)
        obtain ⟨_, _, _, w1, w2⟩ := r1 0 0
        rw [← hf2]
        have hll : (A ++ [s.2.2 * 4 + s.2.1]).length = A.length + 1 := by simp
        exact ⟨w1, by show (A ++ [s.2.2 * 4 + s.2.1]).length ≤ 20; omega, w2⟩
      · rw [ii_3, ii_eq (by omega) (by omega)] at c
        have er : prun i [] s = ((i : Int), []) := by unfold prun; rw [if_neg c]
        rw [er] at hf
        have hf : (i : Int) = (pfault pad).1 := hf
        rw [k1, a1, ← hil, hf]
        refine hp μ1 ⟨by rw [k1]; exact a1, a2, fun k c hk => by rw [k2 27 (by decide) (by decide)]; exact a3 k c hk⟩ (fun q => by omega) k2
      · rw [k1, a1] at c
        simp (disch := omega) only [ii_lit, ii_neg, ii_add, ii_sub, ii_mul, ii_lt, ii_le, ii_eq] at c
        omega
    | cons c cs ih =>
      intro i s A μ1 hd hi hR hlen hf hf2 k1 k2
      have hil : i < pad.length := by
        have h1 := congrArg List.length hd
        rw [List.length_drop] at h1
        have h2 : pad.length - i = cs.length + 1 := h1
        omega
      have hs0 := hR.1
      have hget : pad[i]? = some c := by
        have h1 : (pad.drop i)[0]? = some c := by rw [hd]; rfl
        rw [List.getElem?_drop] at h1
        exact h1
      have hd2 : pad.drop (i + 1) = cs := by
        rw [← List.drop_drop, hd]
        rfl
      obtain ⟨g1, g2⟩ := a3 i c hget
      refine sX5_read_9 hE _ _ ⟨fun c1 => ?_, fun _ => ⟨ii_in (by omega) (by omega) (by omega), ?_⟩⟩
      · rw [k1, a1] at c1
        simp (disch := omega) only [ii_lit, ii_neg, ii_add, ii_sub, ii_mul, ii_lt, ii_le, ii_eq] at c1
        omega
      · rw [ii_natN (by omega), k2 27 (by decide) (by decide), g1]
        refine c_X5_step hR g2 (fun h3 => by omega) (fun μ2 h0 k3 k4 => sX5_read_28 hE _ _ ⟨fun q => absurd rfl q, fun _ => ?_⟩) (fun μ2 s' out h0 r1 k3 k4 => sX5_read_28 hE _ _ ⟨fun _ => ?_, fun q => ?_⟩)
        · have er : prun i (c :: cs) s = ((i : Int), []) := by rw [prun, h0]
          rw [er] at hf
          have hf : (i : Int) = (pfault pad).1 := hf
          rw [hf]
          refine hp μ2 ⟨by rw [k3, k1]; exact a1, a2, fun k c hk => by rw [k4 27 (by decide) (by decide), k2 27 (by decide) (by decide)]; exact a3 k c hk⟩ (fun q => by omega) (fun k c1 c2 => by rw [k4 k c1 c2]; exact k2 k c1 c2)
        · have er : prun i (c :: cs) s = ((prun (i + 1) cs s').1, out ++ (prun (i + 1) cs s').2) := by rw [prun, h0]
          rw [er] at hf hf2
          have hl := pstep_len h0 hs0
          have e5 : ii (i : Int) + 1 = ii ((i + 1 : Nat) : Int) := by simp (disch := omega) only [ii_lit, ii_neg, ii_add, ii_sub, ii_mul, ii_lt, ii_le, ii_eq]; rfl
          rw [e5]
          refine ih (i + 1) s' (A ++ out) μ2 hd2 (by omega) r1 ?_ hf (fun q => by rw [← hf2 q, List.append_assoc]) (by rw [k3, k1]) (fun k c1 c2 => by rw [k4 k c1 c2]; exact k2 k c1 c2)
          rw [List.length_append]
          omega
        · have hl := pstep_len h0 hs0
          rw [ii_4, ii_eq (by omega) (by omega)] at q
          omega
  refine sX5_read_0 hE ?_
  intro μ1 e1
  refine key pad 0 (0, 0, 0) [] μ1 rfl (by omega) ⟨by decide, fun q => absurd q (show ¬ (1 : Int) ≤ 0 by decide), fun q => absurd q (show ¬ (0 : Int) = 3 by decide), by rw [e1, jm_st_s]; decide, fun k m hk => by simp at hk⟩ (by decide) rfl (fun _ => rfl) (by rw [e1, jm_st_ni _ _ _ (by decide)]) (fun k c1 c2 => by rw [e1, jm_st_nc _ _ _ c1])
/-- only the pad's registers are touched -/
theorem CI.pad {μ μ' : Nat → Nat → Int32} {σ : sT} (h : CI μ σ) (hP : pdR μ' σ.2.2.2) (hk : ∀ c : Nat, c ≠ 26 → c ≠ 28 → μ' c = μ c) : CI μ' σ := by
  obtain ⟨a, b, c, d, e, f, s⟩ := h
  exact ⟨a.kept (hk _ (by decide) (by decide)) (hk _ (by decide) (by decide)) (hk _ (by decide) (by decide)), b, c.kept (fun k _ h2 => hk k (by omega) (by omega)), d.kept (hk _ (by decide) (by decide)) (fun k h1 h2 => hk k (by omega) (by omega)), hP, f.kept (hk _ (by decide) (by decide)) (hk _ (by decide) (by decide)) (hk _ (by decide) (by decide)), s.kept (hk _ (by decide) (by decide)) (fun k h1 h2 => hk k (by omega) (by omega))⟩
theorem c_X8_fault {μ : Nat → Nat → Int32} {σ : sT} (hc : CI μ σ) (hp : ∀ μ' : Nat → Nat → Int32, CI μ' σ → aB μ μ' → P (some (.int (ii (opFault σ)))) μ') : jD g ad m_X8_fault [.ref 0] μ P := by
  refine jd_intro [some (.ref 0)] (by decide) rfl rfl (fun κ hE => ?_)
  exact sX8_fault_0 hE (c_X5_read hc.2.2.2.2.1 (fun μ1 p1 _ k1 => sX8_fault_7 hE _ (hp μ1 (hc.pad p1 k1) (fun c cc => k1 c (by omega) (by omega)))))
end JRD
