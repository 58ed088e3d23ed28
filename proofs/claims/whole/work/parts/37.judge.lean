section JJU
variable {g : jm_G} {ad : Nat → Nat} {P : Option Value → (Nat → Nat → Int32) → Prop}
theorem bitC_ii : ∀ c : Nat, c < 16 → ∀ e : Nat, e < 4 → ((ii (c : Int) >>> ((3 - ii (e : Int)) &&& 31)) &&& 1) = ii (bitC c e : Nat) := by decide +kernel
def rowT (f : Nat → Int) (N : Int → List Nat) (c e : Nat) : Int := f (rowIx N c e) / 4
/-- the shot of a row -/
def recC (sp : Int) (f : Nat → Int) (N : Int → List Nat) (c : Nat) : sR :=
  (fun e => (rowIx N c e : Nat), (((bst sp (rowT f N c)).1 % 41 : Nat) : Int), (((bst sp (rowT f N c)).1 / 41 : Nat) : Int), (bst sp (rowT f N c)).2, lstS sp (rowT f N c) (((bst sp (rowT f N c)).1 % 41 : Nat) : Int) (((bst sp (rowT f N c)).1 / 41 : Nat) : Int))
theorem rowIx_lt {N : Int → List Nat} {n c e : Nat} (hn : 0 < n) (hin : ∀ v : Nat, v ∈ N e → v < n) : rowIx N c e < n := by
  by_cases h : bitC c e < (N e).length
  · exact hin _ (rowIx_in h)
  · unfold rowIx
    rw [List.getD_eq_getElem?_getD, List.getElem?_eq_none (by omega)]
    exact hn
theorem c_X0_choose {μ : Nat → Nat → Int32} {q n c : Nat} {f : Nat → Int} {N : Int → List Nat} (hq : jm_Heard q) (hq9 : q + 2 < 29) (hf : hF μ q n f) (hB : fB n f) (hN : nearR μ N) (hc : c < 16) (hin : ∀ (e v : Nat), e < 4 → v ∈ N e → v < n)
    (h1 : ∀ μ' : Nat → Nat → Int32, rowB N c = true → (∀ e : Nat, e < 4 → μ' 37 e = ii (rowIx N c e : Nat)) → tF μ' (rowT f N c) → (∀ k : Nat, k ≠ 34 → k ≠ 37 → μ' k = μ k) → P (some (.int 1)) μ')
    (h0 : ∀ μ' : Nat → Nat → Int32, ¬ rowB N c = true → (∀ k : Nat, k ≠ 34 → k ≠ 37 → μ' k = μ k) → P (some (.int 0)) μ') : jD g ad m_X0_choose [.ref 32, .ref q, .int (ii c)] μ P := by
  refine jd_intro [some (.ref 32), some (.ref q), some (.int (ii c)), none, none] (by decide) rfl rfl (fun κ hE => ?_)
  have hn := hf.2.1
  have key : ∀ (k e : Nat) (μ2 : Nat → Nat → Int32), e + k = 4 → (∀ k : Nat, k ≠ 34 → k ≠ 37 → μ2 k = μ k) → (∀ j : Nat, j < e → bitC c j < (N j).length ∧ μ2 37 j = ii (rowIx N c j : Nat) ∧ μ2 34 j = ii (rowT f N c j)) → jS g ad m_X0_choose κ 2 [some (.ref 32), some (.ref q), some (.int (ii c)), some (.int (ii e)), none] [] μ2 := by
    intro k
    induction k with
    | zero =>
      intro e μ2 he h2 h3
      refine sX0_choose_2 hE q hq _ _ ⟨fun _ => ?_, fun cc => ?_⟩
      · exact h1 μ2 (rowB_iff.mpr (fun j hj => (h3 j (by omega)).1)) (fun j hj => (h3 j (by omega)).2.1) (fun j hj => (h3 j (by omega)).2.2) h2
      · simp (disch := omega) only [ii_lit, ii_neg, ii_add, ii_sub, ii_mul, ii_lt, ii_le, ii_eq] at cc
        omega
    | succ k ih =>
      intro e μ2 he h2 h3
      obtain ⟨m1, m2, m3⟩ := hN e (by omega)
      have hb := bitC_lt c e
      refine sX0_choose_2 hE q hq _ _ ⟨fun cc => ?_, fun _ => ⟨ii_in (by omega) (by omega) (by omega), ?_⟩⟩
      · simp (disch := omega) only [ii_lit, ii_neg, ii_add, ii_sub, ii_mul, ii_lt, ii_le, ii_eq] at cc
        omega
      rw [bitC_ii c hc e (by omega), ii_natN (by omega), h2 36 (by decide) (by decide), m1, ii_lt (by omega) (by omega)]
      have e9 : ii (e : Int) * 2 + ii (bitC c e : Nat) = ii ((2 * e + bitC c e : Nat) : Int) := by
        simp (disch := omega) only [ii_lit, ii_neg, ii_add, ii_sub, ii_mul, ii_lt, ii_le, ii_eq]
        congr 1
        omega
      rw [e9, ii_natN (by omega)]
      refine ⟨fun cc => ?_, fun cc => ?_⟩
      · refine ⟨ii_in (by omega) (by omega) (by omega), ii_in (by omega) (by omega) (by omega), ?_⟩
        have hlt : bitC c e < (N e).length := by omega
        have hv : μ2 35 (2 * e + bitC c e) = ii (rowIx N c e : Nat) := by
          rw [h2 35 (by decide) (by decide)]
          refine m3 (bitC c e) (rowIx N c e) ?_
          unfold rowIx
          rw [List.getD_eq_getElem?_getD, List.getElem?_eq_getElem hlt]
          rfl
        have hix := hin e _ (by omega) (rowIx_in hlt)
        rw [hv]
        intro μ3 e3
        refine ⟨ii_in (by omega) (by omega) (by omega), ?_⟩
        have hv3 : μ3 37 e = ii (rowIx N c e : Nat) := by rw [e3, jm_st_s]
        rw [hv3]
        have hF3 : hF μ3 q n f := ⟨by rw [e3, jm_st_nc _ _ _ (by omega), h2 q (by omega) (by omega)]; exact hf.1, hn, fun j hj => by rw [e3, jm_st_nc _ _ _ (by omega), h2 (q + 2) (by omega) (by omega)]; exact hf.2.2 j hj⟩
        refine c_X3_timeOf hq hF3 hB hix (sX0_choose_64 hE q hq _ _ _ _ ⟨ii_in (by omega) (by omega) (by omega), ?_⟩)
        intro μ4 e4
        rw [ii_natN (by omega)] at e4
        have e5 : ii (e : Int) + 1 = ii ((e + 1 : Nat) : Int) := by simp (disch := omega) only [ii_lit, ii_neg, ii_add, ii_sub, ii_mul, ii_lt, ii_le, ii_eq]; rfl
        rw [e5]
        refine ih (e + 1) μ4 (by omega) (fun k k1 k2 => by rw [e4, jm_st_nc _ _ _ k1, e3, jm_st_nc _ _ _ k2]; exact h2 k k1 k2) (fun j hj => ?_)
        by_cases hje : j = e
        · subst hje
          refine ⟨hlt, ?_, ?_⟩
          · rw [e4, jm_st_nc _ _ _ (by decide)]; exact hv3
          · rw [e4, jm_st_s]; rfl
        · obtain ⟨a1, a2, a3⟩ := h3 j (by omega)
          refine ⟨a1, ?_, ?_⟩
          · rw [e4, jm_st_nc _ _ _ (by decide), e3, jm_st_ni _ _ _ hje]; exact a2
          · rw [e4, jm_st_ni _ _ _ hje, e3, jm_st_nc _ _ _ (by decide)]; exact a3
      · refine h0 μ2 (fun hr => ?_) h2
        have := rowB_iff.mp hr e (by omega)
        omega
  refine sX0_choose_0 hE q hq _ ?_
  exact key 4 0 μ (by omega) (fun _ _ _ => rfl) (fun j hj => by omega)
/-- owners, once k ears' pulses belong to a shot -/
def ownA (own : Nat → Int) (r : Nat → Nat) (size : Nat) : Nat → (Nat → Int)
  | 0 => own
  | k + 1 => fun j => if j = r k then (size : Int) else ownA own r size k j
theorem c_X7_accept {μ : Nat → Nat → Int32} {u size : Nat} {own : Nat → Int} {r : Nat → Nat} (hu : jm_Shots u) (hs : μ u 2 = ii size) (hs9 : size < 8) (ho : SHo μ u own) (hr : ∀ e : Nat, e < 4 → μ (u + 3 + 2 * size + 1) e = ii (r e : Nat) ∧ r e < 32)
    (h : ∀ μ' : Nat → Nat → Int32, μ' u 2 = ii (size + 1 : Nat) → SHo μ' u (ownA own r size 4) → (∀ c : Nat, c ≠ u → c ≠ u + 2 → μ' c = μ c) → P none μ') : jD g ad m_X7_accept [.ref u] μ P := by
  refine jd_intro [some (.ref u), none] (by decide) rfl rfl (fun κ hE => ?_)
  have key : ∀ (k e : Nat) (μ2 : Nat → Nat → Int32), e + k = 4 → μ2 u 2 = ii size → (∀ c : Nat, c ≠ u → c ≠ u + 2 → μ2 c = μ c) → SHo μ2 u (ownA own r size e) → jS g ad m_X7_accept κ 11 [some (.ref u), some (.int (ii e))] [] μ2 := by
    intro k
    induction k with
    | zero =>
      intro e μ2 he h1 h2 h3
      refine sX7_accept_11 hE u hu _ ⟨fun _ => ?_, fun c => ?_⟩
      · intro μ3 e3
        rw [h1] at e3
        have e4 : e = 4 := by omega
        subst e4
        refine h μ3 ?_ (fun j hj => ?_) (fun c c1 c2 => ?_)
        · rw [e3, jm_st_s]
          simp (disch := omega) only [ii_lit, ii_neg, ii_add, ii_sub, ii_mul, ii_lt, ii_le, ii_eq]
          rfl
        · rw [e3, jm_st_nc _ _ _ (by omega)]; exact h3 j hj
        · rw [e3, jm_st_nc _ _ _ c1]; exact h2 c c1 c2
      · simp (disch := omega) only [ii_lit, ii_neg, ii_add, ii_sub, ii_mul, ii_lt, ii_le, ii_eq] at c
        omega
    | succ k ih =>
      intro e μ2 he h1 h2 h3
      obtain ⟨r1, r2⟩ := hr e (by omega)
      refine sX7_accept_11 hE u hu _ ⟨fun c => ?_, fun _ => ?_⟩
      · simp (disch := omega) only [ii_lit, ii_neg, ii_add, ii_sub, ii_mul, ii_lt, ii_le, ii_eq] at c
        omega
      rw [h1, ii_natN (by omega), ii_natN (by omega), h2 (u + 3 + 2 * size + 1) (by omega) (by omega), r1, ii_natN (by omega)]
      refine ⟨ii_in (by omega) (by omega) (by omega), ii_in (by omega) (by omega) (by omega), ii_in (by omega) (by omega) (by omega), ?_⟩
      intro μ3 e3
      have e5 : ii (e : Int) + 1 = ii ((e + 1 : Nat) : Int) := by simp (disch := omega) only [ii_lit, ii_neg, ii_add, ii_sub, ii_mul, ii_lt, ii_le, ii_eq]; rfl
      rw [e5]
      refine ih (e + 1) μ3 (by omega) (by rw [e3, jm_st_nc _ _ _ (by omega)]; exact h1) (fun c c1 c2 => by rw [e3, jm_st_nc _ _ _ c2]; exact h2 c c1 c2) (fun j hj => ?_)
      rw [e3]
      show _ = ii (if j = r e then (size : Int) else ownA own r size e j)
      by_cases hje : j = r e
      · rw [if_pos hje, hje, jm_st_s]
      · rw [if_neg hje, jm_st_ni _ _ _ hje]; exact h3 j hj
  refine sX7_accept_0 hE u hu ⟨fun c => ?_, fun _ => key 4 0 μ (by omega) hs (fun _ _ _ => rfl) ho⟩
  rw [hs] at c
  simp (disch := omega) only [ii_lit, ii_neg, ii_add, ii_sub, ii_mul, ii_lt, ii_le, ii_eq] at c
  omega
theorem c_X7_draft {μ : Nat → Nat → Int32} {u size : Nat} {sp X Y S : Int} {t r : Nat → Int} (hu : jm_Shots u) (hu9 : 37 < u) (hs : μ u 2 = ii size) (hs9 : size < 8) (hsp : 313 ≤ sp) (hT : FTm μ sp) (hD : FD μ) (ht : tF μ t) (hB : tB t) (hp : pt X Y) (hX : μ 33 1 = ii X) (hY : μ 33 2 = ii Y) (hS : μ 33 3 = ii S) (hr : ∀ e : Nat, e < 4 → μ 37 e = ii (r e))
    (h : ∀ μ' : Nat → Nat → Int32, shotR μ' (u + 3 + 2 * size) (r, X, Y, S, lstS sp t X Y) → (∀ c : Nat, c ≠ u + 3 + 2 * size → c ≠ u + 3 + 2 * size + 1 → μ' c = μ c) → P none μ') : jD g ad m_X7_draft [.ref u, .ref 29, .ref 33, .ref 37] μ P := by
  refine jd_intro [some (.ref u), some (.ref 29), some (.ref 33), some (.ref 37)] (by decide) rfl rfl (fun κ hE => ?_)
  refine sX7_draft_0 hE u hu ⟨fun c => ?_, fun _ => ?_⟩
  · rw [hs] at c
    simp (disch := omega) only [ii_lit, ii_neg, ii_add, ii_sub, ii_mul, ii_lt, ii_le, ii_eq] at c
    omega
  rw [hs, ii_natN (by omega)]
  refine ⟨ii_in (by omega) (by omega) (by omega), ?_⟩
  exact c_X6_become (hu.2.2.2 size hs9) (by omega) hsp hT hD ht hB hp hX hY hS hr (fun μ' h1 h2 => sX7_draft_24 hE u hu (h μ' h1 h2))
theorem kpL_stop {N : Int → List Nat} {S : Nat → Int} {slack : Int} {c b : Nat} (hS : ∀ c : Nat, 0 ≤ S c) (h : kpL N S slack c = some b) (hb : S b ≤ 0) : ∀ k : Nat, kpL N S slack (c + k) = some b := by
  intro k
  induction k with
  | zero => exact h
  | succ k ih =>
    show kpL N S slack ((c + k) + 1) = some b
    unfold kpL
    rw [ih, if_neg]
    rintro ⟨-, h2⟩
    have := hS (c + k)
    have h3 : S (c + k) < S b := h2
    omega
/-- the pulse p is looked at: with the row that is kept it becomes a shot, or it is a stray -/
def judgeF (n : Nat) (f : Nat → Int) (win slack sp : Int) (p : Nat) (F : fS3) : fS3 :=
  match kpL (near n f win (fun j => if j = p then -6 else F.1 j) p) (fun c => (bst sp (rowT f (near n f win (fun j => if j = p then -6 else F.1 j) p) c)).2) slack 16 with
  | none => (fun j => if j = p then -6 else F.1 j, F.2.1, F.2.2)
  | some c => (ownA (fun j => if j = p then -6 else F.1 j) (rowIx (near n f win (fun j => if j = p then -6 else F.1 j) p) c) F.2.2 4, fun k => if k = F.2.2 then recC sp f (near n f win (fun j => if j = p then -6 else F.1 j) p) c else F.2.1 k, F.2.2 + 1)
set_option maxRecDepth 100000 in
theorem c_X0_judge {μ : Nat → Nat → Int32} {q u n p : Nat} {f : Nat → Int} {win slack sp : Int} {F : fS3} (hq : jm_Heard q) (hq9 : q + 2 < 29) (hu : jm_Shots u) (hu9 : 37 < u) (hf : hF μ q n f) (hB : fB n f) (hS : fS n f) (hw : μ (q + 1) 1 = ii win) (hw9 : 0 ≤ win ∧ win ≤ 4000) (hsl : μ (q + 1) 2 = ii slack) (hsl9 : 0 ≤ slack ∧ slack ≤ 300) (hsp : 313 ≤ sp) (hT : FTm μ sp) (hD : FD μ) (hF9 : SH μ u F) (hsz : F.2.2 < 8) (hp : p < n) (hor : ∀ j : Nat, j < n → -6 ≤ F.1 j ∧ F.1 j ≤ 8) (hus : ∀ j : Nat, j < p → F.1 j ≠ -1)
    (h : ∀ μ' : Nat → Nat → Int32, SH μ' u (judgeF n f win slack sp p F) → (∀ c : Nat, ¬ (33 ≤ c ∧ c ≤ 37) → ¬ (u ≤ c ∧ c ≤ u + 18) → μ' c = μ c) → P none μ') : jD g ad m_X0_judge [.ref 32, .ref 29, .ref q, .int (ii p), .ref u] μ P := by
  refine jd_intro [some (.ref 32), some (.ref 29), some (.ref q), some (.int (ii p)), some (.ref u), none, none, none] (by decide) rfl rfl (fun κ hE => ?_)
  have hn := hf.2.1
  refine sX0_judge_0 hE q hq u hu _ ⟨ii_in (by omega) (by omega) (by omega), ?_⟩
  intro μ1 e1
  rw [ii_natN (by omega)] at e1
  generalize hown : (fun j => if j = p then -6 else F.1 j : Nat → Int) = own at *
  have hownj : ∀ j : Nat, own j = if j = p then -6 else F.1 j := fun j => by rw [← hown]
  have a1 : ∀ c : Nat, c ≠ u + 2 → μ1 c = μ c := fun c cc => by rw [e1, jm_st_nc _ _ _ cc]
  have ho1 : SHo μ1 u own := by
    intro j hj
    rw [e1, hownj]
    by_cases c : j = p
    · rw [if_pos c, c, jm_st_s]; decide
    · rw [if_neg c, jm_st_ni _ _ _ c]; exact hF9.1 j hj
  have hf1 : hF μ1 q n f := ⟨by rw [a1 q (by omega)]; exact hf.1, hn, fun j hj => by rw [a1 (q + 2) (by omega)]; exact hf.2.2 j hj⟩
  have hor1 : ∀ j : Nat, j < n → -6 ≤ own j ∧ own j ≤ 8 := by
    intro j hj
    rw [hownj]
    have := hor j hj
    split <;> omega
  refine c_X0_gather (win := win) (own := own) hq (by omega) hu.2.2.1 (by omega) hf1 hB hS (by rw [a1 (q + 1) (by omega)]; exact hw) hw9 hp ho1 (fun j hj => by have := hor1 j hj; omega) (fun j hj => ?_) (fun μ2 hN2 h2 => ?_)
  · rw [hownj]
    by_cases c : j = p
    · rw [if_pos c]; decide
    · rw [if_neg c]; exact hus j (by omega)
  generalize hNe : near n f win own p = N at *
  have hin : ∀ (e v : Nat), e < 4 → v ∈ N e → v < n := fun e v _ hv => (near_in hp (by rw [hNe]; exact hv)).1
  have hix : ∀ (c e : Nat), e < 4 → rowIx N c e < n := fun c e he => rowIx_lt (by omega) (fun v hv => hin e v he hv)
  have htB : ∀ c : Nat, tB (rowT f N c) := by
    intro c e he
    have := hB _ (hix c e he)
    unfold rowT
    omega
  generalize hSe : (fun c => (bst sp (rowT f N c)).2 : Nat → Int) = Sc at *
  have hSc : ∀ c : Nat, Sc c = (bst sp (rowT f N c)).2 := fun c => by rw [← hSe]
  have hS0 : ∀ c : Nat, 0 ≤ Sc c ∧ Sc c ≤ 101806 := by
    intro c
    have hb := bst_best sp (rowT f N c)
    rw [hSc, hb.2.1]
    have hp9 := hb.1
    unfold pt at hp9
    exact spr_rng hsp (htB c) (by omega) (by omega)
  have a2 : ∀ c : Nat, c ≠ u + 2 → c ≠ 35 → c ≠ 36 → μ2 c = μ c := fun c c1 c2 c3 => by rw [h2 c c2 c3]; exact a1 c c1
  have ho2 : SHo μ2 u own := fun j hj => by rw [h2 (u + 2) (by omega) (by omega)]; exact ho1 j hj
  -- the end, with what is kept
  have fin : ∀ μ3 : Nat → Nat → Int32, (∀ c : Nat, c ≠ 33 → c ≠ 34 → c ≠ 37 → c ≠ u + 3 + 2 * F.2.2 → c ≠ u + 3 + 2 * F.2.2 + 1 → μ3 c = μ2 c) → (∀ b : Nat, kpL N Sc slack 16 = some b → shotR μ3 (u + 3 + 2 * F.2.2) (recC sp f N b)) → ((ii (match kpL N Sc slack 16 with | none => 0 | some _ => 1) = 0 → P none μ3) ∧ (¬ ii (match kpL N Sc slack 16 with | none => 0 | some _ => 1) = 0 → jD g ad m_X7_accept [.ref u] μ3 (fun v μ' => jS g ad m_X0_judge κ 113 [none, none, none, none, none, none, none, none] (jm_ps v []) μ'))) := by
    intro μ3 h3 hk
    have hs3 : μ3 u 2 = ii F.2.2 := by rw [h3 u (by omega) (by omega) (by omega) (by omega) (by omega), a2 u (by omega) (by omega) (by omega)]; exact hF9.2.1
    have ho3 : SHo μ3 u own := fun j hj => by rw [h3 (u + 2) (by omega) (by omega) (by omega) (by omega) (by omega)]; exact ho2 j hj
    have hsh3 : ∀ k : Nat, k < F.2.2 → shotR μ3 (u + 3 + 2 * k) (F.2.1 k) := fun k hk => (hF9.2.2.2 k hk).kept (by rw [h3 _ (by omega) (by omega) (by omega) (by omega) (by omega), a2 _ (by omega) (by omega) (by omega)]) (by rw [h3 _ (by omega) (by omega) (by omega) (by omega) (by omega), a2 _ (by omega) (by omega) (by omega)])
    have hfr3 : ∀ c : Nat, ¬ (33 ≤ c ∧ c ≤ 37) → ¬ (u ≤ c ∧ c ≤ u + 18) → μ3 c = μ c := fun c c1 c2 => by rw [h3 c (by omega) (by omega) (by omega) (by omega) (by omega)]; exact a2 c (by omega) (by omega) (by omega)
    cases hkk : kpL N Sc slack 16 with
    | none =>
      refine ⟨fun _ => h μ3 ?_ hfr3, fun c => absurd (show ii 0 = 0 by decide) c⟩
      unfold judgeF
      rw [hown, hNe, hSe, hkk]
      exact ⟨ho3, hs3, by show F.2.2 ≤ 8; omega, hsh3⟩
    | some b =>
      refine ⟨fun c => absurd c (show ¬ ii 1 = 0 by decide), fun _ => ?_⟩
      have hshot := hk b hkk
      refine c_X7_accept (r := rowIx N b) hu hs3 hsz ho3 (fun e he => ⟨hshot.2.2.2.2.2 e he, by have := hix b e he; omega⟩) (fun μ4 g1 g2 g3 => sX0_judge_113 hE q hq u hu (h μ4 ?_ (fun c c1 c2 => by rw [g3 c (by omega) (by omega)]; exact hfr3 c c1 c2)))
      unfold judgeF
      rw [hown, hNe, hSe, hkk]
      refine ⟨g2, g1, by show F.2.2 + 1 ≤ 8; omega, fun k hk2 => ?_⟩
      show shotR μ4 _ (if k = F.2.2 then recC sp f N b else F.2.1 k)
      have hk3 : k < F.2.2 + 1 := hk2
      by_cases c : k = F.2.2
      · rw [if_pos c, c]
        exact hshot.kept (g3 _ (by omega) (by omega)) (g3 _ (by omega) (by omega))
      · rw [if_neg c]
        exact (hsh3 k (by omega)).kept (g3 _ (by omega) (by omega)) (g3 _ (by omega) (by omega))
  have key : ∀ (k c : Nat) (μ3 : Nat → Nat → Int32), c + k = 16 → (∀ c : Nat, c ≠ 33 → c ≠ 34 → c ≠ 37 → c ≠ u + 3 + 2 * F.2.2 → c ≠ u + 3 + 2 * F.2.2 + 1 → μ3 c = μ2 c) → (∀ b : Nat, kpL N Sc slack c = some b → shotR μ3 (u + 3 + 2 * F.2.2) (recC sp f N b)) → jS g ad m_X0_judge κ 36 [some (.ref 32), some (.ref 29), some (.ref q), none, some (.ref u), some (.int (ii (match kpL N Sc slack c with | none => slack + 1 | some b => Sc b))), some (.int (ii (match kpL N Sc slack c with | none => 0 | some _ => 1))), some (.int (ii c))] [] μ3 := by
    intro k
    induction k with
    | zero =>
      intro c μ3 hc h3 hk
      have e16 : c = 16 := by omega
      subst e16
      refine sX0_judge_36 hE q hq u hu _ _ _ ⟨fun _ => fin μ3 h3 hk, fun c => absurd (by decide) c⟩
    | succ k ih =>
      intro c μ3 hc h3 hk
      have e5 : ii (c : Int) + 1 = ii ((c + 1 : Nat) : Int) := by simp (disch := omega) only [ii_lit, ii_neg, ii_add, ii_sub, ii_mul, ii_lt, ii_le, ii_eq]; rfl
      have hlimr : ir (match kpL N Sc slack c with | none => slack + 1 | some b => Sc b) := by
        cases hz : kpL N Sc slack c with
        | none => show ir (slack + 1); omega
        | some b => show ir (Sc b); have := hS0 b; omega
      refine sX0_judge_36 hE q hq u hu _ _ _ ⟨fun cc => ?_, fun _ => ⟨fun cc => ?_, fun cc => ?_⟩⟩
      · simp (disch := omega) only [ii_lit, ii_neg, ii_add, ii_sub, ii_mul, ii_lt, ii_le, ii_eq] at cc
        omega
      · -- the limit is 0: no later row is below it
        rw [ii_0, ii_le hlimr (by omega)] at cc
        cases hz : kpL N Sc slack c with
        | none =>
          rw [hz] at cc
          have : slack + 1 ≤ 0 := cc
          omega
        | some b =>
          rw [hz] at cc
          have hst := kpL_stop (fun c => (hS0 c).1) hz cc (k + 1)
          rw [show c + (k + 1) = 16 by omega] at hst
          have h9 := fin μ3 h3 (fun b' hb' => by
            rw [hst] at hb'
            have e : b = b' := by simpa using hb'
            rw [← e]
            exact hk b hz)
          rw [hst] at h9
          exact h9
      · rw [ii_0, ii_le hlimr (by omega)] at cc
        have hf3 : hF μ3 q n f := ⟨by rw [h3 q (by omega) (by omega) (by omega) (by omega) (by omega), a2 q (by omega) (by omega) (by omega)]; exact hf.1, hn, fun j hj => by rw [h3 (q + 2) (by omega) (by omega) (by omega) (by omega) (by omega), a2 (q + 2) (by omega) (by omega) (by omega)]; exact hf.2.2 j hj⟩
        have hN3 : nearR μ3 N := by
          intro e he
          obtain ⟨x1, x2, x3⟩ := hN2 e he
          refine ⟨by rw [h3 36 (by decide) (by decide) (by decide) (by omega) (by omega)]; exact x1, x2, fun k v hk => by rw [h3 35 (by decide) (by decide) (by decide) (by omega) (by omega)]; exact x3 k v hk⟩
        refine c_X0_choose hq hq9 hf3 hB hN3 (by omega) hin (fun μ4 hr g37 gt g4 => ?_) (fun μ4 hr g4 => ?_)
        · refine sX0_judge_55 hE q hq u hu _ _ _ _ ⟨fun c9 => absurd c9 (by decide), fun _ => ?_⟩
          have hT4 : FTm μ4 sp := ⟨by rw [g4 29 (by decide) (by decide), h3 29 (by decide) (by decide) (by decide) (by omega) (by omega), a2 29 (by omega) (by decide) (by decide)]; exact hT.1, fun j hj => by rw [g4 31 (by decide) (by decide), h3 31 (by decide) (by decide) (by decide) (by omega) (by omega), a2 31 (by omega) (by decide) (by decide)]; exact hT.2 j hj⟩
          have hD4 : FD μ4 := fun j hj => by rw [g4 30 (by decide) (by decide), h3 30 (by decide) (by decide) (by decide) (by omega) (by omega), a2 30 (by omega) (by decide) (by decide)]; exact hD j hj
          have hlim9 : 1 ≤ (match kpL N Sc slack c with | none => slack + 1 | some b => Sc b) ∧ (match kpL N Sc slack c with | none => slack + 1 | some b => Sc b) ≤ 1000 := by
            cases hz : kpL N Sc slack c with
            | none => show 1 ≤ slack + 1 ∧ slack + 1 ≤ 1000; omega
            | some b =>
              rw [hz] at cc
              have cc : ¬ Sc b ≤ 0 := cc
              show 1 ≤ Sc b ∧ Sc b ≤ 1000
              have h8 : kpL N Sc slack c = match kp N Sc c with | none => none | some b => if Sc b ≤ slack then some b else none := kpL_kp c
              rw [hz] at h8
              cases hkp : kp N Sc c with
              | none => rw [hkp] at h8; cases h8
              | some b2 =>
                rw [hkp] at h8
                have h8 : some b = if Sc b2 ≤ slack then some b2 else none := h8
                by_cases h7 : Sc b2 ≤ slack
                · rw [if_pos h7] at h8
                  have e : b = b2 := by simpa using h8
                  subst e
                  omega
                · rw [if_neg h7] at h8; cases h8
          have hkp1 : ∀ hlt : Sc c < (match kpL N Sc slack c with | none => slack + 1 | some b => Sc b), kpL N Sc slack (c + 1) = some c := fun hlt => by
            show (if rowB N c = true ∧ Sc c < (match kpL N Sc slack c with | none => slack + 1 | some b => Sc b) then some c else kpL N Sc slack c) = _
            rw [if_pos ⟨hr, hlt⟩]
          have hkp0 : ∀ hlt : ¬ Sc c < (match kpL N Sc slack c with | none => slack + 1 | some b => Sc b), kpL N Sc slack (c + 1) = kpL N Sc slack c := fun hlt => by
            show (if rowB N c = true ∧ Sc c < (match kpL N Sc slack c with | none => slack + 1 | some b => Sc b) then some c else kpL N Sc slack c) = _
            rw [if_neg (fun q => hlt q.2)]
          have hbb := bst_best sp (rowT f N c)
          rw [← hSc] at hbb
          refine c_X1_search hsp hT4 gt (htB c) hlim9 (fun μ5 hall g5 => ?_) (fun μ5 S X Y hbest hlt x1 x2 x3 g5 => ?_)
          · refine sX0_judge_68 hE q hq u hu _ _ _ _ ⟨fun _ => ?_, fun c9 => absurd rfl c9⟩
            have hnl : ¬ Sc c < (match kpL N Sc slack c with | none => slack + 1 | some b => Sc b) := by
              have := hall _ _ hbb.1
              rw [← hbb.2.1] at this
              omega
            have h9 := ih (c + 1) μ5 (by omega) (fun c c1 c2 c3 c4 c5 => by rw [g5 c c1, g4 c c2 c3]; exact h3 c c1 c2 c3 c4 c5) (fun b hb => by
              rw [hkp0 hnl] at hb
              exact (hk b hb).kept (by rw [g5 _ (by omega), g4 _ (by omega) (by omega)]) (by rw [g5 _ (by omega), g4 _ (by omega) (by omega)]))
            rw [hkp0 hnl] at h9
            rw [e5]
            exact h9
          · refine sX0_judge_68 hE q hq u hu _ _ _ _ ⟨fun c9 => absurd c9 (by decide), fun _ => ?_⟩
            obtain ⟨eS, eX, eY⟩ := hbest.uniq hbb
            subst eS; subst eX; subst eY
            have hs5 : μ5 u 2 = ii F.2.2 := by rw [g5 u (by omega), g4 u (by omega) (by omega), h3 u (by omega) (by omega) (by omega) (by omega) (by omega), a2 u (by omega) (by omega) (by omega)]; exact hF9.2.1
            refine c_X7_draft (r := fun e => (rowIx N c e : Nat)) hu hu9 hs5 hsz hsp ⟨by rw [g5 29 (by decide)]; exact hT4.1, fun j hj => by rw [g5 31 (by decide)]; exact hT4.2 j hj⟩ (fun j hj => by rw [g5 30 (by decide)]; exact hD4 j hj) (fun e he => by rw [g5 34 (by decide)]; exact gt e he) (htB c) hbb.1 x1 x2 x3 (fun e he => by rw [g5 37 (by decide)]; exact g37 e he) (fun μ6 hsh g6 => sX0_judge_85 hE q hq u hu _ ?_)
            have x6 : μ6 33 3 = ii (Sc c) := by rw [g6 33 (by omega) (by omega)]; exact x3
            have h9 := ih (c + 1) μ6 (by omega) (fun c c1 c2 c3 c4 c5 => by rw [g6 c c4 c5, g5 c c1, g4 c c2 c3]; exact h3 c c1 c2 c3 c4 c5) (fun b hb => by
              rw [hkp1 hlt] at hb
              have e : c = b := by simpa using hb
              subst e
              have e2 : recC sp f N c = (fun e => ((rowIx N c e : Nat) : Int), (((bst sp (rowT f N c)).1 % 41 : Nat) : Int), (((bst sp (rowT f N c)).1 / 41 : Nat) : Int), Sc c, lstS sp (rowT f N c) (((bst sp (rowT f N c)).1 % 41 : Nat) : Int) (((bst sp (rowT f N c)).1 / 41 : Nat) : Int)) := by rw [hSc]; rfl
              rw [e2]
              exact hsh)
            rw [hkp1 hlt] at h9
            rw [e5, x6]
            exact h9
        · refine sX0_judge_55 hE q hq u hu _ _ _ _ ⟨fun _ => ?_, fun c9 => absurd rfl c9⟩
          have hkp0 : kpL N Sc slack (c + 1) = kpL N Sc slack c := by
            show (if rowB N c = true ∧ Sc c < (match kpL N Sc slack c with | none => slack + 1 | some b => Sc b) then some c else kpL N Sc slack c) = _
            rw [if_neg (fun q => hr q.1)]
          have h9 := ih (c + 1) μ4 (by omega) (fun c c1 c2 c3 c4 c5 => by rw [g4 c c2 c3]; exact h3 c c1 c2 c3 c4 c5) (fun b hb => by
            rw [hkp0] at hb
            exact (hk b hb).kept (by rw [g4 _ (by omega) (by omega)]) (by rw [g4 _ (by omega) (by omega)]))
          rw [hkp0] at h9
          rw [e5]
          exact h9
  refine sX0_judge_20 hE q hq u hu ?_
  have hsl2 : μ2 (q + 1) 2 = ii slack := by rw [a2 (q + 1) (by omega) (by omega) (by omega)]; exact hsl
  rw [hsl2, ii_1, ii_add]
  exact key 16 0 μ2 (by omega) (fun _ _ _ _ _ _ => rfl) (fun b hb => by simp [kpL] at hb)
end JJU
