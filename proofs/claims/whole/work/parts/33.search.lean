section JSE
variable {g : jm_G} {ad : Nat → Nat} {P : Option Value → (Nat → Nat → Int32) → Prop}
/-- a point of the frame -/
def pt (x y : Int) : Prop := 0 ≤ x ∧ x ≤ 40 ∧ 0 ≤ y ∧ y ≤ 40
/-- the point (x, y) doesn't beat the spread S at (X, Y) -/
def Wn (sp : Int) (t : Nat → Int) (S X Y x y : Int) : Prop := S < spr sp t x y ∨ (S = spr sp t x y ∧ (Y < y ∨ (Y = y ∧ X ≤ x)))
/-- the place: the first of the points with the least spread -/
def isBest (sp : Int) (t : Nat → Int) (S X Y : Int) : Prop := pt X Y ∧ S = spr sp t X Y ∧ ∀ x y : Int, pt x y → Wn sp t S X Y x y
theorem isBest.uniq {sp : Int} {t : Nat → Int} {S X Y S' X' Y' : Int} (h : isBest sp t S X Y) (h' : isBest sp t S' X' Y') : S = S' ∧ X = X' ∧ Y = Y' := by
  have h1 := h.2.2 X' Y' h'.1
  have h2 := h'.2.2 X Y h.1
  have e1 := h.2.1
  have e2 := h'.2.1
  unfold Wn at h1 h2
  rw [← e2] at h1
  rw [← e1] at h2
  omega
def lag02 (sp x y : Int) : Int := tD sp x y - tD sp (40 - x) (40 - y)
def lag13 (sp x y : Int) : Int := tD sp (40 - x) y - tD sp x (40 - y)
theorem lag02_mono {sp x y x' y' : Int} (hs : 0 < sp) (h1 : 0 ≤ x) (h2 : x ≤ x') (h3 : x' ≤ 40) (h4 : 0 ≤ y) (h5 : y ≤ y') (h6 : y' ≤ 40) : lag02 sp x y ≤ lag02 sp x' y' := by
  have a := tD_mono hs h1 h2 h3 h4 h5 h6
  have b := tD_mono (dx := 40 - x') (dx' := 40 - x) (dy := 40 - y') (dy' := 40 - y) hs (by omega) (by omega) (by omega) (by omega) (by omega) (by omega)
  unfold lag02
  omega
theorem lag13_mono {sp x y x' y' : Int} (hs : 0 < sp) (h1 : 0 ≤ x') (h2 : x' ≤ x) (h3 : x ≤ 40) (h4 : 0 ≤ y) (h5 : y ≤ y') (h6 : y' ≤ 40) : lag13 sp x y ≤ lag13 sp x' y' := by
  have a := tD_mono (dx := 40 - x) (dx' := 40 - x') (dy := y) (dy' := y') hs (by omega) (by omega) (by omega) h4 h5 h6
  have b := tD_mono (dx := x') (dx' := x) (dy := 40 - y') (dy' := 40 - y) hs (by omega) (by omega) (by omega) (by omega) (by omega) (by omega)
  unfold lag13
  omega
theorem spr_02 {sp : Int} {t : Nat → Int} {x y : Int} : (t 0 - t 2) - lag02 sp x y ≤ spr sp t x y ∧ -((t 0 - t 2) - lag02 sp x y) ≤ spr sp t x y := by
  have e0 : stt sp t x y 0 = t 0 - tD sp x y := rfl
  have e2 : stt sp t x y 2 = t 2 - tD sp (40 - x) (40 - y) := rfl
  unfold spr gstS lstS lag02
  omega
theorem spr_13 {sp : Int} {t : Nat → Int} {x y : Int} : (t 1 - t 3) - lag13 sp x y ≤ spr sp t x y ∧ -((t 1 - t 3) - lag13 sp x y) ≤ spr sp t x y := by
  have e0 : stt sp t x y 1 = t 1 - tD sp (40 - x) y := rfl
  have e2 : stt sp t x y 3 = t 3 - tD sp x (40 - y) := rfl
  unfold spr gstS lstS lag13
  omega
/-- how far the search is: lines below L are done; in the lines to come, what lies left of l and right of r needs no look -/
def sI (sp : Int) (t : Nat → Int) (lim : Int) (μ0 μ : Nat → Nat → Int32) (L l r S X Y : Int) : Prop :=
  (0 ≤ l ∧ l ≤ 41 ∧ -1 ≤ r ∧ r ≤ 40) ∧ ir X ∧ (μ 33 1 = ii X ∧ μ 33 2 = ii Y ∧ μ 33 3 = ii S ∧ ∀ c : Nat, c ≠ 33 → μ c = μ0 c) ∧ ((Y = -1 ∧ S = lim) ∨ (0 ≤ Y ∧ Y ≤ 40 ∧ 0 ≤ X ∧ X ≤ 40 ∧ Y ≤ L ∧ S = spr sp t X Y ∧ S < lim)) ∧
  (∀ x y : Int, pt x y → y < L → Wn sp t S X Y x y) ∧ (∀ x y : Int, pt x y → L ≤ y → x < l → S < spr sp t x y) ∧ (∀ x y : Int, pt x y → L ≤ y → r < x → S < spr sp t x y)
theorem c_X1_search {μ : Nat → Nat → Int32} {sp lim : Int} {t : Nat → Int} (hs : 313 ≤ sp) (hT : FTm μ sp) (ht : tF μ t) (hB : tB t) (hlim : 1 ≤ lim ∧ lim ≤ 1000)
    (h0 : ∀ μ' : Nat → Nat → Int32, (∀ x y : Int, pt x y → lim ≤ spr sp t x y) → (∀ c : Nat, c ≠ 33 → μ' c = μ c) → P (some (.int 0)) μ')
    (h1 : ∀ (μ' : Nat → Nat → Int32) (S X Y : Int), isBest sp t S X Y → S < lim → μ' 33 1 = ii X → μ' 33 2 = ii Y → μ' 33 3 = ii S → (∀ c : Nat, c ≠ 33 → μ' c = μ c) → P (some (.int 1)) μ') : jD g ad m_X1_search [.ref 33, .ref 29, .int (ii lim)] μ P := by
  refine jd_intro [some (.ref 33), some (.ref 29), some (.int (ii lim)), none, none, none, none, none, none, none] (by decide) rfl rfl (fun κ hE => ?_)
  have b0 := hB 0 (by omega)
  have b1 := hB 1 (by omega)
  have b2 := hB 2 (by omega)
  have b3 := hB 3 (by omega)
  -- the end
  have fin : ∀ (μ2 : Nat → Nat → Int32) (L l r S X Y : Int), sI sp t lim μ μ2 L l r S X Y → (∀ x y : Int, pt x y → Wn sp t S X Y x y) → ((μ2 33 2 = -1 → P (some (.int 0)) μ2) ∧ (¬ μ2 33 2 = -1 → P (some (.int 1)) μ2)) := by
    intro μ2 L l r S X Y hI hall
    obtain ⟨-, hX, ⟨m1, m2, m3, m4⟩, hv, -⟩ := hI
    rw [m2, ii_m1]
    refine ⟨fun c => ?_, fun c => ?_⟩
    · rw [ii_eq (by omega) (by omega)] at c
      refine h0 μ2 (fun x y hp => ?_) m4
      have := hall x y hp
      unfold Wn at this
      omega
    · rw [ii_eq (by omega) (by omega)] at c
      rcases hv with hv | ⟨v1, v2, v3, v4, v5, v6, v7⟩
      · exact absurd hv.1 c
      · exact h1 μ2 S X Y ⟨⟨v3, v4, v1, v2⟩, v6, hall⟩ v7 m1 m2 m3 m4
  have line : ∀ (k : Nat) (μ2 : Nat → Nat → Int32) (L l r S X Y : Int), 0 ≤ L → L + k = 41 → sI sp t lim μ μ2 L l r S X Y → jS g ad m_X1_search κ 49 [some (.ref 33), some (.ref 29), none, some (.int (ii (t 0 - t 2))), some (.int (ii (t 1 - t 3))), some (.int (ii l)), some (.int (ii r)), some (.int (ii L)), none, none] [] μ2 := by
    intro k
    induction k with
    | zero =>
      intro μ2 L l r S X Y hL0 hL hI
      have hall : ∀ x y : Int, pt x y → Wn sp t S X Y x y := fun x y hp => hI.2.2.2.2.1 x y hp (by unfold pt at hp; omega)
      refine sX1_search_49 hE _ _ _ _ _ ⟨fun _ => fin μ2 L l r S X Y hI hall, fun c => ?_⟩
      simp (disch := omega) only [ii_lit, ii_neg, ii_add, ii_sub, ii_mul, ii_lt, ii_le, ii_eq] at c
      omega
    | succ k ih =>
      intro μ2 L l r S X Y hL0 hL hI
      -- the points of a line
      have walk : ∀ (n : Nat) (μ3 : Nat → Nat → Int32) (l r i S X Y : Int), i + 1 = l + n → i ≤ r → l - 1 ≤ i → sI sp t lim μ μ3 L l r S X Y → (∀ x : Int, pt x L → i < x → Wn sp t S X Y x L) → jS g ad m_X1_search κ 131 [some (.ref 33), some (.ref 29), none, some (.int (ii (t 0 - t 2))), some (.int (ii (t 1 - t 3))), some (.int (ii l)), some (.int (ii r)), some (.int (ii L)), some (.int (ii i)), none] [] μ3 := by
        intro n
        induction n with
        | zero =>
          intro μ3 l r i S X Y hi hir hil hI hw
          obtain ⟨hb, hX, hm, hv, hd, hl, hr⟩ := hI
          refine sX1_search_131 hE _ _ _ _ _ _ ⟨fun _ => ?_, fun c => ?_⟩
          · rw [ii_1, ii_add]
            refine ih μ3 (L + 1) l r S X Y (by omega) (by omega) ⟨hb, hX, hm, by omega, fun x y hp hy => ?_, fun x y hp hy hx => hl x y hp (by omega) hx, fun x y hp hy hx => hr x y hp (by omega) hx⟩
            rcases Int.lt_or_le y L with c | c
            · exact hd x y hp c
            · have e : y = L := by omega
              subst e
              rcases Int.lt_or_le i x with c2 | c2
              · exact hw x hp c2
              · exact Or.inl (hl x y hp (by omega) (by omega))
          · simp (disch := omega) only [ii_lit, ii_neg, ii_add, ii_sub, ii_mul, ii_lt, ii_le, ii_eq] at c
            omega
        | succ n ihn =>
          intro μ3 l r i S X Y hi hir hil hI hw
          have hI9 := hI
          obtain ⟨hb, hX, hm, hv, hd, hl, hr⟩ := hI
          have hpi : pt i L := by unfold pt; omega
          have hsp := spr_rng hs hB (x := i) (y := L) (by omega) (by omega)
          have hT3 : FTm μ3 sp := ⟨by rw [hm.2.2.2 29 (by decide)]; exact hT.1, fun j hj => by rw [hm.2.2.2 31 (by decide)]; exact hT.2 j hj⟩
          have ht3 : tF μ3 t := fun e he => by rw [hm.2.2.2 34 (by decide)]; exact ht e he
          have hSr : 0 ≤ S ∧ S ≤ 1000 := by
            rcases hv with hv | hv
            · omega
            · have := spr_rng hs hB (x := X) (y := Y) (by omega) (by omega)
              omega
          have g1 := tD_rng (dx := i) (dy := L) hs (by omega) (by omega)
          have g2 := tD_rng (dx := 40 - i) (dy := 40 - L) hs (by omega) (by omega)
          have g3 := tD_rng (dx := 40 - i) (dy := L) hs (by omega) (by omega)
          have g4 := tD_rng (dx := i) (dy := 40 - L) hs (by omega) (by omega)
          have go : ∀ (S' X' Y' : Int) (μ4 : Nat → Nat → Int32), sI sp t lim μ μ4 L l r S' X' Y' → (∀ x : Int, pt x L → i - 1 < x → Wn sp t S' X' Y' x L) → jS g ad m_X1_search κ 131 [some (.ref 33), some (.ref 29), none, some (.int (ii (t 0 - t 2))), some (.int (ii (t 1 - t 3))), some (.int (ii l)), some (.int (ii r)), some (.int (ii L)), some (.int (ii i + -1)), none] [] μ4 := by
            intro S' X' Y' μ4 hI' hw'
            rw [ii_m1, ii_add]
            exact ihn μ4 l r (i - 1) S' X' Y' (by omega) (by omega) (by omega) hI' hw'
          refine sX1_search_131 hE _ _ _ _ _ _ ⟨fun c => ?_, fun _ => ?_⟩
          · simp (disch := omega) only [ii_lit, ii_neg, ii_add, ii_sub, ii_mul, ii_lt, ii_le, ii_eq] at c
            omega
          refine c_X2_lag hs hT3 (by omega) (by omega) (sX1_search_147 hE _ _ _ _ _ _ _ _ ?_)
          rw [hm.2.2.1, ii_sub, ii_lt (by omega) (by omega)]
          refine ⟨fun c => ?_, fun c => ?_⟩
          · -- nothing further in this line
            rw [ii_1, ii_add]
            refine ih μ3 (L + 1) l r S X Y (by omega) (by omega) ⟨hb, hX, hm, by omega, fun x y hp hy => ?_, fun x y hp hy hx => hl x y hp (by omega) hx, fun x y hp hy hx => hr x y hp (by omega) hx⟩
            rcases Int.lt_or_le y L with c | c
            · exact hd x y hp c
            · have e : y = L := by omega
              subst e
              rcases Int.lt_or_le i x with c2 | c2
              · exact hw x hp c2
              · have q1 := lag02_mono (sp := sp) (x := x) (x' := i) (y := y) (y' := y) (by omega) hp.1 c2 (by omega) (by omega) (by omega) (by omega)
                have q2 := (spr_02 (sp := sp) (t := t) (x := x) (y := y)).1
                refine Or.inl ?_
                unfold lag02 at q1 q2
                omega
          · have e40 : (40 : Int32) - ii i = ii (40 - i) := by simp (disch := omega) only [ii_lit, ii_neg, ii_add, ii_sub, ii_mul, ii_lt, ii_le, ii_eq]
            rw [e40]
            refine c_X2_lag hs hT3 (by omega) (by omega) (sX1_search_168 hE _ _ _ _ _ _ _ _ ?_)
            rw [hm.2.2.1, ii_sub, show (40 - (40 - i) : Int) = i by omega, ii_le (by omega) (by omega)]
            have q2 := spr_13 (sp := sp) (t := t) (x := i) (y := L)
            unfold lag13 at q2
            refine ⟨fun c2 => ?_, fun c2 => ?_⟩
            · refine c_X1_spreadAt hs hT3 ht3 hB (by omega) (by omega) (sX1_search_188 hE _ _ _ _ _ _ _ ?_)
              rw [hm.2.2.1, hm.2.1, ii_lt (by omega) (by omega), ii_eq (by omega) (by omega), ii_eq (by omega) (by omega)]
              refine ⟨fun c3 => ?_, fun c3 => ⟨fun c4 => ?_, fun c4 => ⟨fun c5 => ?_, fun c5 => ?_⟩⟩⟩
              · intro μa ea μb eb μc ec
                refine go (spr sp t i L) i L μc ⟨hb, by omega, ⟨?_, ?_, ?_, fun c cc => ?_⟩, Or.inr ⟨hL0, by omega, by omega, by omega, by omega, rfl, by omega⟩, fun x y hp hy => ?_, fun x y hp hy hx => ?_, fun x y hp hy hx => ?_⟩ (fun x hp hx => ?_)
                · rw [ec, jm_st_ni _ _ _ (by decide), eb, jm_st_ni _ _ _ (by decide), ea, jm_st_s]
                · rw [ec, jm_st_ni _ _ _ (by decide), eb, jm_st_s]
                · rw [ec, jm_st_s]
                · rw [ec, jm_st_nc _ _ _ cc, eb, jm_st_nc _ _ _ cc, ea, jm_st_nc _ _ _ cc]
                  exact hm.2.2.2 c cc
                · have := hd x y hp hy
                  unfold Wn at this ⊢
                  omega
                · have := hl x y hp hy hx
                  omega
                · have := hr x y hp hy hx
                  omega
                · rcases Int.lt_or_le i x with c5 | c5
                  · have := hw x hp c5
                    unfold Wn at this ⊢
                    omega
                  · have e : x = i := by omega
                    subst e
                    exact Or.inr ⟨rfl, Or.inr ⟨rfl, by omega⟩⟩
              · refine go S X Y μ3 hI9 (fun x hp hx => ?_)
                rcases Int.lt_or_le i x with c5 | c5
                · exact hw x hp c5
                · have e : x = i := by omega
                  subst e
                  exact Or.inl (by omega)
              · refine go S X Y μ3 hI9 (fun x hp hx => ?_)
                rcases Int.lt_or_le i x with c6 | c6
                · exact hw x hp c6
                · have e : x = i := by omega
                  subst e
                  exact Or.inr ⟨by omega, Or.inl (by omega)⟩
              · intro μa ea μb eb μc ec
                have hSe : spr sp t i L = S := by omega
                refine go (spr sp t i L) i L μc ⟨hb, by omega, ⟨?_, ?_, ?_, fun c cc => ?_⟩, Or.inr ⟨hL0, by omega, by omega, by omega, by omega, rfl, by omega⟩, fun x y hp hy => ?_, fun x y hp hy hx => ?_, fun x y hp hy hx => ?_⟩ (fun x hp hx => ?_)
                · rw [ec, jm_st_ni _ _ _ (by decide), eb, jm_st_ni _ _ _ (by decide), ea, jm_st_s]
                · rw [ec, jm_st_ni _ _ _ (by decide), eb, jm_st_s]
                · rw [ec, jm_st_s]
                · rw [ec, jm_st_nc _ _ _ cc, eb, jm_st_nc _ _ _ cc, ea, jm_st_nc _ _ _ cc]
                  exact hm.2.2.2 c cc
                · have := hd x y hp hy
                  unfold Wn at this ⊢
                  omega
                · have := hl x y hp hy hx
                  omega
                · have := hr x y hp hy hx
                  omega
                · rcases Int.lt_or_le i x with c6 | c6
                  · have := hw x hp c6
                    unfold Wn at this ⊢
                    omega
                  · have e : x = i := by omega
                    subst e
                    exact Or.inr ⟨rfl, Or.inr ⟨rfl, by omega⟩⟩
            · refine go S X Y μ3 hI9 (fun x hp hx => ?_)
              rcases Int.lt_or_le i x with c5 | c5
              · exact hw x hp c5
              · have e : x = i := by omega
                subst e
                exact Or.inl (by omega)
      -- the left bound
      have lft : ∀ (n : Nat) (μ3 : Nat → Nat → Int32) (l r S X Y : Int), l + n = 41 → sI sp t lim μ μ3 L l r S X Y → jS g ad m_X1_search κ 92 [some (.ref 33), some (.ref 29), none, some (.int (ii (t 0 - t 2))), some (.int (ii (t 1 - t 3))), some (.int (ii l)), some (.int (ii r)), some (.int (ii L)), none, none] [] μ3 := by
        intro n
        induction n with
        | zero =>
          intro μ3 l r S X Y hn hI
          have hI9 := hI
          obtain ⟨hb, hX, hm, hv, hd, hl, hr⟩ := hI
          have hw : ∀ x : Int, pt x L → Wn sp t S X Y x L := fun x hp => Or.inl (hl x L hp (by omega) (by unfold pt at hp; omega))
          refine sX1_search_92 hE _ _ _ _ _ ⟨fun _ => ?_, fun c => ?_⟩
          · refine sX1_search_131 hE _ _ _ _ _ _ ⟨fun _ => ?_, fun c => ?_⟩
            · rw [ii_1, ii_add]
              refine ih μ3 (L + 1) l r S X Y (by omega) (by omega) ⟨hb, hX, hm, by omega, fun x y hp hy => ?_, fun x y hp hy hx => hl x y hp (by omega) hx, fun x y hp hy hx => hr x y hp (by omega) hx⟩
              rcases Int.lt_or_le y L with c | c
              · exact hd x y hp c
              · have e : y = L := by omega
                subst e
                exact hw x hp
            · simp (disch := omega) only [ii_lit, ii_neg, ii_add, ii_sub, ii_mul, ii_lt, ii_le, ii_eq] at c
              omega
          · simp (disch := omega) only [ii_lit, ii_neg, ii_add, ii_sub, ii_mul, ii_lt, ii_le, ii_eq] at c
            omega
        | succ n ihn =>
          intro μ3 l r S X Y hn hI
          have hI9 := hI
          obtain ⟨hb, hX, hm, hv, hd, hl, hr⟩ := hI
          refine sX1_search_92 hE _ _ _ _ _ ⟨fun c => ?_, fun c => ?_⟩
          · simp (disch := omega) only [ii_lit, ii_neg, ii_add, ii_sub, ii_mul, ii_lt, ii_le, ii_eq] at c
            have hw : ∀ x : Int, pt x L → Wn sp t S X Y x L := by
              intro x hp
              rcases Int.lt_or_le x l with c2 | c2
              · exact Or.inl (hl x L hp (by omega) c2)
              · exact Or.inl (hr x L hp (by omega) (by omega))
            refine sX1_search_131 hE _ _ _ _ _ _ ⟨fun _ => ?_, fun c => ?_⟩
            · rw [ii_1, ii_add]
              refine ih μ3 (L + 1) l r S X Y (by omega) (by omega) ⟨hb, hX, hm, by omega, fun x y hp hy => ?_, fun x y hp hy hx => hl x y hp (by omega) hx, fun x y hp hy hx => hr x y hp (by omega) hx⟩
              rcases Int.lt_or_le y L with c | c
              · exact hd x y hp c
              · have e : y = L := by omega
                subst e
                exact hw x hp
            · simp (disch := omega) only [ii_lit, ii_neg, ii_add, ii_sub, ii_mul, ii_lt, ii_le, ii_eq] at c
              omega
          · simp (disch := omega) only [ii_lit, ii_neg, ii_add, ii_sub, ii_mul, ii_lt, ii_le, ii_eq] at c
            have hT3 : FTm μ3 sp := ⟨by rw [hm.2.2.2 29 (by decide)]; exact hT.1, fun j hj => by rw [hm.2.2.2 31 (by decide)]; exact hT.2 j hj⟩
            have hSr : 0 ≤ S ∧ S ≤ 1000 := by
              rcases hv with hv | hv
              · omega
              · have := spr_rng hs hB (x := X) (y := Y) (by omega) (by omega)
                omega
            have g3 := tD_rng (dx := 40 - l) (dy := L) hs (by omega) (by omega)
            have g4 := tD_rng (dx := l) (dy := 40 - L) hs (by omega) (by omega)
            have e40 : (40 : Int32) - ii l = ii (40 - l) := by simp (disch := omega) only [ii_lit, ii_neg, ii_add, ii_sub, ii_mul, ii_lt, ii_le, ii_eq]
            rw [e40]
            refine c_X2_lag hs hT3 (by omega) (by omega) (sX1_search_112 hE _ _ _ _ _ _ _ ?_)
            rw [hm.2.2.1, ii_neg, ii_sub, show (40 - (40 - l) : Int) = l by omega, ii_le (by omega) (by omega)]
            refine ⟨fun _ => ?_, fun c2 => ?_⟩
            · refine walk (r + 1 - l).toNat μ3 l r r S X Y (by omega) (by omega) (by omega) hI9 (fun x hp hx => Or.inl (hr x L hp (by omega) hx))
            · rw [ii_1, ii_add]
              refine ihn μ3 (l + 1) r S X Y (by omega) ⟨by omega, hX, hm, hv, hd, fun x y hp hy hx => ?_, hr⟩
              rcases Int.lt_or_le x l with c3 | c3
              · exact hl x y hp hy c3
              · have q1 := lag13_mono (sp := sp) (x := l) (x' := x) (y := L) (y' := y) (by omega) hp.1 (by omega) (by omega) hL0 hy hp.2.2.2
                have q2 := (spr_13 (sp := sp) (t := t) (x := x) (y := y)).2
                unfold lag13 at q1 q2
                omega
      -- the right bound
      have rgt : ∀ (n : Nat) (μ3 : Nat → Nat → Int32) (l r S X Y : Int), r + 1 = n → sI sp t lim μ μ3 L l r S X Y → jS g ad m_X1_search κ 63 [some (.ref 33), some (.ref 29), none, some (.int (ii (t 0 - t 2))), some (.int (ii (t 1 - t 3))), some (.int (ii l)), some (.int (ii r)), some (.int (ii L)), none, none] [] μ3 := by
        intro n
        induction n with
        | zero =>
          intro μ3 l r S X Y hn hI
          refine sX1_search_63 hE _ _ _ _ _ ⟨fun _ => lft (41 - l).toNat μ3 l r S X Y (by have := hI.1; omega) hI, fun c => ?_⟩
          simp (disch := omega) only [ii_lit, ii_neg, ii_add, ii_sub, ii_mul, ii_lt, ii_le, ii_eq] at c
          omega
        | succ n ihn =>
          intro μ3 l r S X Y hn hI
          have hI9 := hI
          obtain ⟨hb, hX, hm, hv, hd, hl, hr⟩ := hI
          refine sX1_search_63 hE _ _ _ _ _ ⟨fun c => ?_, fun c => ?_⟩
          · simp (disch := omega) only [ii_lit, ii_neg, ii_add, ii_sub, ii_mul, ii_lt, ii_le, ii_eq] at c
            omega
          · have hT3 : FTm μ3 sp := ⟨by rw [hm.2.2.2 29 (by decide)]; exact hT.1, fun j hj => by rw [hm.2.2.2 31 (by decide)]; exact hT.2 j hj⟩
            have hSr : 0 ≤ S ∧ S ≤ 1000 := by
              rcases hv with hv | hv
              · omega
              · have := spr_rng hs hB (x := X) (y := Y) (by omega) (by omega)
                omega
            have g3 := tD_rng (dx := r) (dy := L) hs (by omega) (by omega)
            have g4 := tD_rng (dx := 40 - r) (dy := 40 - L) hs (by omega) (by omega)
            refine c_X2_lag hs hT3 (by omega) (by omega) (sX1_search_77 hE _ _ _ _ _ _ _ ?_)
            rw [hm.2.2.1, ii_neg, ii_sub, ii_le (by omega) (by omega)]
            refine ⟨fun _ => lft (41 - l).toNat μ3 l r S X Y (by omega) hI9, fun c2 => ?_⟩
            rw [ii_m1, ii_add]
            refine ihn μ3 l (r - 1) S X Y (by omega) ⟨by omega, hX, hm, hv, hd, hl, fun x y hp hy hx => ?_⟩
            rcases Int.lt_or_le r x with c3 | c3
            · exact hr x y hp hy c3
            · have q1 := lag02_mono (sp := sp) (x := r) (x' := x) (y := L) (y' := y) (by omega) (by omega) (by omega) hp.2.1 hL0 hy hp.2.2.2
              have q2 := (spr_02 (sp := sp) (t := t) (x := x) (y := y)).2
              unfold lag02 at q1 q2
              omega
      refine sX1_search_49 hE _ _ _ _ _ ⟨fun c => ?_, fun c => ⟨fun c2 => ?_, fun c2 => ?_⟩⟩
      · simp (disch := omega) only [ii_lit, ii_neg, ii_add, ii_sub, ii_mul, ii_lt, ii_le, ii_eq] at c
        omega
      · have hb := hI.1
        simp (disch := omega) only [ii_lit, ii_neg, ii_add, ii_sub, ii_mul, ii_lt, ii_le, ii_eq] at c2
        refine fin μ2 L l r S X Y hI (fun x y hp => ?_)
        rcases Int.lt_or_le y L with c3 | c3
        · exact hI.2.2.2.2.1 x y hp c3
        · rcases Int.lt_or_le x l with c4 | c4
          · exact Or.inl (hI.2.2.2.2.2.1 x y hp c3 c4)
          · exact Or.inl (hI.2.2.2.2.2.2 x y hp c3 (by omega))
      · exact rgt (r + 1).toNat μ2 l r S X Y (by have := hI.1; omega) hI
  refine sX1_search_0 hE _ ?_
  intro μ1 e1 μ2 e2
  have ec : ∀ c : Nat, c ≠ 33 → μ2 c = μ c := fun c cc => by rw [e2, jm_st_nc _ _ _ cc, e1, jm_st_nc _ _ _ cc]
  rw [ec 34 (by decide), ht 0 (by omega), ht 1 (by omega), ht 2 (by omega), ht 3 (by omega), ii_sub, ii_sub]
  refine line 41 μ2 0 0 40 lim (μ2 33 1).toInt (-1) (by omega) (by omega) ⟨by omega, ii_rng _, ⟨(ii_self _).symm, ?_, ?_, ec⟩, Or.inl ⟨rfl, rfl⟩, fun x y hp hy => ?_, fun x y hp hy hx => ?_, fun x y hp hy hx => ?_⟩
  · rw [e2, jm_st_s]; decide
  · rw [e2, jm_st_ni _ _ _ (by decide), e1, jm_st_s]
  · unfold pt at hp; omega
  · unfold pt at hp; omega
  · unfold pt at hp; omega
end JSE
