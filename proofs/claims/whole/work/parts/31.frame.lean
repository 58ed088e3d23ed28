section JFR
variable {g : jm_G} {ad : Nat → Nat} {μ : Nat → Nat → Int32} {P : Option Value → (Nat → Nat → Int32) → Prop}
theorem jm_ofWF {l : Launch} {y : MethodName} {ws ws' : List Cond} {rm : Room} {Pc : Array Value → State → Prop} {Qc : Array Value → State → Outcome → State → Prop} {mc ms : Nat} {free : Addr → Prop} {cc : ByteArray} {maxL : Nat} {ret : Option FieldType}
    (hy : plainFor y = true) (hw : ws = Cond.code y cc maxL ret :: ws')
    (body : ∀ p e s m args below meth c s₁, BodyLoose p l y (headSpec ws rm) cc maxL ret e s m args below meth c s₁ → c.maxLocals = maxL → Pc args s →
      W p l e (headSpec ws rm).room s m args below meth c s.heap [] 0 0 (MQ below Qc args s mc ms free) (entryFrame m args maxL)) : Met l y ws rm Pc Qc mc ms free := by
  refine MetFree.of_bodySF (code := cc) (maxLocals := maxL) (ret := ret) hy ?_ ?_
  · intro args s m h hn
    obtain ⟨meth, c, h1, h2, h3, h4, h5, h6, -, -⟩ := Cond.code_spec hn (atoms_spec (ws := ws) h _ (by rw [hw]; exact List.mem_cons_self))
    exact ⟨meth, c, h1, h2, h3, h4, h5, h6⟩
  · intro p e s m args below meth c s₁ B hml hP _
    have hh0 : s₁.heap = s.heap := by rw [B.state]; rfl
    obtain ⟨t, a1, o, b1, b2, b3⟩ := body p e s m args below meth c s₁ B hml hP s₁ hh0 (Stand.of_body B)
    exact ⟨t, o, a1, b1, b2, ⟨b3.1, b3.2⟩⟩
theorem jm_introF {g : jm_G} {M : jm_M} {av : List Value} {w : jm_W} {P : Option Value → jm_W → Prop} (ls : List (Option Value)) (hy : plainFor M.1 = true) (hav : jm_ok0 av M.2.2.1 = true) (hls : jm_l0 av ++ List.replicate (M.2.2.1 - (jm_l0 av).length) none = ls)
    (body : ∀ κ : jm_K, jm_E g M P κ → jm_R g M κ 0 0 0 ls [] w) : jm_Cp g M av w P := by
  intro sz
  refine jm_ofWF (cc := M.2.1) (maxL := M.2.2.1) (ret := M.2.2.2.1) hy rfl ?_
  intro p e s m args below meth c s₁ B hml hv
  obtain ⟨hargs, hsz, hP, hD0, hSt, hRo⟩ := hv
  have hx := B.exec
  have hb := B.bytes
  have hr := B.returns
  have hts := atoms_spec (ws := jm_ws M) B.pre
  have hown : s.vm.findClass M.1.cls = some m.cls := findClass_of_methodNamed B.named
  have hin : meth.name = M.1.name := (name_of_methodNamed B.named B.method).1
  have hlocks := B.notSynchronized
  subst hsz
  have hD := hD0.self (sz := s.heap.size)
  have hA : ∀ q : Nat, s.heap.size ≤ q → va_A (jm_conc g w) s.heap.size q := fun q h => Or.inr h
  have hl := lv_entry (av.map (jm_tr g.2.2.2.1 w.2.1)) (n := M.2.2.1) (jm_sl_len _ _ av _ hav)
  subst hargs
  rw [lg_entry_eq]
  have hb2 := body (p, e, s, m, (av.map (jm_tr g.2.2.2.1 w.2.1)).toArray, below, meth, c, va_A (jm_conc g w) s.heap.size, MQ below (jm_Qc g P (va_A (jm_conc g w) s.heap.size)) (av.map (jm_tr g.2.2.2.1 w.2.1)).toArray s M.2.2.2.2.cells M.2.2.2.2.slots (va_A (jm_conc g w) s.heap.size)) rfl
  refine hb2 ⟨hx, hb, hml, hr, hown, fun w hw => hts w (List.mem_cons_of_mem _ hw), hlocks, fun _ => hin, hSt, hRo, hA⟩ s.heap [] _ hP hD va_S.rf (jm_has hl ?_)
  intro q hq
  obtain ⟨v, h1, h2⟩ := jm_ls_in.mp hq
  rw [← hls] at h1
  by_cases hlen : q.1 < (jm_l0 av).length
  · rw [List.getElem?_append_left hlen] at h1
    have h3 := jm_l0_in g.2.2.2.1 w.2.1 av 0 q.1 v h1
    rw [Nat.zero_add, ← h2] at h3
    exact h3
  · rw [List.getElem?_append_right (by omega)] at h1
    have h4 := List.eq_of_mem_replicate (List.mem_of_getElem? h1)
    cases h4
theorem jd_introF {M : jm_M} {av : List Value} (ls : List (Option Value)) (hy : plainFor M.1 = true) (hav : jm_ok0 av M.2.2.1 = true) (hls : jm_l0 av ++ List.replicate (M.2.2.1 - (jm_l0 av).length) none = ls) (body : ∀ κ : jm_K, jE g ad M P κ → jS g ad M κ 0 ls [] μ) : jD g ad M av μ P := jm_introF ls hy hav hls body
/-- the bit that is tried with k bits to go -/
def btI : Nat → Int
  | 0 => 0
  | k + 1 => 2 ^ k
theorem btI_half (k : Nat) : btI (k + 1) / 2 = btI k := by
  cases k with
  | zero => rfl
  | succ k => simp only [btI, Int.pow_succ]; omega
theorem two_pow_le {k m : Nat} (h : k ≤ m) : (2 : Int) ^ k ≤ 2 ^ m := by
  have := Nat.pow_le_pow_right (by decide : 0 < 2) h
  exact_mod_cast this
theorem c_X2_rootOf {v : Int} (hv : 0 ≤ v ∧ v < 67108864) (h : P (some (.int (ii (rt v)))) μ) : jD g ad m_X2_rootOf [.int (ii v)] μ P := by
  refine jd_intro [some (.int (ii v)), none, none] (by decide) rfl rfl (fun κ hE => ?_)
  have key : ∀ (k : Nat) (r : Int), k ≤ 13 → 0 ≤ r → r + 2 ^ k ≤ 8192 → P (some (.int (ii (rtF v k r)))) μ → jS g ad m_X2_rootOf κ 6 [some (.int (ii v)), some (.int (ii r)), some (.int (ii (btI k)))] [] μ := by
    intro k
    induction k with
    | zero =>
      intro r _ h0 _ hp
      refine sX2_rootOf_6 hE _ _ _ ⟨fun _ => hp, fun c => absurd (by decide) c⟩
    | succ k ih =>
      intro r hk h0 hr hp
      have hp0 : (0 : Int) < 2 ^ k := Int.pow_pos (by decide)
      have hp1 : (2 : Int) ^ k ≤ 2 ^ 13 := two_pow_le (by omega)
      have hp2 : (2 : Int) ^ 13 = 8192 := by decide
      have e : (2 : Int) ^ (k + 1) = 2 ^ k + 2 ^ k := by rw [Int.pow_succ]; omega
      have hm : (r + 2 ^ k) * (r + 2 ^ k) ≤ 8192 * 8192 := Int.mul_le_mul (by omega) (by omega) (by omega) (by decide)
      have hm0 : 0 ≤ (r + 2 ^ k) * (r + 2 ^ k) := Int.mul_nonneg (by omega) (by omega)
      have hb : ii (btI (k + 1)) / 2 = ii (btI k) := by
        rw [ii_lit, ii_div (by simp only [btI]; omega) (by simp only [btI]; omega) (by decide) (by decide), btI_half]
      refine sX2_rootOf_6 hE _ _ _ ⟨fun c => ?_, fun c => ⟨fun c2 => ?_, fun c2 => ?_⟩⟩
      · rw [ii_0, ii_le (by simp only [btI]; omega) (by omega)] at c
        simp only [btI] at c
        omega
      · rw [ii_add, ii_mul, ii_lt (by omega) (by simp only [btI]; omega)] at c2
        simp only [btI] at c2
        simp only [rtF] at hp
        rw [if_pos c2] at hp
        rw [hb]
        exact ih r (by omega) h0 (by omega) hp
      · rw [ii_add, ii_mul, ii_lt (by omega) (by simp only [btI]; omega)] at c2
        simp only [btI] at c2
        simp only [rtF] at hp
        rw [if_neg c2] at hp
        rw [hb, ii_add]
        exact ih (r + 2 ^ k) (by omega) (by omega) (by omega) hp
  refine sX2_rootOf_0 hE _ ?_
  have h13 := key 13 0 (Nat.le_refl _) (by decide) (by decide) h
  have e1 : (0 : Int32) = ii 0 := by decide
  have e2 : (4096 : Int32) = ii (btI 13) := by decide
  rw [e1, e2]
  exact h13
theorem c_J9_floorDiv {z : Int} (hz : -90 ≤ z ∧ z ≤ 150) (h : P (some (.int (ii (z / 5)))) μ) : jD g ad m_J9_floorDiv_7cf53 [.int (ii z), .int 5] μ P := by
  refine jd_introF [some (.int (ii z)), some (.int 5), none] (by decide +kernel) rfl rfl (fun κ hE => ?_)
  have key : ∀ k : Nat, k < 241 → (0 ≤ (ii ((k : Int) - 90) ^^^ 5) → ii ((k : Int) - 90) / 5 = ii (((k : Int) - 90) / 5)) ∧ (¬ 0 ≤ (ii ((k : Int) - 90) ^^^ 5) → (((ii ((k : Int) - 90) / 5) * 5 = ii ((k : Int) - 90) → ii ((k : Int) - 90) / 5 = ii (((k : Int) - 90) / 5)) ∧ (¬ (ii ((k : Int) - 90) / 5) * 5 = ii ((k : Int) - 90) → ii ((k : Int) - 90) / 5 - 1 = ii (((k : Int) - 90) / 5)))) := by decide +kernel
  have k1 := key (z + 90).toNat (by omega)
  rw [show (((z + 90).toNat : Nat) : Int) - 90 = z by omega] at k1
  refine sJ9_floorDiv_7cf53_0 hE _ _ ⟨by decide, fun c => ?_, fun c => ⟨fun c2 => ?_, fun c2 => ?_⟩⟩
  · rw [k1.1 c]; exact h
  · rw [(k1.2 c).1 c2]; exact h
  · rw [(k1.2 c).2 c2]; exact h
theorem c_X2_speedAt {z : Int} (hz : -30 ≤ z ∧ z ≤ 50) (h : P (some (.int (ii (spd z)))) μ) : jD g ad m_X2_speedAt [.int (ii z)] μ P := by
  refine jd_intro [some (.int (ii z))] (by decide) rfl rfl (fun κ hE => ?_)
  refine sX2_speedAt_0 hE _ ?_
  have e3 : (3 : Int32) * ii z = ii (3 * z) := by simp (disch := omega) only [ii_lit, ii_neg, ii_add, ii_sub, ii_mul, ii_lt, ii_le, ii_eq]
  rw [e3]
  refine c_J9_floorDiv (by omega) (sX2_speedAt_10 hE _ _ ?_)
  have e4 : (331 : Int32) + ii (3 * z / 5) = ii (spd z) := by simp (disch := omega) only [ii_lit, ii_neg, ii_add, ii_sub, ii_mul, ii_lt, ii_le, ii_eq]; rfl
  rw [e4]
  exact h
/-- the distances of the frame's table, by place -/
def dl (i : Nat) : Int := dD ((i % 41 : Nat) : Int) ((i / 41 : Nat) : Int)
theorem dl_rng {i : Nat} (h : i < 1681) : 0 ≤ dl i ∧ dl i ≤ 5656 := dD_rng (by omega) (by omega)
def FD (μ : Nat → Nat → Int32) : Prop := ∀ i : Nat, i < 1681 → μ 30 i = ii (dl i)
def FTm (μ : Nat → Nat → Int32) (sp : Int) : Prop := μ 29 2 = ii sp ∧ ∀ i : Nat, i < 1681 → μ 31 i = ii (100 * dl i / sp)
/-- the frame, whatever it is tuned to -/
def FI (μ : Nat → Nat → Int32) : Prop := FD μ ∧ (μ 29 2 = ii 0 ∨ ∃ sp : Int, 313 ≤ sp ∧ sp ≤ 361 ∧ FTm μ sp)
theorem FI.kept {μ μ' : Nat → Nat → Int32} (h : FI μ) (h29 : μ' 29 = μ 29) (h30 : μ' 30 = μ 30) (h31 : μ' 31 = μ 31) : FI μ' := by
  obtain ⟨a, b⟩ := h
  refine ⟨fun i hi => by rw [h30]; exact a i hi, ?_⟩
  rcases b with b | ⟨sp, b1, b2, b3, b4⟩
  · exact Or.inl (by rw [h29]; exact b)
  · exact Or.inr ⟨sp, b1, b2, by rw [h29]; exact b3, fun i hi => by rw [h31]; exact b4 i hi⟩
theorem c_X2_tune {z : Int} (hz : -30 ≤ z ∧ z ≤ 50) (hF : FI μ) (h : ∀ μ' : Nat → Nat → Int32, FD μ' → FTm μ' (spd z) → (∀ c : Nat, c ≠ 29 → c ≠ 31 → μ' c = μ c) → P none μ') : jD g ad m_X2_tune [.ref 29, .int (ii z)] μ P := by
  refine jd_intro [some (.ref 29), some (.int (ii z)), none, none] (by decide) rfl rfl (fun κ hE => ?_)
  have hs := spd_rng hz.1 hz.2
  refine sX2_tune_0 hE _ (c_X2_speedAt hz (sX2_tune_4 hE _ ⟨fun c => ?_, fun c => ⟨fun c2 => ?_, fun c2 => ?_⟩⟩))
  · obtain ⟨a, b | ⟨sp, b1, b2, b3⟩⟩ := hF
    · rw [b, ii_eq (by omega) (by omega)] at c
      omega
    · have e := b3.1
      rw [e, ii_eq (by omega) (by omega)] at c
      rw [← c] at b3
      exact h μ a b3 (fun _ _ _ => rfl)
  · intro μ1 e1
    have key : ∀ (k i : Nat) (μ2 : Nat → Nat → Int32), i + k = 1681 → μ2 29 2 = ii (spd z) → (∀ c : Nat, c ≠ 29 → c ≠ 31 → μ2 c = μ c) → (∀ j : Nat, j < i → μ2 31 j = ii (100 * dl j / spd z)) → jS g ad m_X2_tune κ 25 [some (.ref 29), none, some (.int (ii (spd z))), some (.int (ii i))] [] μ2 := by
      intro k
      induction k with
      | zero =>
        intro i μ2 hi h1 h2 h3
        refine sX2_tune_25 hE _ _ ⟨fun _ => ?_, fun c => ?_⟩
        · exact h μ2 (fun j hj => by rw [h2 30 (by decide) (by decide)]; exact hF.1 j hj) ⟨h1, fun j hj => h3 j (by omega)⟩ h2
        · simp (disch := omega) only [ii_lit, ii_neg, ii_add, ii_sub, ii_mul, ii_lt, ii_le, ii_eq] at c
          omega
      | succ k ih =>
        intro i μ2 hi h1 h2 h3
        have hd := dl_rng (i := i) (by omega)
        have e30 : μ2 30 i = ii (dl i) := by rw [h2 30 (by decide) (by decide)]; exact hF.1 i (by omega)
        refine sX2_tune_25 hE _ _ ⟨fun c => ?_, fun c => ⟨ii_in (by omega) (by omega) (by omega), ?_, ii_in (by omega) (by omega) (by omega), ?_⟩⟩
        · simp (disch := omega) only [ii_lit, ii_neg, ii_add, ii_sub, ii_mul, ii_lt, ii_le, ii_eq] at c
          omega
        · intro e
          rw [ii_0, ii_eq (by omega) (by omega)] at e
          omega
        · intro μ3 e3
          rw [ii_natN (by omega), e30] at e3
          have e4 : (100 : Int32) * ii (dl i) / ii (spd z) = ii (100 * dl i / spd z) := by
            rw [ii_lit, ii_mul, ii_div (by omega) (by omega) (by omega) (by omega)]
          rw [e4] at e3
          have e5 : ii (i : Int) + 1 = ii ((i + 1 : Nat) : Int) := by simp (disch := omega) only [ii_lit, ii_neg, ii_add, ii_sub, ii_mul, ii_lt, ii_le, ii_eq]; rfl
          rw [e5]
          refine ih (i + 1) μ3 (by omega) ?_ (fun c c1 c2 => ?_) (fun j hj => ?_)
          · rw [e3, jm_st_nc _ _ _ (by decide)]; exact h1
          · rw [e3, jm_st_nc _ _ _ c2]; exact h2 c c1 c2
          · rw [e3]
            by_cases c : j = i
            · subst c; rw [jm_st_s]
            · rw [jm_st_ni _ _ _ c]; exact h3 j (by omega)
    have h0 := key 1681 0 μ1 (by omega) (by rw [e1, jm_st_s]) (fun c c1 c2 => by rw [e1, jm_st_nc _ _ _ c1]) (fun j hj => by omega)
    exact h0
  · rw [ii_0, ii_lt (by omega) (by omega)] at c2
    omega
theorem dl_at {x y : Int} (hx : 0 ≤ x ∧ x ≤ 40) (hy : 0 ≤ y ∧ y ≤ 40) : dl (y * 41 + x).toNat = dD x y := by
  unfold dl
  congr 1 <;> omega
theorem c_X2_distance {x y u v : Int} (hx : 0 ≤ x ∧ x ≤ 40) (hy : 0 ≤ y ∧ y ≤ 40) (hu : 0 ≤ u ∧ u ≤ 40) (hv : 0 ≤ v ∧ v ≤ 40) (hF : FD μ) (h : P (some (.int (ii (dD (if 0 ≤ x - u then x - u else u - x) (if 0 ≤ y - v then y - v else v - y))))) μ) : jD g ad m_X2_distance [.ref 29, .int (ii x), .int (ii y), .int (ii u), .int (ii v)] μ P := by
  refine jd_intro [some (.ref 29), some (.int (ii x)), some (.int (ii y)), some (.int (ii u)), some (.int (ii v))] (by decide) rfl rfl (fun κ hE => ?_)
  have ab : ∀ a b : Int, (0 ≤ a ∧ a ≤ 40) → (0 ≤ b ∧ b ≤ 40) → (if 0 ≤ (ii a - ii b) then (ii a - ii b) else 0 - (ii a - ii b)) = ii (if 0 ≤ a - b then a - b else b - a) := by
    intro a b ha hb
    rw [ii_sub, ii_0]
    by_cases c : 0 ≤ a - b
    · rw [if_pos c, if_pos ((ii_le (by omega) (by omega)).mpr c)]
    · rw [if_neg c, if_neg (fun q => c ((ii_le (by omega) (by omega)).mp q)), ii_sub]
      congr 1
      omega
  have r1 : 0 ≤ (if 0 ≤ x - u then x - u else u - x) ∧ (if 0 ≤ x - u then x - u else u - x) ≤ 40 := by split <;> omega
  have r2 : 0 ≤ (if 0 ≤ y - v then y - v else v - y) ∧ (if 0 ≤ y - v then y - v else v - y) ≤ 40 := by split <;> omega
  generalize hX : (if 0 ≤ x - u then x - u else u - x) = X at *
  generalize hY : (if 0 ≤ y - v then y - v else v - y) = Y at *
  have e9 : (ii Y * 41 + ii X) = ii (Y * 41 + X) := by simp (disch := omega) only [ii_lit, ii_neg, ii_add, ii_sub, ii_mul, ii_lt, ii_le, ii_eq]
  refine sX2_distance_0 hE _ _ _ _ ?_
  rw [ab x u hx hu, ab y v hy hv, hX, hY, e9]
  refine ⟨ii_in (by omega) (by omega) (by omega), ?_⟩
  rw [ii_nat (by omega) (by omega), hF _ (by omega), dl_at r1 r2]
  exact h
/-- the times in the table are those of points and ears -/
theorem FTm_at {sp x y : Int} (h : FTm μ sp) (hx : 0 ≤ x ∧ x ≤ 40) (hy : 0 ≤ y ∧ y ≤ 40) : μ 31 (y * 41 + x).toNat = ii (tD sp x y) := by
  rw [h.2 _ (by omega), dl_at hx hy]
  rfl
theorem c_X2_crackTime {sp x y e : Int} (hT : FTm μ sp) (hx : 0 ≤ x ∧ x ≤ 40) (hy : 0 ≤ y ∧ y ≤ 40) (he : 0 ≤ e ∧ e ≤ 3) (h : P (some (.int (ii (tk sp e x y)))) μ) : jD g ad m_X2_crackTime [.ref 29, .int (ii x), .int (ii y), .int (ii e)] μ P := by
  refine jd_intro [some (.ref 29), some (.int (ii x)), some (.int (ii y)), some (.int (ii e)), none, none] (by decide) rfl rfl (fun κ hE => ?_)
  have key : ∀ X Y : Int, X = axE e x → Y = ayE e y → vp_in (ii (Y * 41 + X)) 1681 ∧ P (some (.int (μ 31 (ii (Y * 41 + X)).toNatClampNeg))) μ := by
    intro X Y h1 h2
    have r1 := axE_rng (e := e) hx
    have r2 := ayE_rng (e := e) hy
    refine ⟨ii_in (by omega) (by omega) (by omega), ?_⟩
    rw [ii_nat (by omega) (by omega), h1, h2, FTm_at hT r1 r2]
    exact h
  refine sX2_crackTime_0 hE _ _ _ ?_
  simp (disch := omega) only [ii_lit, ii_neg, ii_add, ii_sub, ii_mul, ii_lt, ii_le, ii_eq]
  refine ⟨fun c => ⟨fun c2 => ?_, fun c2 => ?_⟩, fun c => ⟨fun c2 => ⟨fun c3 => ?_, fun c3 => ?_⟩, fun c2 => ⟨fun c3 => ?_, fun c3 => ?_⟩⟩⟩
  · exact key _ _ (by unfold axE; rw [if_pos (by omega)]) (by unfold ayE; rw [if_neg (by omega)])
  · omega
  · exact key _ _ (by unfold axE; rw [if_neg (by omega)]) (by unfold ayE; rw [if_neg (by omega)])
  · exact key _ _ (by unfold axE; rw [if_neg (by omega)]) (by unfold ayE; rw [if_pos (by omega)])
  · omega
  · exact key _ _ (by unfold axE; rw [if_pos (by omega)]) (by unfold ayE; rw [if_pos (by omega)])
theorem c_X2_lag {sp x y : Int} (hs : 313 ≤ sp) (hT : FTm μ sp) (hx : 0 ≤ x ∧ x ≤ 40) (hy : 0 ≤ y ∧ y ≤ 40) (h : P (some (.int (ii (tD sp x y - tD sp (40 - x) (40 - y))))) μ) : jD g ad m_X2_lag [.ref 29, .int (ii x), .int (ii y)] μ P := by
  refine jd_intro [some (.ref 29), some (.int (ii x)), some (.int (ii y)), none] (by decide) rfl rfl (fun κ hE => ?_)
  refine sX2_lag_0 hE _ _ ?_
  simp (disch := omega) only [ii_lit, ii_neg, ii_add, ii_sub, ii_mul, ii_lt, ii_le, ii_eq]
  refine ⟨ii_in (by omega) (by omega) (by omega), ii_in (by omega) (by omega) (by omega), ?_⟩
  rw [ii_nat (by omega) (by omega), ii_nat (by omega) (by omega), FTm_at hT hx hy, show (1681 - 1 - (y * 41 + x) : Int) = (40 - y) * 41 + (40 - x) by omega, FTm_at hT (by omega) (by omega), ii_sub]
  exact h
end JFR
