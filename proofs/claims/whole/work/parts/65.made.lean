section JMT
variable {g : jm_G} {M M2 : jm_M} {κ : jm_K} {k n pc : Nat} {ls : List (Option Value)}
/-- this.field = new X[len] -/
theorem mk_arq {Γ0 R : List jm_Sh} {b ci idx idn pc2 : Nat} {fs : List (Option (Option Nat))} {ad : Nat → Nat} {μ : Nat → Nat → Int32} {CN : String} (kd len j : Nat) {fty : FieldType} (hb : Γ0.length = b) (hwf : jm_wf (Γ0 ++ (.inl (ci, fs) :: R))) (hl0 : ls[0]? = some (some (.ref b))) (hlr : ∀ r : Nat, some (Value.ref r) ∈ ls → r < b + 1)
    (d0 : decode M.2.1 pc = .ok (.aload_n 0, 1)) (push : ∀ (st : List Value) (w : jm_W), jm_R g M κ k n pc2 ls (.int (Int32.ofNat len) :: st) w → jm_R g M κ k n (pc + 1) ls st w)
    (d2 : decode M.2.1 pc2 = .ok (.anewarray idn, 3)) (hkd : (kd = 3 ∧ CN = RX3) ∨ (kd = 4 ∧ CN = RX6)) (hw : Cond.classLink M.1.cls idn CN ∈ jm_TB) (hlen : decide (len < 100000) = true) (hkn : decide (k + 1 ≤ M.2.2.2.2.cells ∧ n + len ≤ M.2.2.2.2.slots) = true)
    (hf : jm_F M.1.cls idx ci j true fty) (hown2 : (vwCl[ci]?).map (fun r => r.1) = some M.1.cls) (hinit : M.1.name = "<init>") (d3 : decode M.2.1 (pc2 + 3) = .ok (.putfield idx, 3)) (hj : j < fs.length) (hn : ∀ a : Nat, narrow fty (.ref a) = .ref a) (hfit : ∀ a : Nat, fits fty (.ref a) = true)
    (kk : ∀ ad' : Nat → Nat, (∀ r : Nat, r < b + 1 + R.length → ad' r = ad r) → jm_wf (Γ0 ++ (.inl (ci, fs.set j (some (some (b + 1 + R.length)))) :: (R ++ [.inr (kd, len, some (fun _ => none))]))) → jm_R g M κ (k + 1) (n + len) (pc2 + 3 + 3) ls [] (Γ0 ++ (.inl (ci, fs.set j (some (some (b + 1 + R.length)))) :: (R ++ [.inr (kd, len, some (fun _ => none))])), ad', jm_up μ (b + 1 + R.length) (fun _ => 0))) :
    jm_R g M κ k n pc ls [] (Γ0 ++ (.inl (ci, fs) :: R), ad, μ) := by
  have hL := glen (Γ0 := Γ0) (R := R) (s := .inl (ci, fs)) hb
  refine jr_aload_n d0 hl0 (push _ _ ?_)
  refine jr_newq kd len d2 hkd hw rfl hlen hwf ⟨fun r hr => by rw [hL]; have := hlr r hr; omega, fun r hr => ?_⟩ hkn (fun q => ?_)
  · have e : r = b := by simpa using hr
    rw [hL]
    omega
  · rw [hL, gapp]
    have hwf2 : jm_wf (Γ0 ++ (.inl (ci, fs) :: (R ++ [.inr (kd, len, some (fun _ => none))]))) := by
      rw [← gapp]
      exact hwf.push (fun j r hr => by cases hr)
    have hwf3 := wf_fld (j := j) (r := b + 1 + R.length) hb hwf2 (by rw [List.length_append, List.length_singleton]; omega)
    exact jr_putF ci j _ hf hown2 hinit d3 (gx0 hb) hj hn hfit (gset0 hb) (kk _ (fun r hr => jm_adn_lt hr) hwf3)
theorem lst_0 (B s : Nat) : (fun _ => none : Nat → Option Nat) = jm_lst B s 0 := by
  funext j
  unfold jm_lst
  rw [if_neg (by omega)]
theorem lst_s (B s i L : Nat) (hL : L = B + s * i) : va_up (jm_lst B s i) i (some L) = jm_lst B s (i + 1) := by
  funext j
  unfold va_up jm_lst
  by_cases c : j = i
  · rw [if_pos c, if_pos (by omega), c, hL]
  · rw [if_neg c]
    by_cases c2 : j < i
    · rw [if_pos c2, if_pos (by omega)]
    · rw [if_neg c2, if_neg (by omega)]
def hds (B : Nat) : Nat → List jm_Sh
  | 0 => []
  | i + 1 => hds B i ++ jm_shHeard (B + 3 * i)
theorem hds_len (B : Nat) : ∀ i : Nat, (hds B i).length = 3 * i := by
  intro i
  induction i with
  | zero => rfl
  | succ i ih =>
    show (hds B i ++ jm_shHeard (B + 3 * i)).length = _
    rw [List.length_append, ih]
    show 3 * i + 3 = _
    omega
def sts (B : Nat) : Nat → List jm_Sh
  | 0 => []
  | i + 1 => sts B i ++ jm_shShot (B + 2 * i)
theorem sts_len (B : Nat) : ∀ i : Nat, (sts B i).length = 2 * i := by
  intro i
  induction i with
  | zero => rfl
  | succ i ih =>
    show (sts B i ++ jm_shShot (B + 2 * i)).length = _
    rw [List.length_append, ih]
    show 2 * i + 2 = _
    omega
def mkFinder (b : Nat) : List jm_Sh := .inl (0, [some (some (b + 1)), some (some (b + 3)), some (some (b + 4)), some (some (b + 5))]) :: (mkFit (b + 1) ++ [.inr (0, 8, none)] ++ [.inr (0, 4, none)] ++ [.inr (0, 4, none)])
def mkHist (b : Nat) : List jm_Sh := .inl (4, [some (some (b + 1)), none, none]) :: (.inr (3, 6, some (jm_lst (b + 2) 3 6)) :: hds (b + 2) 6)
theorem i_X0 {g : jm_G} : jm_Mk g m_X0_init 0 [some none, some none, some none, some none] mkFinder (fun _ _ => True) := by
  intro Γ0 b ad μ P hb w0 z0 hp
  refine jm_intro [some (.ref b)] (by decide) rfl rfl (fun κ hE => ?_)
  refine jr_aload_n dX0_init_0 rfl (jr_objInit jc_RX0_3 dX0_init_1 rfl rfl ?_)
  refine mk_obj 0 i_X1 hb w0 rfl (fun r hr => onb (by simpa using hr)) dX0_init_4 jn_RX0_9 dX0_init_5 (by simp) rfl dX0_init_8 (fun q st w a1 a2 kk => jr_callNI jc_RX0_11 rfl dX0_init_9 a1 a2 rfl kk) jf_RX0_12 rfl rfl dX0_init_12 (by simp) (fun _ => rfl) (fun _ => rfl) (fun L => by show 0 < 2; omega) (fun ad1 μ1 h1 w1 m1 _ => ?_)
  refine mk_arr 0 8 1 hb w1 rfl (fun r hr => onb (by simpa using hr)) dX0_init_15 (fun st w kk => jr_bipush _ dX0_init_16 (by decide) kk) dX0_init_18 rfl rfl rfl ja_int rfl (by decide) rfl jf_RX0_18 rfl rfl dX0_init_20 (by simp) (fun _ => rfl) (fun _ => rfl) (fun ad2 h2 w2 => ?_)
  refine mk_arr 0 4 2 hb w2 rfl (fun r hr => onb (by simpa using hr)) dX0_init_23 (fun st w kk => jr_iconst _ dX0_init_24 (by decide) kk) dX0_init_25 rfl rfl rfl ja_int rfl (by decide) rfl jf_RX0_22 rfl rfl dX0_init_27 (by simp) (fun _ => rfl) (fun _ => rfl) (fun ad3 h3 w3 => ?_)
  refine mk_arr 0 4 3 hb w3 rfl (fun r hr => onb (by simpa using hr)) dX0_init_30 (fun st w kk => jr_iconst _ dX0_init_31 (by decide) kk) dX0_init_32 rfl rfl rfl ja_int rfl (by decide) rfl jf_RX0_25 rfl rfl dX0_init_34 (by simp) (fun _ => rfl) (fun _ => rfl) (fun ad4 h4 w4 => ?_)
  refine jr_vret hE rfl dX0_init_37 rfl (hp ad4 _ (fun r hr => ?_) w4 (fun c hc => ?_) trivial)
  · rw [h4 r (by omega), h3 r (by omega), h2 r (by omega), h1 r (by show r < b + 1 + 0; omega)]
  · rw [jm_up_n _ _ (by omega), jm_up_n _ _ (by omega), jm_up_n _ _ (by omega), m1 c (by omega)]
set_option maxHeartbeats 4000000 in
theorem i_X4 {g : jm_G} : jm_Mk g m_X4_init 4 [some none, none, none] mkHist (fun b μ => μ b = fun _ => 0) := by
  intro Γ0 b ad μ P hb w0 z0 hp
  refine jm_intro [some (.ref b), none] (by decide) rfl rfl (fun κ hE => ?_)
  refine jr_aload_n dX4_init_0 rfl (jr_objInit jc_RX4_1 dX4_init_1 rfl rfl ?_)
  refine mk_arq 3 6 0 hb w0 rfl (fun r hr => onb (by simpa using hr)) dX4_init_4 (fun st w kk => jr_bipush _ dX4_init_5 (by decide) kk) dX4_init_7 (Or.inl ⟨rfl, rfl⟩) jq_RX4_9 (by decide) rfl jf_RX4_11 rfl rfl dX4_init_10 (by simp) (fun _ => rfl) (fun _ => rfl) (fun ad1 h1 w1 => ?_)
  rw [lst_0 (b + 2) 3] at w1 ⊢
  have e6 : (6 : Int32) = ii 6 := by decide
  have loop : ∀ (m i k n : Nat) (ad2 : Nat → Nat) (μ2 : Nat → Nat → Int32), i + m = 6 → k = 1 + 3 * i → n = 6 + 38 * i → (∀ r : Nat, r < b + 1 → ad2 r = ad r) → jm_wf (Γ0 ++ (.inl (4, [some (some (b + 1)), none, none]) :: (.inr (3, 6, some (jm_lst (b + 2) 3 i)) :: hds (b + 2) i))) → (∀ c : Nat, c < b + 1 → μ2 c = μ c) → jm_R g m_X4_init κ k n 15 [some (.ref b), some (.int (ii i))] [] (Γ0 ++ (.inl (4, [some (some (b + 1)), none, none]) :: (.inr (3, 6, some (jm_lst (b + 2) 3 i)) :: hds (b + 2) i)), ad2, μ2) := by
    intro m
    induction m with
    | zero =>
      intro i k n ad2 μ2 hi hk hn h2 w2 k2
      have ei : i = 6 := by omega
      subst ei
      refine jr_iload_n dX4_init_15 rfl (jr_bipush (6 : Int32) dX4_init_16 (by decide) (jr_icmp_ge 40 dX4_init_18 rfl (fun _ => ?_) (fun q => absurd (by decide) q)))
      exact jr_vret hE rfl dX4_init_40 (decide_eq_true ⟨by show k ≤ 19; omega, by show n ≤ 234; omega⟩) (hp ad2 μ2 h2 w2 (fun c hc => k2 c (by omega)) ((k2 b (by omega)).trans z0))
    | succ m ih =>
      intro i k n ad2 μ2 hi hk hn h2 w2 k2
      have e5 : ii (i : Int) + 1 = ii ((i + 1 : Nat) : Int) := by simp (disch := omega) only [ii_lit, ii_neg, ii_add, ii_sub, ii_mul, ii_lt, ii_le, ii_eq]; rfl
      have hlen : (((Sum.inr (3, 6, some (jm_lst (b + 2) 3 i)) : jm_Sh)) :: hds (b + 2) i).length = 1 + 3 * i := by rw [List.length_cons, hds_len]; omega
      refine jr_iload_n dX4_init_15 rfl (jr_bipush (6 : Int32) dX4_init_16 (by decide) (jr_icmp_ge 40 dX4_init_18 rfl (fun q => ?_) (fun _ => ?_)))
      · rw [e6, ii_le (by decide) (by omega)] at q
        omega
      · refine mk_slot (a := 0) (kd := 3) (len := 6) (i := i) 0 i_X3 hb w2 rfl rfl (fun r hr => onb (by simpa using hr)) dX4_init_21 jf_RX4_11 dX4_init_22 rfl rfl (Or.inl ⟨rfl, rfl⟩) (by omega) (by decide) dX4_init_25 jn_RX4_9 dX4_init_26 (by simp) (decide_eq_true ⟨by show k + 1 ≤ 19; omega, by show n + 3 ≤ 234; omega⟩) dX4_init_29 (fun q st w a1 a2 kk => jr_callNI jc_RX4_15 rfl dX4_init_30 a1 a2 (decide_eq_true ⟨by show k + 1 + 2 ≤ 19; omega, by show n + 3 + 35 ≤ 234; omega⟩) kk) dX4_init_33 (fun L => ⟨_, rfl⟩) (fun ad3 μ3 h3 w3 k3 => ?_)
        rw [hlen] at h3 w3 k3 ⊢
        have eL : b + 1 + (1 + 3 * i) = b + 2 + 3 * i := by omega
        rw [eL] at h3 w3 k3 ⊢
        have eS : ((Sum.inr (3, 6, some (jm_lst (b + 2) 3 i)) : jm_Sh) :: hds (b + 2) i).set 0 (.inr (3, 6, some (va_up (jm_lst (b + 2) 3 i) i (some (b + 2 + 3 * i))))) ++ jm_shHeard (b + 2 + 3 * i) = (.inr (3, 6, some (jm_lst (b + 2) 3 (i + 1)))) :: hds (b + 2) (i + 1) := by
          rw [lst_s (b + 2) 3 i _ rfl]
          rfl
        rw [eS] at w3 ⊢
        refine jr_iinc [some (.ref b), some (.int (ii ((i + 1 : Nat) : Int)))] dX4_init_34 rfl e5 rfl rfl rfl (jr_goto 15 dX4_init_37 rfl ?_)
        exact ih (i + 1) _ _ ad3 μ3 (by omega) (by show k + 1 + 2 = _; omega) (by show n + 3 + 35 = _; omega) (fun r hr => by rw [h3 r (by omega)]; exact h2 r hr) w3 (fun c hc => by rw [k3 c (by omega)]; exact k2 c hc)
  refine jr_iconst (0 : Int32) dX4_init_13 (by decide) ?_
  refine jr_istore_n [some (.ref b), some (.int 0)] dX4_init_14 rfl rfl rfl ?_
  exact loop 6 0 _ _ ad1 _ (by omega) rfl rfl h1 w1 (fun c hc => jm_up_n _ _ (by show c ≠ b + 1; omega))
set_option maxHeartbeats 4000000 in
theorem i_X7 {g : jm_G} : jm_Mk g m_X7_init 7 [some none, some none, none] jm_shShots (fun _ _ => True) := by
  intro Γ0 b ad μ P hb w0 z0 hp
  refine jm_intro [some (.ref b), none] (by decide) rfl rfl (fun κ hE => ?_)
  refine jr_aload_n dX7_init_0 rfl (jr_objInit jc_RX7_3 dX7_init_1 rfl rfl ?_)
  refine mk_arq 4 8 0 hb w0 rfl (fun r hr => onb (by simpa using hr)) dX7_init_4 (fun st w kk => jr_bipush _ dX7_init_5 (by decide) kk) dX7_init_7 (Or.inr ⟨rfl, rfl⟩) jq_RX7_9 (by decide) rfl jf_RX7_11 rfl rfl dX7_init_10 (by simp) (fun _ => rfl) (fun _ => rfl) (fun ad1 h1 w1 => ?_)
  refine mk_arr 0 32 1 hb w1 rfl (fun r hr => onb (by simpa using hr)) dX7_init_13 (fun st w kk => jr_bipush _ dX7_init_14 (by decide) kk) dX7_init_16 rfl rfl rfl ja_int rfl (by decide) rfl jf_RX7_17 rfl rfl dX7_init_18 (by simp) (fun _ => rfl) (fun _ => rfl) (fun ad2 h2 w2 => ?_)
  rw [lst_0 (b + 3) 2] at w2 ⊢
  have e8 : (8 : Int32) = ii 8 := by decide
  have loop : ∀ (m i k n : Nat) (ad2 : Nat → Nat) (μ2 : Nat → Nat → Int32), i + m = 8 → k = 2 + 2 * i → n = 40 + 10 * i → (∀ r : Nat, r < b + 1 → ad2 r = ad r) → jm_wf (Γ0 ++ (.inl (7, [some (some (b + 1)), some (some (b + 2)), none]) :: (.inr (4, 8, some (jm_lst (b + 3) 2 i)) :: (.inr (0, 32, none) :: sts (b + 3) i)))) → (∀ c : Nat, c < b + 1 → μ2 c = μ c) → jm_R g m_X7_init κ k n 23 [some (.ref b), some (.int (ii i))] [] (Γ0 ++ (.inl (7, [some (some (b + 1)), some (some (b + 2)), none]) :: (.inr (4, 8, some (jm_lst (b + 3) 2 i)) :: (.inr (0, 32, none) :: sts (b + 3) i))), ad2, μ2) := by
    intro m
    induction m with
    | zero =>
      intro i k n ad2 μ2 hi hk hn h2 w2 k2
      have ei : i = 8 := by omega
      subst ei
      refine jr_iload_n dX7_init_23 rfl (jr_bipush (8 : Int32) dX7_init_24 (by decide) (jr_icmp_ge 48 dX7_init_26 rfl (fun _ => ?_) (fun q => absurd (by decide) q)))
      exact jr_vret hE rfl dX7_init_48 (decide_eq_true ⟨by show k ≤ 18; omega, by show n ≤ 120; omega⟩) (hp ad2 μ2 h2 w2 (fun c hc => k2 c (by omega)) trivial)
    | succ m ih =>
      intro i k n ad2 μ2 hi hk hn h2 w2 k2
      have e5 : ii (i : Int) + 1 = ii ((i + 1 : Nat) : Int) := by simp (disch := omega) only [ii_lit, ii_neg, ii_add, ii_sub, ii_mul, ii_lt, ii_le, ii_eq]; rfl
      have hlen : (((Sum.inr (4, 8, some (jm_lst (b + 3) 2 i)) : jm_Sh)) :: ((Sum.inr (0, 32, none) : jm_Sh) :: sts (b + 3) i)).length = 2 + 2 * i := by rw [List.length_cons, List.length_cons, sts_len]; omega
      refine jr_iload_n dX7_init_23 rfl (jr_bipush (8 : Int32) dX7_init_24 (by decide) (jr_icmp_ge 48 dX7_init_26 rfl (fun q => ?_) (fun _ => ?_)))
      · rw [e8, ii_le (by decide) (by omega)] at q
        omega
      · refine mk_slot (a := 0) (kd := 4) (len := 8) (i := i) 0 i_X6 hb w2 rfl rfl (fun r hr => onb (by simpa using hr)) dX7_init_29 jf_RX7_11 dX7_init_30 rfl rfl (Or.inr ⟨rfl, rfl⟩) (by omega) (by decide) dX7_init_33 jn_RX7_9 dX7_init_34 (by simp) (decide_eq_true ⟨by show k + 1 ≤ 18; omega, by show n + 6 ≤ 120; omega⟩) dX7_init_37 (fun q st w a1 a2 kk => jr_callNI jc_RX7_21 rfl dX7_init_38 a1 a2 (decide_eq_true ⟨by show k + 1 + 1 ≤ 18; omega, by show n + 6 + 4 ≤ 120; omega⟩) kk) dX7_init_41 (fun L => ⟨_, rfl⟩) (fun ad3 μ3 h3 w3 k3 => ?_)
        rw [hlen] at h3 w3 k3 ⊢
        have eL : b + 1 + (2 + 2 * i) = b + 3 + 2 * i := by omega
        rw [eL] at h3 w3 k3 ⊢
        have eS : ((Sum.inr (4, 8, some (jm_lst (b + 3) 2 i)) : jm_Sh) :: (.inr (0, 32, none) :: sts (b + 3) i)).set 0 (.inr (4, 8, some (va_up (jm_lst (b + 3) 2 i) i (some (b + 3 + 2 * i))))) ++ jm_shShot (b + 3 + 2 * i) = (.inr (4, 8, some (jm_lst (b + 3) 2 (i + 1)))) :: (.inr (0, 32, none) :: sts (b + 3) (i + 1)) := by
          rw [lst_s (b + 3) 2 i _ rfl]
          rfl
        rw [eS] at w3 ⊢
        refine jr_iinc [some (.ref b), some (.int (ii ((i + 1 : Nat) : Int)))] dX7_init_42 rfl e5 rfl rfl rfl (jr_goto 23 dX7_init_45 rfl ?_)
        exact ih (i + 1) _ _ ad3 μ3 (by omega) (by show k + 1 + 1 = _; omega) (by show n + 6 + 4 = _; omega) (fun r hr => by rw [h3 r (by omega)]; exact h2 r hr) w3 (fun c hc => by rw [k3 c (by omega)]; exact k2 c hc)
  refine jr_iconst (0 : Int32) dX7_init_21 (by decide) ?_
  refine jr_istore_n [some (.ref b), some (.int 0)] dX7_init_22 rfl rfl rfl ?_
  exact loop 8 0 _ _ ad2 _ (by omega) rfl rfl (fun r hr => by rw [h2 r (by show r < b + 1 + 1; omega), h1 r hr]) w2 (fun c hc => by rw [jm_up_n _ _ (by show c ≠ b + 1 + 1; omega), jm_up_n _ _ (by show c ≠ b + 1; omega)])
end JMT
