section JMQ
theorem i_X3 {g : jm_G} : jm_Mk g m_X3_init 3 [some none, some none, none] jm_shHeard (fun b μ => μ b = (fun _ => 0) ∧ μ (b + 1) 0 = ii 15 ∧ μ (b + 1) 1 = ii 1900 ∧ μ (b + 1) 2 = ii 6) := by
  intro Γ0 b ad μ P hb w0 z0 hp
  refine jm_intro [some (.ref b)] (by decide) rfl rfl (fun κ hE => ?_)
  refine jr_aload_n dX3_init_0 rfl (jr_objInit jc_RX3_3 dX3_init_1 rfl rfl ?_)
  have hL := glen (Γ0 := Γ0) (R := []) (s := .inl (3, [some none, some none, none])) hb
  have hL : (Γ0 ++ [(Sum.inl (3, [some none, some none, none]) : jm_Sh)]).length = b + 1 := hL
  refine jr_aload_n dX3_init_4 rfl ?_
  refine jr_iconst (3 : Int32) dX3_init_5 (by decide) ?_
  refine jr_newa 0 3 dX3_init_6 rfl rfl rfl ja_int rfl rfl (by decide) w0 ⟨fun r hr => ?_, fun r hr => ?_⟩ rfl (fun q => ?_)
  · rw [hL]
    have e : r = b := by simpa using hr
    omega
  · rw [hL]
    have e : r = b := by simpa using hr
    omega
  rw [hL, gapp]
  have w1 : jm_wf (Γ0 ++ (.inl (3, [some none, some none, none]) :: [.inr (0, 3, none)])) := by
    have h := w0.push (sh := .inr (0, 3, none)) trivial
    rw [gapp] at h
    exact h
  have hA : (Γ0 ++ (.inl (3, [some none, some none, none]) :: ([] ++ [.inr (0, 3, none)])))[b + 1]? = some (.inr (0, 3, none)) := gx1 (a := 0) hb rfl
  refine jr_dup dX3_init_8 rfl ?_
  refine jr_iconst (0 : Int32) dX3_init_9 (by decide) ?_
  refine jr_bipush (15 : Int32) dX3_init_10 (by decide) ?_
  refine jr_iastn 0 dX3_init_12 hA (jm_inD (by decide)) (by decide) ?_
  refine jr_dup dX3_init_13 rfl ?_
  refine jr_iconst (1 : Int32) dX3_init_14 (by decide) ?_
  refine jr_sipush (1900 : Int32) dX3_init_15 (by decide) ?_
  refine jr_iastn 1 dX3_init_18 hA (jm_inD (by decide)) (by decide) ?_
  refine jr_dup dX3_init_19 rfl ?_
  refine jr_iconst (2 : Int32) dX3_init_20 (by decide) ?_
  refine jr_bipush (6 : Int32) dX3_init_21 (by decide) ?_
  refine jr_iastn 2 dX3_init_23 hA (jm_inD (by decide)) (by decide) ?_
  have w2 : jm_wf (Γ0 ++ (.inl (3, [some (some (b + 1)), some none, none]) :: [.inr (0, 3, none)])) := wf_fld (j := 0) (r := b + 1) hb w1 (by show b + 1 < b + 1 + 1; omega)
  refine jr_putF 3 0 (Γ0 ++ (.inl (3, [some (some (b + 1)), some none, none]) :: [.inr (0, 3, none)])) jf_RX3_9 rfl rfl dX3_init_24 (gx0 hb) (by decide) (fun _ => rfl) (fun _ => rfl) (gset0 hb) ?_
  refine mk_arr 0 32 1 hb w2 rfl (fun r hr => onb (by simpa using hr)) dX3_init_27 (fun st w kk => jr_bipush _ dX3_init_28 (by decide) kk) dX3_init_30 rfl rfl rfl ja_int rfl (by decide) rfl jf_RX3_15 rfl rfl dX3_init_32 (by simp) (fun _ => rfl) (fun _ => rfl) (fun ad2 h2 w3 => ?_)
  have k1 : ∀ c : Nat, c ≠ b + 1 → c ≠ b + 2 → (jm_up (jm_st (jm_st (jm_st (jm_up μ (b + 1) (fun _ => 0)) (b + 1) 0 15) (b + 1) 1 1900) (b + 1) 2 6) (b + 1 + 1) (fun _ => 0)) c = μ c := fun c c1 c2 => by rw [jm_up_n _ _ c2, jm_st_nc _ _ _ c1, jm_st_nc _ _ _ c1, jm_st_nc _ _ _ c1, jm_up_n _ _ c1]
  refine jr_vret hE rfl dX3_init_35 rfl (hp ad2 _ (fun r hr => by rw [h2 r (by show r < b + 1 + 1; omega)]; exact jm_adn_lt hr) w3 (fun c hc => k1 c (by omega) (by omega)) ⟨(k1 b (by omega) (by omega)).trans z0, ?_, ?_, ?_⟩)
  · show (jm_up (jm_st (jm_st (jm_st (jm_up μ (b + 1) (fun _ => 0)) (b + 1) 0 15) (b + 1) 1 1900) (b + 1) 2 6) (b + 1 + 1) (fun _ => 0)) (b + 1) 0 = ii 15
    rw [jm_up_n _ _ (by omega), jm_st_ni _ _ _ (by decide), jm_st_ni _ _ _ (by decide), jm_st_s]
    decide
  · show (jm_up (jm_st (jm_st (jm_st (jm_up μ (b + 1) (fun _ => 0)) (b + 1) 0 15) (b + 1) 1 1900) (b + 1) 2 6) (b + 1 + 1) (fun _ => 0)) (b + 1) 1 = ii 1900
    rw [jm_up_n _ _ (by omega), jm_st_ni _ _ _ (by decide), jm_st_s]
    decide
  · show (jm_up (jm_st (jm_st (jm_st (jm_up μ (b + 1) (fun _ => 0)) (b + 1) 0 15) (b + 1) 1 1900) (b + 1) 2 6) (b + 1 + 1) (fun _ => 0)) (b + 1) 2 = ii 6
    rw [jm_up_n _ _ (by omega), jm_st_s]
    decide
set_option maxHeartbeats 4000000 in
theorem i_X2 {g : jm_G} : jm_Mk g m_X2_init 2 [some none, some none, none] mkFrame (fun b μ => μ b = (fun _ => 0) ∧ ∀ i : Nat, i < 1681 → μ (b + 1) i = ii (dl i)) := by
  intro Γ0 b ad μ P hb w0 z0 hp
  refine jm_intro [some (.ref b), none, none] (by decide) rfl rfl (fun κ hE => ?_)
  refine jr_aload_n dX2_init_0 rfl (jr_objInit jc_RX2_3 dX2_init_1 rfl rfl ?_)
  have hlr : ∀ (l : List (Option Value)), (∀ r : Nat, some (Value.ref r) ∈ l → r = b) → ∀ r : Nat, some (Value.ref r) ∈ l → r < b + 1 := fun l h r hr => by have := h r hr; omega
  refine mk_arr 0 1681 0 hb w0 rfl (fun r hr => onb (by simpa using hr)) dX2_init_4 (fun st w kk => jr_sipush _ dX2_init_5 (by decide) kk) dX2_init_8 rfl rfl rfl ja_int rfl (by decide) rfl jf_RX2_11 rfl rfl dX2_init_10 (by simp) (fun _ => rfl) (fun _ => rfl) (fun ad1 h1 w1 => ?_)
  refine mk_arr 0 1681 1 hb w1 rfl (fun r hr => onb (by simpa using hr)) dX2_init_13 (fun st w kk => jr_sipush _ dX2_init_14 (by decide) kk) dX2_init_17 rfl rfl rfl ja_int rfl (by decide) rfl jf_RX2_15 rfl rfl dX2_init_19 (by simp) (fun _ => rfl) (fun _ => rfl) (fun ad2 h2 w2 => ?_)
  have had : ∀ r : Nat, r < b + 1 → ad2 r = ad r := fun r hr => by rw [h2 r (by show r < b + 1 + 1; omega), h1 r hr]
  have w2 : jm_wf (Γ0 ++ mkFrame b) := w2
  show jm_R g m_X2_init κ 2 3362 22 [some (.ref b), none, none] [] (Γ0 ++ mkFrame b, ad2, jm_up (jm_up μ (b + 1) (fun _ => 0)) (b + 1 + 1) (fun _ => 0))
  generalize hμ0 : jm_up (jm_up μ (b + 1) (fun _ => 0)) (b + 1 + 1) (fun _ => 0) = μ0
  have k0 : ∀ c : Nat, c ≠ b + 1 → c ≠ b + 2 → μ0 c = μ c := fun c c1 c2 => by
    rw [← hμ0]
    rw [jm_up_n _ _ c2, jm_up_n _ _ c1]
  have hO : (Γ0 ++ mkFrame b)[b]? = some (.inl (2, [some (some (b + 1)), some (some (b + 2)), none])) := gx0 hb
  have hA : (Γ0 ++ mkFrame b)[b + 1]? = some (.inr (0, 1681, none)) := gx1 (a := 0) hb rfl
  have e41 : (41 : Int32) = ii 41 := by decide
  have outer : ∀ (m y : Nat) (μ1 : Nat → Nat → Int32), y + m = 41 → (∀ i : Nat, i < 41 * y → μ1 (b + 1) i = ii (dl i)) → (∀ c : Nat, c ≠ b + 1 → c ≠ b + 2 → μ1 c = μ c) → ∀ l2 : Option Value, (l2 = none ∨ ∃ z : Int32, l2 = some (.int z)) → jm_R g m_X2_init κ 2 3362 24 [some (.ref b), some (.int (ii y)), l2] [] (Γ0 ++ mkFrame b, ad2, μ1) := by
    intro m
    induction m with
    | zero =>
      intro y μ1 hy a1 a2 l2 hl2
      refine jr_iload_n dX2_init_24 rfl (jr_bipush (41 : Int32) dX2_init_25 (by decide) (jr_icmp_ge 75 dX2_init_27 rfl (fun _ => ?_) (fun q => ?_)))
      · exact jr_vret hE rfl dX2_init_75 rfl (hp ad2 μ1 had w2 (fun c hc => a2 c (by omega) (by omega)) ⟨(a2 b (by omega) (by omega)).trans z0, fun i hi => a1 i (by omega)⟩)
      · rw [e41, ii_le (by decide) (by omega)] at q
        omega
    | succ m ih =>
      intro y μ1 hy a1 a2 l2 hl2
      have e5 : ii (y : Int) + 1 = ii ((y + 1 : Nat) : Int) := by simp (disch := omega) only [ii_lit, ii_neg, ii_add, ii_sub, ii_mul, ii_lt, ii_le, ii_eq]; rfl
      have inner : ∀ (m2 x : Nat) (μ2 : Nat → Nat → Int32), x + m2 = 41 → (∀ i : Nat, i < 41 * y + x → μ2 (b + 1) i = ii (dl i)) → (∀ c : Nat, c ≠ b + 1 → c ≠ b + 2 → μ2 c = μ c) → jm_R g m_X2_init κ 2 3362 32 [some (.ref b), some (.int (ii y)), some (.int (ii x))] [] (Γ0 ++ mkFrame b, ad2, μ2) := by
        intro m2
        induction m2 with
        | zero =>
          intro x μ2 hx b1 b2
          refine jr_iload_n dX2_init_32 rfl (jr_bipush (41 : Int32) dX2_init_33 (by decide) (jr_icmp_ge 69 dX2_init_35 rfl (fun _ => ?_) (fun q => ?_)))
          · refine jr_iinc [some (.ref b), some (.int (ii ((y + 1 : Nat) : Int))), some (.int (ii x))] dX2_init_69 rfl e5 rfl rfl rfl (jr_goto 24 dX2_init_72 rfl ?_)
            exact ih (y + 1) μ2 (by omega) (fun i hi => b1 i (by omega)) b2 _ (Or.inr ⟨_, rfl⟩)
          · rw [e41, ii_le (by decide) (by omega)] at q
            omega
        | succ m2 ihm =>
          intro x μ2 hx b1 b2
          have e6 : ii (x : Int) + 1 = ii ((x + 1 : Nat) : Int) := by simp (disch := omega) only [ii_lit, ii_neg, ii_add, ii_sub, ii_mul, ii_lt, ii_le, ii_eq]; rfl
          refine jr_iload_n dX2_init_32 rfl (jr_bipush (41 : Int32) dX2_init_33 (by decide) (jr_icmp_ge 69 dX2_init_35 rfl (fun q => ?_) (fun _ => ?_)))
          · rw [e41, ii_le (by decide) (by omega)] at q
            omega
          · refine jr_aload_n dX2_init_38 rfl ?_
            refine jr_get (w := (Γ0 ++ mkFrame b, ad2, μ2)) 2 0 jf_RX2_11 dX2_init_39 hO rfl (.ref (b + 1)) rfl ?_
            refine jr_iload_n dX2_init_42 rfl (jr_bipush (41 : Int32) dX2_init_43 (by decide) (jr_imul dX2_init_45 (jr_iload_n dX2_init_46 rfl (jr_iadd dX2_init_47 ?_))))
            refine jr_sipush (10000 : Int32) dX2_init_48 (by decide) (jr_iload_n dX2_init_51 rfl (jr_iload_n dX2_init_52 rfl (jr_imul dX2_init_53 (jr_iload_n dX2_init_54 rfl (jr_iload_n dX2_init_55 rfl (jr_imul dX2_init_56 (jr_iadd dX2_init_57 (jr_imul dX2_init_58 ?_))))))))
            have e10 : (10000 : Int32) = ii 10000 := by decide
            rw [e41, e10]
            simp only [ii_mul, ii_add]
            have s1 := sq_le40 (x := (x : Int)) (by omega) (by omega)
            have s2 := sq_le40 (x := (y : Int)) (by omega) (by omega)
            refine jr_callS (w := (Γ0 ++ mkFrame b, ad2, μ2)) (st := [.int (ii ((y : Int) * 41 + x)), .ref (b + 1)]) [.int (ii (10000 * ((x : Int) * x + (y : Int) * y)))] jc_RX2_18 rfl dX2_init_59 rfl rfl rfl rfl ?_
            refine c_X2_rootOf_w (by omega) ⟨rfl, ?_⟩
            have hv : rt (10000 * ((x : Int) * x + (y : Int) * y)) = dl (41 * y + x) := by
              unfold dl dD
              rw [show (((41 * y + x) % 41 : Nat) : Int) = (x : Int) by omega, show (((41 * y + x) / 41 : Nat) : Int) = (y : Int) by omega]
            rw [hv]
            refine jr_iastn (41 * y + x) dX2_init_62 hA (ii_in (by omega) (by omega) (by omega)) (by rw [ii_nat (by omega) (by omega)]; omega) ?_
            refine jr_iinc [some (.ref b), some (.int (ii y)), some (.int (ii ((x + 1 : Nat) : Int)))] dX2_init_63 rfl e6 rfl rfl rfl (jr_goto 32 dX2_init_66 rfl ?_)
            refine ihm (x + 1) _ (by omega) (fun i hi => ?_) (fun c c1 c2 => by rw [jm_st_nc _ _ _ c1]; exact b2 c c1 c2)
            by_cases q : i = 41 * y + x
            · rw [q, jm_st_s]
            · rw [jm_st_ni _ _ _ q]; exact b1 i (by omega)
      refine jr_iload_n dX2_init_24 rfl (jr_bipush (41 : Int32) dX2_init_25 (by decide) (jr_icmp_ge 75 dX2_init_27 rfl (fun q => ?_) (fun _ => ?_)))
      · rw [e41, ii_le (by decide) (by omega)] at q
        omega
      · refine jr_iconst (0 : Int32) dX2_init_30 (by decide) ?_
        refine jr_istore_n [some (.ref b), some (.int (ii y)), some (.int 0)] dX2_init_31 rfl rfl (by rcases hl2 with h | ⟨z, h⟩ <;> rw [h] <;> rfl) ?_
        exact inner 41 0 μ1 (by omega) (fun i hi => a1 i (by omega)) a2
  refine jr_iconst (0 : Int32) dX2_init_22 (by decide) ?_
  refine jr_istore_n [some (.ref b), some (.int 0), none] dX2_init_23 rfl rfl rfl ?_
  exact outer 41 0 μ0 (by omega) (fun i hi => by omega) k0 none (Or.inl rfl)
end JMQ
