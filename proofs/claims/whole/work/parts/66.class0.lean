section JMU
/-- the state at first -/
def h0S : sH := (fun i => if i = 0 then 15 else if i = 1 then 1900 else 6, 0, fun _ => 0)
def s0S : sT := (h0S, [], fun _ => none, [])
theorem h0S_v : vH h0S := ⟨by decide, by decide, by decide, by decide, fun j hj => absurd hj (Nat.not_lt_zero _), fun i j _ hj => absurd hj (Nat.not_lt_zero _)⟩
def S8_0 : List jm_Sh := []
def S8_1 : List jm_Sh := S8_0 ++ jm_shHeard 1
def S8_2 : List jm_Sh := S8_1 ++ mkHist 4
def S8_3 : List jm_Sh := S8_2 ++ [.inr (3, 2, some (fun _ => none))]
def S8_4 : List jm_Sh := S8_3 ++ [.inr (2, 2, none)]
def S8_5 : List jm_Sh := S8_4 ++ mkPad 26
def S8_6 : List jm_Sh := S8_5 ++ mkFrame 29
def S8_7 : List jm_Sh := S8_6 ++ mkFinder 32
def S8_8 : List jm_Sh := S8_7 ++ jm_shShots 38
def S8_9 : List jm_Sh := S8_8 ++ jm_shShots 57
theorem S8_0_len : S8_0.length = 0 := rfl
theorem S8_1_len : S8_1.length = 3 := rfl
theorem S8_2_len : S8_2.length = 23 := rfl
theorem S8_3_len : S8_3.length = 24 := rfl
theorem S8_4_len : S8_4.length = 25 := rfl
theorem S8_5_len : S8_5.length = 28 := rfl
theorem S8_6_len : S8_6.length = 31 := rfl
theorem S8_7_len : S8_7.length = 37 := rfl
theorem S8_8_len : S8_8.length = 56 := rfl
theorem S8_9_len : S8_9.length = 75 := rfl
set_option maxRecDepth 100000 in
set_option maxHeartbeats 8000000 in
theorem i_X8 {g : jm_G} {ad : Nat → Nat} {μ : Nat → Nat → Int32} {P : Option Value → jm_W → Prop} (z0 : μ 0 = fun _ => 0) (hp : ∀ (ad' : Nat → Nat) (μ' : Nat → Nat → Int32), ad' 0 = ad 0 → jm_wf jm_GA → CI μ' s0S → P none (jm_GA, ad', μ')) : jm_Cp g m_X8_init [.ref 0] ([.inl (8, [some none, some none, some none, some none, some none, some none, some none, some none, some none, none])], ad, μ) P := by
  refine jm_intro [some (.ref 0), none] (by decide) rfl rfl (fun κ hE => ?_)
  refine jr_aload_n dX8_init_0 rfl (jr_objInit jc_RX8_3 dX8_init_1 rfl rfl ?_)
  have hb : ([] : List jm_Sh).length = 0 := rfl
  have w0 : jm_wf ([] ++ (.inl (8, [some none, some none, some none, some none, some none, some none, some none, some none, some none, none]) :: S8_0)) := by
    intro x hx
    have e : x = .inl (8, [some none, some none, some none, some none, some none, some none, some none, some none, some none, none]) := by simpa [S8_0] using hx
    rw [e]
    intro r hr
    simp at hr
  show jm_R g m_X8_init κ 0 0 4 [some (.ref 0), none] [] ([] ++ (.inl (8, [some none, some none, some none, some none, some none, some none, some none, some none, some none, none]) :: S8_0), ad, μ)
  refine mk_obj 0 i_X3 hb w0 rfl (fun r hr => onb (by simpa using hr)) dX8_init_4 jn_RX8_9 dX8_init_5 (by simp) rfl dX8_init_8 (fun q st w a1 a2 kk => jr_callNI jc_RX8_11 rfl dX8_init_9 a1 a2 rfl kk) jf_RX8_12 rfl rfl dX8_init_12 (by simp) (fun _ => rfl) (fun _ => rfl) (fun L => by show 0 < 3; omega) (fun ad1 μ1 h1 w1 m1 f1 => ?_)
  have w1 : jm_wf ([] ++ (.inl (8, [some (some 1), some none, some none, some none, some none, some none, some none, some none, some none, none]) :: S8_1)) := w1
  show jm_R g m_X8_init κ 3 38 15 [some (.ref 0), none] [] ([] ++ (.inl (8, [some (some 1), some none, some none, some none, some none, some none, some none, some none, some none, none]) :: S8_1), ad1, μ1)
  have h1 : ∀ r : Nat, r < 1 → ad1 r = ad r := h1
  have m1 : ∀ c : Nat, c < 1 → μ1 c = μ c := m1
  have f1 : μ1 1 = (fun _ => 0) ∧ μ1 2 0 = ii 15 ∧ μ1 2 1 = ii 1900 ∧ μ1 2 2 = ii 6 := f1
  refine mk_obj 1 i_X4 hb w1 rfl (fun r hr => onb (by simpa using hr)) dX8_init_15 jn_RX8_16 dX8_init_16 (by simp) rfl dX8_init_19 (fun q st w a1 a2 kk => jr_callI jc_RX8_18 rfl dX8_init_20 a1 a2 rfl kk) jf_RX8_19 rfl rfl dX8_init_23 (by simp) (fun _ => rfl) (fun _ => rfl) (fun L => by show 0 < 20; omega) (fun ad2 μ2 h2 w2 m2 f2 => ?_)
  have w2 : jm_wf ([] ++ (.inl (8, [some (some 1), some (some 4), some none, some none, some none, some none, some none, some none, some none, none]) :: S8_2)) := w2
  show jm_R g m_X8_init κ 23 275 26 [some (.ref 0), none] [] ([] ++ (.inl (8, [some (some 1), some (some 4), some none, some none, some none, some none, some none, some none, some none, none]) :: S8_2), ad2, μ2)
  have h2 : ∀ r : Nat, r < 4 → ad2 r = ad1 r := h2
  have m2 : ∀ c : Nat, c < 4 → μ2 c = μ1 c := m2
  have f2 : μ2 4 = (fun _ => 0) := f2
  refine mk_arq 3 2 2 hb w2 rfl (fun r hr => onb (by simpa using hr)) dX8_init_26 (fun st w kk => jr_iconst _ dX8_init_27 (by decide) kk) dX8_init_28 (Or.inl ⟨rfl, rfl⟩) jq_RX8_9 (by decide) rfl jf_RX8_23 rfl rfl dX8_init_31 (by simp) (fun _ => rfl) (fun _ => rfl) (fun ad3 h3 w3 => ?_)
  have w3 : jm_wf ([] ++ (.inl (8, [some (some 1), some (some 4), some (some 24), some none, some none, some none, some none, some none, some none, none]) :: S8_3)) := w3
  show jm_R g m_X8_init κ 24 277 34 [some (.ref 0), none] [] ([] ++ (.inl (8, [some (some 1), some (some 4), some (some 24), some none, some none, some none, some none, some none, some none, none]) :: S8_3), ad3, jm_up μ2 24 (fun _ => 0))
  have h3 : ∀ r : Nat, r < 24 → ad3 r = ad2 r := h3
  obtain ⟨μ3, hμ3⟩ : ∃ x : Nat → Nat → Int32, x = jm_up μ2 24 (fun _ => 0) := ⟨_, rfl⟩
  rw [← hμ3]
  refine mk_arr 2 2 3 hb w3 rfl (fun r hr => onb (by simpa using hr)) dX8_init_34 (fun st w kk => jr_iconst _ dX8_init_35 (by decide) kk) dX8_init_36 rfl rfl rfl ja_boolean rfl (by decide) rfl jf_RX8_27 rfl rfl dX8_init_38 (by simp) (fun _ => rfl) (fun _ => rfl) (fun ad4 h4 w4 => ?_)
  have w4 : jm_wf ([] ++ (.inl (8, [some (some 1), some (some 4), some (some 24), some (some 25), some none, some none, some none, some none, some none, none]) :: S8_4)) := w4
  show jm_R g m_X8_init κ 25 279 41 [some (.ref 0), none] [] ([] ++ (.inl (8, [some (some 1), some (some 4), some (some 24), some (some 25), some none, some none, some none, some none, some none, none]) :: S8_4), ad4, jm_up μ3 25 (fun _ => 0))
  have h4 : ∀ r : Nat, r < 25 → ad4 r = ad3 r := h4
  obtain ⟨μ4, hμ4⟩ : ∃ x : Nat → Nat → Int32, x = jm_up μ3 25 (fun _ => 0) := ⟨_, rfl⟩
  rw [← hμ4]
  refine mk_obj 4 i_X5 hb w4 rfl (fun r hr => onb (by simpa using hr)) dX8_init_41 jn_RX8_31 dX8_init_42 (by simp) rfl dX8_init_45 (fun q st w a1 a2 kk => jr_callNI jc_RX8_33 rfl dX8_init_46 a1 a2 rfl kk) jf_RX8_34 rfl rfl dX8_init_49 (by simp) (fun _ => rfl) (fun _ => rfl) (fun L => by show 0 < 3; omega) (fun ad5 μ5 h5 w5 m5 f5 => ?_)
  have w5 : jm_wf ([] ++ (.inl (8, [some (some 1), some (some 4), some (some 24), some (some 25), some (some 26), some none, some none, some none, some none, none]) :: S8_5)) := w5
  show jm_R g m_X8_init κ 28 385 52 [some (.ref 0), none] [] ([] ++ (.inl (8, [some (some 1), some (some 4), some (some 24), some (some 25), some (some 26), some none, some none, some none, some none, none]) :: S8_5), ad5, μ5)
  have h5 : ∀ r : Nat, r < 26 → ad5 r = ad4 r := h5
  have m5 : ∀ c : Nat, c < 26 → μ5 c = μ4 c := m5
  have f5 : μ5 26 = (fun _ => 0) := f5
  refine mk_obj 5 i_X2 hb w5 rfl (fun r hr => onb (by simpa using hr)) dX8_init_52 jn_RX8_38 dX8_init_53 (by simp) rfl dX8_init_56 (fun q st w a1 a2 kk => jr_callI jc_RX8_40 rfl dX8_init_57 a1 a2 rfl kk) jf_RX8_41 rfl rfl dX8_init_60 (by simp) (fun _ => rfl) (fun _ => rfl) (fun L => by show 0 < 3; omega) (fun ad6 μ6 h6 w6 m6 f6 => ?_)
  have w6 : jm_wf ([] ++ (.inl (8, [some (some 1), some (some 4), some (some 24), some (some 25), some (some 26), some (some 29), some none, some none, some none, none]) :: S8_6)) := w6
  show jm_R g m_X8_init κ 31 3750 63 [some (.ref 0), none] [] ([] ++ (.inl (8, [some (some 1), some (some 4), some (some 24), some (some 25), some (some 26), some (some 29), some none, some none, some none, none]) :: S8_6), ad6, μ6)
  have h6 : ∀ r : Nat, r < 29 → ad6 r = ad5 r := h6
  have m6 : ∀ c : Nat, c < 29 → μ6 c = μ5 c := m6
  have f6 : μ6 29 = (fun _ => 0) ∧ ∀ i : Nat, i < 1681 → μ6 30 i = ii (dl i) := f6
  refine mk_obj 6 i_X0 hb w6 rfl (fun r hr => onb (by simpa using hr)) dX8_init_63 jn_RX8_45 dX8_init_64 (by simp) rfl dX8_init_67 (fun q st w a1 a2 kk => jr_callNI jc_RX8_47 rfl dX8_init_68 a1 a2 rfl kk) jf_RX8_48 rfl rfl dX8_init_71 (by simp) (fun _ => rfl) (fun _ => rfl) (fun L => by show 0 < 6; omega) (fun ad7 μ7 h7 w7 m7 f7 => ?_)
  have w7 : jm_wf ([] ++ (.inl (8, [some (some 1), some (some 4), some (some 24), some (some 25), some (some 26), some (some 29), some (some 32), some none, some none, none]) :: S8_7)) := w7
  show jm_R g m_X8_init κ 37 3778 74 [some (.ref 0), none] [] ([] ++ (.inl (8, [some (some 1), some (some 4), some (some 24), some (some 25), some (some 26), some (some 29), some (some 32), some none, some none, none]) :: S8_7), ad7, μ7)
  have h7 : ∀ r : Nat, r < 32 → ad7 r = ad6 r := h7
  have m7 : ∀ c : Nat, c < 32 → μ7 c = μ6 c := m7
  refine mk_obj 7 i_X7 hb w7 rfl (fun r hr => onb (by simpa using hr)) dX8_init_74 jn_RX8_52 dX8_init_75 (by simp) rfl dX8_init_78 (fun q st w a1 a2 kk => jr_callI jc_RX8_54 rfl dX8_init_79 a1 a2 rfl kk) jf_RX8_55 rfl rfl dX8_init_82 (by simp) (fun _ => rfl) (fun _ => rfl) (fun L => by show 0 < 19; omega) (fun ad8 μ8 h8 w8 m8 f8 => ?_)
  have w8 : jm_wf ([] ++ (.inl (8, [some (some 1), some (some 4), some (some 24), some (some 25), some (some 26), some (some 29), some (some 32), some (some 38), some none, none]) :: S8_8)) := w8
  show jm_R g m_X8_init κ 56 3901 85 [some (.ref 0), none] [] ([] ++ (.inl (8, [some (some 1), some (some 4), some (some 24), some (some 25), some (some 26), some (some 29), some (some 32), some (some 38), some none, none]) :: S8_8), ad8, μ8)
  have h8 : ∀ r : Nat, r < 38 → ad8 r = ad7 r := h8
  have m8 : ∀ c : Nat, c < 38 → μ8 c = μ7 c := m8
  refine mk_obj 8 i_X7 hb w8 rfl (fun r hr => onb (by simpa using hr)) dX8_init_85 jn_RX8_52 dX8_init_86 (by simp) rfl dX8_init_89 (fun q st w a1 a2 kk => jr_callI jc_RX8_54 rfl dX8_init_90 a1 a2 rfl kk) jf_RX8_59 rfl rfl dX8_init_93 (by simp) (fun _ => rfl) (fun _ => rfl) (fun L => by show 0 < 19; omega) (fun ad9 μ9 h9 w9 m9 f9 => ?_)
  have w9 : jm_wf ([] ++ (.inl (8, [some (some 1), some (some 4), some (some 24), some (some 25), some (some 26), some (some 29), some (some 32), some (some 38), some (some 57), none]) :: S8_9)) := w9
  show jm_R g m_X8_init κ 75 4024 96 [some (.ref 0), none] [] ([] ++ (.inl (8, [some (some 1), some (some 4), some (some 24), some (some 25), some (some 26), some (some 29), some (some 32), some (some 38), some (some 57), none]) :: S8_9), ad9, μ9)
  have h9 : ∀ r : Nat, r < 57 → ad9 r = ad8 r := h9
  have m9 : ∀ c : Nat, c < 57 → μ9 c = μ8 c := m9
  have hO : ([] ++ (.inl (8, [some (some 1), some (some 4), some (some 24), some (some 25), some (some 26), some (some 29), some (some 32), some (some 38), some (some 57), none]) :: S8_9) : List jm_Sh)[0]? = some (.inl (8, [some (some 1), some (some 4), some (some 24), some (some 25), some (some 26), some (some 29), some (some 32), some (some 38), some (some 57), none])) := rfl
  refine jr_aload_n dX8_init_96 rfl ?_
  refine jr_iconst (1 : Int32) dX8_init_97 (by decide) ?_
  refine jr_put 8 9 jf_RX8_62 dX8_init_98 hO rfl rfl rfl ?_
  obtain ⟨μ10, hμ10⟩ : ∃ x : Nat → Nat → Int32, x = jm_st μ9 0 9 1 := ⟨_, rfl⟩
  rw [← hμ10]
  refine jr_iconst (0 : Int32) dX8_init_101 (by decide) ?_
  refine jr_istore_n [some (.ref 0), some (.int (ii ((0 : Nat) : Int)))] dX8_init_102 rfl rfl rfl ?_
  refine jr_iload_n dX8_init_103 rfl (jr_iconst (2 : Int32) dX8_init_104 (by decide) (jr_icmp_ge 127 dX8_init_105 rfl (fun q => absurd q (by decide)) (fun _ => ?_)))
  refine mk_slot (a := 23) (kd := 3) (len := 2) (i := 0) (f := fun _ => none) 2 i_X3 hb w9 rfl rfl (fun r hr => onb (by simpa using hr)) dX8_init_108 jf_RX8_23 dX8_init_109 rfl rfl (Or.inl ⟨rfl, rfl⟩) (by decide) (by decide) dX8_init_112 jn_RX8_9 dX8_init_113 (by simp) rfl dX8_init_116 (fun q st w a1 a2 kk => jr_callNI jc_RX8_11 rfl dX8_init_117 a1 a2 rfl kk) dX8_init_120 (fun L => ⟨_, rfl⟩) (fun ad10 μ11 h10 w10 m11 => ?_)
  have e1 : va_up (fun _ => none : Nat → Option Nat) 0 (some (0 + 1 + S8_9.length)) = jm_lst 76 3 1 := by
    rw [lst_0 76 3]
    exact lst_s 76 3 0 _ rfl
  rw [e1] at w10 ⊢
  have w10 : jm_wf ([] ++ (.inl (8, [some (some 1), some (some 4), some (some 24), some (some 25), some (some 26), some (some 29), some (some 32), some (some 38), some (some 57), none]) :: (S8_9.set 23 (.inr (3, 2, some (jm_lst 76 3 1))) ++ jm_shHeard 76))) := w10
  have m11 : ∀ c : Nat, c < 76 → μ11 c = μ10 c := m11
  have h10 : ∀ r : Nat, r < 76 → ad10 r = ad9 r := h10
  show jm_R g m_X8_init κ 78 4062 121 [some (.ref 0), some (.int (ii ((0 : Nat) : Int)))] [] ([] ++ (.inl (8, [some (some 1), some (some 4), some (some 24), some (some 25), some (some 26), some (some 29), some (some 32), some (some 38), some (some 57), none]) :: (S8_9.set 23 (.inr (3, 2, some (jm_lst 76 3 1))) ++ jm_shHeard 76)), ad10, μ11)
  refine jr_iinc [some (.ref 0), some (.int (ii ((1 : Nat) : Int)))] dX8_init_121 rfl (by decide) rfl rfl rfl (jr_goto 103 dX8_init_124 rfl ?_)
  refine jr_iload_n dX8_init_103 rfl (jr_iconst (2 : Int32) dX8_init_104 (by decide) (jr_icmp_ge 127 dX8_init_105 rfl (fun q => absurd q (by decide)) (fun _ => ?_)))
  refine mk_slot (a := 23) (kd := 3) (len := 2) (i := 1) (f := jm_lst 76 3 1) 2 i_X3 hb w10 rfl rfl (fun r hr => onb (by simpa using hr)) dX8_init_108 jf_RX8_23 dX8_init_109 rfl rfl (Or.inl ⟨rfl, rfl⟩) (by decide) (by decide) dX8_init_112 jn_RX8_9 dX8_init_113 (by simp) rfl dX8_init_116 (fun q st w a1 a2 kk => jr_callNI jc_RX8_11 rfl dX8_init_117 a1 a2 rfl kk) dX8_init_120 (fun L => ⟨_, rfl⟩) (fun ad11 μ12 h11 w11 m12 => ?_)
  have e2 : va_up (jm_lst 76 3 1) 1 (some (0 + 1 + (S8_9.set 23 (.inr (3, 2, some (jm_lst 76 3 1))) ++ jm_shHeard 76).length)) = jm_lst 76 3 2 := lst_s 76 3 1 _ rfl
  rw [e2] at w11 ⊢
  have w11 : jm_wf jm_GA := w11
  have m12 : ∀ c : Nat, c < 79 → μ12 c = μ11 c := m12
  have h11 : ∀ r : Nat, r < 79 → ad11 r = ad10 r := h11
  show jm_R g m_X8_init κ 81 4100 121 [some (.ref 0), some (.int (ii ((1 : Nat) : Int)))] [] (jm_GA, ad11, μ12)
  refine jr_iinc [some (.ref 0), some (.int (ii ((2 : Nat) : Int)))] dX8_init_121 rfl (by decide) rfl rfl rfl (jr_goto 103 dX8_init_124 rfl ?_)
  refine jr_iload_n dX8_init_103 rfl (jr_iconst (2 : Int32) dX8_init_104 (by decide) (jr_icmp_ge 127 dX8_init_105 rfl (fun _ => ?_) (fun q => absurd (by decide) q)))
  have c9 : ∀ c : Nat, c ≠ 0 → c < 57 → μ12 c = μ9 c := fun c c1 c2 => by rw [m12 c (by omega), m11 c (by omega), hμ10, jm_st_nc _ _ _ c1]
  have c6 : ∀ c : Nat, c ≠ 0 → c < 32 → μ12 c = μ6 c := fun c c1 c2 => by rw [c9 c c1 (by omega), m9 c (by omega), m8 c (by omega), m7 c (by omega)]
  have c4 : ∀ c : Nat, c ≠ 0 → c < 26 → μ12 c = μ4 c := fun c c1 c2 => by rw [c6 c c1 (by omega), m6 c (by omega), m5 c (by omega)]
  have c2 : ∀ c : Nat, c ≠ 0 → c < 24 → μ12 c = μ2 c := fun c c1 c2 => by rw [c4 c c1 (by omega), hμ4, jm_up_n _ _ (by omega), hμ3, jm_up_n _ _ (by omega)]
  have z1 : μ12 1 = fun _ => 0 := by rw [c2 1 (by decide) (by decide), m2 1 (by decide)]; exact f1.1
  have z2 : ∀ i : Nat, i < 3 → μ12 2 i = ii (h0S.1 i) := by
    intro i hi
    rw [c2 2 (by decide) (by decide), m2 2 (by decide)]
    rcases (show i = 0 ∨ i = 1 ∨ i = 2 by omega) with e | e | e <;> rw [e]
    · exact f1.2.1
    · exact f1.2.2.1
    · exact f1.2.2.2
  have z4 : μ12 4 = fun _ => 0 := by rw [c2 4 (by decide) (by decide)]; exact f2
  have z25 : μ12 25 = fun _ => 0 := by rw [c4 25 (by decide) (by decide), hμ4, jm_up_s]
  have z26 : μ12 26 = fun _ => 0 := by rw [c6 26 (by decide) (by decide), m6 26 (by decide)]; exact f5
  have z29 : μ12 29 = fun _ => 0 := by rw [c6 29 (by decide) (by decide)]; exact f6.1
  have z30 : ∀ i : Nat, i < 1681 → μ12 30 i = ii (dl i) := fun i hi => by rw [c6 30 (by decide) (by decide)]; exact f6.2 i hi
  have z9 : μ12 0 9 = ii 1 := by rw [m12 0 (by decide), m11 0 (by decide), hμ10, jm_st_s]; decide
  have zz : (0 : Int32) = ii 0 := by decide
  refine jr_vret hE rfl dX8_init_127 rfl (hp ad11 μ12 ?_ w11 ⟨⟨z2, by rw [z1]; exact zz, by decide, fun j hj => absurd hj (Nat.not_lt_zero _)⟩, h0S_v, ⟨0, by decide, by rw [z4]; exact zz, by rw [z4]; exact zz, by decide, fun k h hk => by cases hk⟩, fun i hi => ⟨fun _ => by rw [z25]; exact zz, fun h hh => by cases hh⟩, ⟨by rw [z26]; exact zz, by decide, fun k c hk => by cases hk⟩, ⟨z30, Or.inl (by rw [z29]; exact zz)⟩, Or.inl z9⟩)
  rw [h11 0 (by decide), h10 0 (by decide), h9 0 (by decide), h8 0 (by decide), h7 0 (by decide), h6 0 (by decide), h5 0 (by decide), h4 0 (by decide), h3 0 (by decide), h2 0 (by decide), h1 0 (by decide)]
end JMU
