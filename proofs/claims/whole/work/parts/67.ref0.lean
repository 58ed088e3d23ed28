section JMV
set_option maxRecDepth 100000 in
set_option maxHeartbeats 1500000 in
theorem i_X9 {g : jm_G} {ad : Nat → Nat} {μ : Nat → Nat → Int32} {P : Option Value → jm_W → Prop} (hw : jm_wf jm_GA) (z0 : μ 82 = fun _ => 0) (hp : ∀ (ad' : Nat → Nat) (μ' : Nat → Nat → Int32), (∀ r : Nat, r < 83 → ad' r = ad r) → (∀ c : Nat, c < 82 → μ' c = μ c) → MI μ' s0S → P none (jm_GAM, ad', μ')) : jm_Cp g m_X9_init [.ref 82] (jm_GA ++ [.inl (9, [some none, some none, some none, none, some none, some none, some none, none, some none, some none, none, none, some none, some none, some none, some none, some none, some none, some none, some none, none, none, none, none, none, none, none])], ad, μ) P := by
  refine jm_intro [some (.ref 82), none, none] (by decide) rfl rfl (fun κ hE => ?_)
  refine jr_aload_n dX9_init_0 rfl (jr_objInit jc_RX9_1 dX9_init_1 rfl rfl ?_)
  have w0 : jm_wf (jm_GA ++ (.inl (9, [some none, some none, some none, none, some none, some none, some none, none, some none, some none, none, none, some none, some none, some none, some none, some none, some none, some none, some none, none, none, none, none, none, none, none]) :: [])) := hw.push (fun r hr => by simp at hr)
  obtain ⟨Γ0, hΓ0⟩ : ∃ x : List jm_Sh, x = jm_GA := ⟨_, rfl⟩
  have hb : Γ0.length = 82 := by rw [hΓ0]; rfl
  rw [← hΓ0] at w0 ⊢
  obtain ⟨μ0, hμ0⟩ : ∃ x : Nat → Nat → Int32, x = μ := ⟨_, rfl⟩
  obtain ⟨ad0, had0⟩ : ∃ x : Nat → Nat, x = ad := ⟨_, rfl⟩
  rw [← hμ0, ← had0]
  refine mk_arr 0 68 0 hb w0 rfl (fun r hr => onb (by simpa using hr)) dX9_init_4 (fun st w kk => jr_bipush _ dX9_init_5 (by decide) kk) dX9_init_7 rfl rfl rfl ja_int rfl (by decide) rfl jf_RX9_7 rfl rfl dX9_init_9 (by simp) (fun _ => rfl) (fun _ => rfl) (fun ad1 h1 w1 => ?_)
  have w1 : jm_wf (Γ0 ++ (.inl (9, [some (some 83), some none, some none, none, some none, some none, some none, none, some none, some none, none, none, some none, some none, some none, some none, some none, some none, some none, some none, none, none, none, none, none, none, none]) :: [.inr (0, 68, none)])) := w1
  have h1 : ∀ r : Nat, r < 83 → ad1 r = ad0 r := h1
  show jm_R g m_X9_init κ 1 68 12 [some (.ref 82), none, none] [] (Γ0 ++ (.inl (9, [some (some 83), some none, some none, none, some none, some none, some none, none, some none, some none, none, none, some none, some none, some none, some none, some none, some none, some none, some none, none, none, none, none, none, none, none]) :: [.inr (0, 68, none)]), ad1, jm_up μ0 83 (fun _ => 0))
  obtain ⟨μ1, hμ1⟩ : ∃ x : Nat → Nat → Int32, x = jm_up μ0 83 (fun _ => 0) := ⟨_, rfl⟩
  rw [← hμ1]
  refine mk_arr 0 68 1 hb w1 rfl (fun r hr => onb (by simpa using hr)) dX9_init_12 (fun st w kk => jr_bipush _ dX9_init_13 (by decide) kk) dX9_init_15 rfl rfl rfl ja_int rfl (by decide) rfl jf_RX9_13 rfl rfl dX9_init_17 (by simp) (fun _ => rfl) (fun _ => rfl) (fun ad2 h2 w2 => ?_)
  have w2 : jm_wf (Γ0 ++ (.inl (9, [some (some 83), some (some 84), some none, none, some none, some none, some none, none, some none, some none, none, none, some none, some none, some none, some none, some none, some none, some none, some none, none, none, none, none, none, none, none]) :: [.inr (0, 68, none), .inr (0, 68, none)])) := w2
  have h2 : ∀ r : Nat, r < 84 → ad2 r = ad1 r := h2
  show jm_R g m_X9_init κ 2 136 20 [some (.ref 82), none, none] [] (Γ0 ++ (.inl (9, [some (some 83), some (some 84), some none, none, some none, some none, some none, none, some none, some none, none, none, some none, some none, some none, some none, some none, some none, some none, some none, none, none, none, none, none, none, none]) :: [.inr (0, 68, none), .inr (0, 68, none)]), ad2, jm_up μ1 84 (fun _ => 0))
  obtain ⟨μ2, hμ2⟩ : ∃ x : Nat → Nat → Int32, x = jm_up μ1 84 (fun _ => 0) := ⟨_, rfl⟩
  rw [← hμ2]
  refine mk_arr 0 408 2 hb w2 rfl (fun r hr => onb (by simpa using hr)) dX9_init_20 (fun st w kk => jr_sipush _ dX9_init_21 (by decide) kk) dX9_init_24 rfl rfl rfl ja_int rfl (by decide) rfl jf_RX9_16 rfl rfl dX9_init_26 (by simp) (fun _ => rfl) (fun _ => rfl) (fun ad3 h3 w3 => ?_)
  have w3 : jm_wf (Γ0 ++ (.inl (9, [some (some 83), some (some 84), some (some 85), none, some none, some none, some none, none, some none, some none, none, none, some none, some none, some none, some none, some none, some none, some none, some none, none, none, none, none, none, none, none]) :: [.inr (0, 68, none), .inr (0, 68, none), .inr (0, 408, none)])) := w3
  have h3 : ∀ r : Nat, r < 85 → ad3 r = ad2 r := h3
  show jm_R g m_X9_init κ 3 544 29 [some (.ref 82), none, none] [] (Γ0 ++ (.inl (9, [some (some 83), some (some 84), some (some 85), none, some none, some none, some none, none, some none, some none, none, none, some none, some none, some none, some none, some none, some none, some none, some none, none, none, none, none, none, none, none]) :: [.inr (0, 68, none), .inr (0, 68, none), .inr (0, 408, none)]), ad3, jm_up μ2 85 (fun _ => 0))
  obtain ⟨μ3, hμ3⟩ : ∃ x : Nat → Nat → Int32, x = jm_up μ2 85 (fun _ => 0) := ⟨_, rfl⟩
  rw [← hμ3]
  refine mk_arr 0 136 4 hb w3 rfl (fun r hr => onb (by simpa using hr)) dX9_init_29 (fun st w kk => jr_sipush _ dX9_init_30 (by decide) kk) dX9_init_33 rfl rfl rfl ja_int rfl (by decide) rfl jf_RX9_19 rfl rfl dX9_init_35 (by simp) (fun _ => rfl) (fun _ => rfl) (fun ad4 h4 w4 => ?_)
  have w4 : jm_wf (Γ0 ++ (.inl (9, [some (some 83), some (some 84), some (some 85), none, some (some 86), some none, some none, none, some none, some none, none, none, some none, some none, some none, some none, some none, some none, some none, some none, none, none, none, none, none, none, none]) :: [.inr (0, 68, none), .inr (0, 68, none), .inr (0, 408, none), .inr (0, 136, none)])) := w4
  have h4 : ∀ r : Nat, r < 86 → ad4 r = ad3 r := h4
  show jm_R g m_X9_init κ 4 680 38 [some (.ref 82), none, none] [] (Γ0 ++ (.inl (9, [some (some 83), some (some 84), some (some 85), none, some (some 86), some none, some none, none, some none, some none, none, none, some none, some none, some none, some none, some none, some none, some none, some none, none, none, none, none, none, none, none]) :: [.inr (0, 68, none), .inr (0, 68, none), .inr (0, 408, none), .inr (0, 136, none)]), ad4, jm_up μ3 86 (fun _ => 0))
  obtain ⟨μ4, hμ4⟩ : ∃ x : Nat → Nat → Int32, x = jm_up μ3 86 (fun _ => 0) := ⟨_, rfl⟩
  rw [← hμ4]
  refine mk_arr 0 2 5 hb w4 rfl (fun r hr => onb (by simpa using hr)) dX9_init_38 (fun st w kk => jr_iconst _ dX9_init_39 (by decide) kk) dX9_init_40 rfl rfl rfl ja_int rfl (by decide) rfl jf_RX9_22 rfl rfl dX9_init_42 (by simp) (fun _ => rfl) (fun _ => rfl) (fun ad5 h5 w5 => ?_)
  have w5 : jm_wf (Γ0 ++ (.inl (9, [some (some 83), some (some 84), some (some 85), none, some (some 86), some (some 87), some none, none, some none, some none, none, none, some none, some none, some none, some none, some none, some none, some none, some none, none, none, none, none, none, none, none]) :: [.inr (0, 68, none), .inr (0, 68, none), .inr (0, 408, none), .inr (0, 136, none), .inr (0, 2, none)])) := w5
  have h5 : ∀ r : Nat, r < 87 → ad5 r = ad4 r := h5
  show jm_R g m_X9_init κ 5 682 45 [some (.ref 82), none, none] [] (Γ0 ++ (.inl (9, [some (some 83), some (some 84), some (some 85), none, some (some 86), some (some 87), some none, none, some none, some none, none, none, some none, some none, some none, some none, some none, some none, some none, some none, none, none, none, none, none, none, none]) :: [.inr (0, 68, none), .inr (0, 68, none), .inr (0, 408, none), .inr (0, 136, none), .inr (0, 2, none)]), ad5, jm_up μ4 87 (fun _ => 0))
  obtain ⟨μ5, hμ5⟩ : ∃ x : Nat → Nat → Int32, x = jm_up μ4 87 (fun _ => 0) := ⟨_, rfl⟩
  rw [← hμ5]
  refine mk_arr 0 80 6 hb w5 rfl (fun r hr => onb (by simpa using hr)) dX9_init_45 (fun st w kk => jr_bipush _ dX9_init_46 (by decide) kk) dX9_init_48 rfl rfl rfl ja_int rfl (by decide) rfl jf_RX9_25 rfl rfl dX9_init_50 (by simp) (fun _ => rfl) (fun _ => rfl) (fun ad6 h6 w6 => ?_)
  have w6 : jm_wf (Γ0 ++ (.inl (9, [some (some 83), some (some 84), some (some 85), none, some (some 86), some (some 87), some (some 88), none, some none, some none, none, none, some none, some none, some none, some none, some none, some none, some none, some none, none, none, none, none, none, none, none]) :: [.inr (0, 68, none), .inr (0, 68, none), .inr (0, 408, none), .inr (0, 136, none), .inr (0, 2, none), .inr (0, 80, none)])) := w6
  have h6 : ∀ r : Nat, r < 88 → ad6 r = ad5 r := h6
  show jm_R g m_X9_init κ 6 762 53 [some (.ref 82), none, none] [] (Γ0 ++ (.inl (9, [some (some 83), some (some 84), some (some 85), none, some (some 86), some (some 87), some (some 88), none, some none, some none, none, none, some none, some none, some none, some none, some none, some none, some none, some none, none, none, none, none, none, none, none]) :: [.inr (0, 68, none), .inr (0, 68, none), .inr (0, 408, none), .inr (0, 136, none), .inr (0, 2, none), .inr (0, 80, none)]), ad6, jm_up μ5 88 (fun _ => 0))
  obtain ⟨μ6, hμ6⟩ : ∃ x : Nat → Nat → Int32, x = jm_up μ5 88 (fun _ => 0) := ⟨_, rfl⟩
  rw [← hμ6]
  refine mk_arr 0 1681 8 hb w6 rfl (fun r hr => onb (by simpa using hr)) dX9_init_53 (fun st w kk => jr_sipush _ dX9_init_54 (by decide) kk) dX9_init_57 rfl rfl rfl ja_int rfl (by decide) rfl jf_RX9_28 rfl rfl dX9_init_59 (by simp) (fun _ => rfl) (fun _ => rfl) (fun ad7 h7 w7 => ?_)
  have w7 : jm_wf (Γ0 ++ (.inl (9, [some (some 83), some (some 84), some (some 85), none, some (some 86), some (some 87), some (some 88), none, some (some 89), some none, none, none, some none, some none, some none, some none, some none, some none, some none, some none, none, none, none, none, none, none, none]) :: [.inr (0, 68, none), .inr (0, 68, none), .inr (0, 408, none), .inr (0, 136, none), .inr (0, 2, none), .inr (0, 80, none), .inr (0, 1681, none)])) := w7
  have h7 : ∀ r : Nat, r < 89 → ad7 r = ad6 r := h7
  show jm_R g m_X9_init κ 7 2443 62 [some (.ref 82), none, none] [] (Γ0 ++ (.inl (9, [some (some 83), some (some 84), some (some 85), none, some (some 86), some (some 87), some (some 88), none, some (some 89), some none, none, none, some none, some none, some none, some none, some none, some none, some none, some none, none, none, none, none, none, none, none]) :: [.inr (0, 68, none), .inr (0, 68, none), .inr (0, 408, none), .inr (0, 136, none), .inr (0, 2, none), .inr (0, 80, none), .inr (0, 1681, none)]), ad7, jm_up μ6 89 (fun _ => 0))
  obtain ⟨μ7, hμ7⟩ : ∃ x : Nat → Nat → Int32, x = jm_up μ6 89 (fun _ => 0) := ⟨_, rfl⟩
  rw [← hμ7]
  refine mk_arr 0 6724 9 hb w7 rfl (fun r hr => onb (by simpa using hr)) dX9_init_62 (fun st w kk => jr_sipush _ dX9_init_63 (by decide) kk) dX9_init_66 rfl rfl rfl ja_int rfl (by decide) rfl jf_RX9_31 rfl rfl dX9_init_68 (by simp) (fun _ => rfl) (fun _ => rfl) (fun ad8 h8 w8 => ?_)
  have w8 : jm_wf (Γ0 ++ (.inl (9, [some (some 83), some (some 84), some (some 85), none, some (some 86), some (some 87), some (some 88), none, some (some 89), some (some 90), none, none, some none, some none, some none, some none, some none, some none, some none, some none, none, none, none, none, none, none, none]) :: [.inr (0, 68, none), .inr (0, 68, none), .inr (0, 408, none), .inr (0, 136, none), .inr (0, 2, none), .inr (0, 80, none), .inr (0, 1681, none), .inr (0, 6724, none)])) := w8
  have h8 : ∀ r : Nat, r < 90 → ad8 r = ad7 r := h8
  show jm_R g m_X9_init κ 8 9167 71 [some (.ref 82), none, none] [] (Γ0 ++ (.inl (9, [some (some 83), some (some 84), some (some 85), none, some (some 86), some (some 87), some (some 88), none, some (some 89), some (some 90), none, none, some none, some none, some none, some none, some none, some none, some none, some none, none, none, none, none, none, none, none]) :: [.inr (0, 68, none), .inr (0, 68, none), .inr (0, 408, none), .inr (0, 136, none), .inr (0, 2, none), .inr (0, 80, none), .inr (0, 1681, none), .inr (0, 6724, none)]), ad8, jm_up μ7 90 (fun _ => 0))
  obtain ⟨μ8, hμ8⟩ : ∃ x : Nat → Nat → Int32, x = jm_up μ7 90 (fun _ => 0) := ⟨_, rfl⟩
  rw [← hμ8]
  refine mk_arr 0 32 12 hb w8 rfl (fun r hr => onb (by simpa using hr)) dX9_init_71 (fun st w kk => jr_bipush _ dX9_init_72 (by decide) kk) dX9_init_74 rfl rfl rfl ja_int rfl (by decide) rfl jf_RX9_34 rfl rfl dX9_init_76 (by simp) (fun _ => rfl) (fun _ => rfl) (fun ad9 h9 w9 => ?_)
  have w9 : jm_wf (Γ0 ++ (.inl (9, [some (some 83), some (some 84), some (some 85), none, some (some 86), some (some 87), some (some 88), none, some (some 89), some (some 90), none, none, some (some 91), some none, some none, some none, some none, some none, some none, some none, none, none, none, none, none, none, none]) :: [.inr (0, 68, none), .inr (0, 68, none), .inr (0, 408, none), .inr (0, 136, none), .inr (0, 2, none), .inr (0, 80, none), .inr (0, 1681, none), .inr (0, 6724, none), .inr (0, 32, none)])) := w9
  have h9 : ∀ r : Nat, r < 91 → ad9 r = ad8 r := h9
  show jm_R g m_X9_init κ 9 9199 79 [some (.ref 82), none, none] [] (Γ0 ++ (.inl (9, [some (some 83), some (some 84), some (some 85), none, some (some 86), some (some 87), some (some 88), none, some (some 89), some (some 90), none, none, some (some 91), some none, some none, some none, some none, some none, some none, some none, none, none, none, none, none, none, none]) :: [.inr (0, 68, none), .inr (0, 68, none), .inr (0, 408, none), .inr (0, 136, none), .inr (0, 2, none), .inr (0, 80, none), .inr (0, 1681, none), .inr (0, 6724, none), .inr (0, 32, none)]), ad9, jm_up μ8 91 (fun _ => 0))
  obtain ⟨μ9, hμ9⟩ : ∃ x : Nat → Nat → Int32, x = jm_up μ8 91 (fun _ => 0) := ⟨_, rfl⟩
  rw [← hμ9]
  refine mk_arr 0 8 13 hb w9 rfl (fun r hr => onb (by simpa using hr)) dX9_init_79 (fun st w kk => jr_bipush _ dX9_init_80 (by decide) kk) dX9_init_82 rfl rfl rfl ja_int rfl (by decide) rfl jf_RX9_37 rfl rfl dX9_init_84 (by simp) (fun _ => rfl) (fun _ => rfl) (fun ad10 h10 w10 => ?_)
  have w10 : jm_wf (Γ0 ++ (.inl (9, [some (some 83), some (some 84), some (some 85), none, some (some 86), some (some 87), some (some 88), none, some (some 89), some (some 90), none, none, some (some 91), some (some 92), some none, some none, some none, some none, some none, some none, none, none, none, none, none, none, none]) :: [.inr (0, 68, none), .inr (0, 68, none), .inr (0, 408, none), .inr (0, 136, none), .inr (0, 2, none), .inr (0, 80, none), .inr (0, 1681, none), .inr (0, 6724, none), .inr (0, 32, none), .inr (0, 8, none)])) := w10
  have h10 : ∀ r : Nat, r < 92 → ad10 r = ad9 r := h10
  show jm_R g m_X9_init κ 10 9207 87 [some (.ref 82), none, none] [] (Γ0 ++ (.inl (9, [some (some 83), some (some 84), some (some 85), none, some (some 86), some (some 87), some (some 88), none, some (some 89), some (some 90), none, none, some (some 91), some (some 92), some none, some none, some none, some none, some none, some none, none, none, none, none, none, none, none]) :: [.inr (0, 68, none), .inr (0, 68, none), .inr (0, 408, none), .inr (0, 136, none), .inr (0, 2, none), .inr (0, 80, none), .inr (0, 1681, none), .inr (0, 6724, none), .inr (0, 32, none), .inr (0, 8, none)]), ad10, jm_up μ9 92 (fun _ => 0))
  obtain ⟨μ10, hμ10⟩ : ∃ x : Nat → Nat → Int32, x = jm_up μ9 92 (fun _ => 0) := ⟨_, rfl⟩
  rw [← hμ10]
  refine mk_arr 0 8 14 hb w10 rfl (fun r hr => onb (by simpa using hr)) dX9_init_87 (fun st w kk => jr_bipush _ dX9_init_88 (by decide) kk) dX9_init_90 rfl rfl rfl ja_int rfl (by decide) rfl jf_RX9_40 rfl rfl dX9_init_92 (by simp) (fun _ => rfl) (fun _ => rfl) (fun ad11 h11 w11 => ?_)
  have w11 : jm_wf (Γ0 ++ (.inl (9, [some (some 83), some (some 84), some (some 85), none, some (some 86), some (some 87), some (some 88), none, some (some 89), some (some 90), none, none, some (some 91), some (some 92), some (some 93), some none, some none, some none, some none, some none, none, none, none, none, none, none, none]) :: [.inr (0, 68, none), .inr (0, 68, none), .inr (0, 408, none), .inr (0, 136, none), .inr (0, 2, none), .inr (0, 80, none), .inr (0, 1681, none), .inr (0, 6724, none), .inr (0, 32, none), .inr (0, 8, none), .inr (0, 8, none)])) := w11
  have h11 : ∀ r : Nat, r < 93 → ad11 r = ad10 r := h11
  show jm_R g m_X9_init κ 11 9215 95 [some (.ref 82), none, none] [] (Γ0 ++ (.inl (9, [some (some 83), some (some 84), some (some 85), none, some (some 86), some (some 87), some (some 88), none, some (some 89), some (some 90), none, none, some (some 91), some (some 92), some (some 93), some none, some none, some none, some none, some none, none, none, none, none, none, none, none]) :: [.inr (0, 68, none), .inr (0, 68, none), .inr (0, 408, none), .inr (0, 136, none), .inr (0, 2, none), .inr (0, 80, none), .inr (0, 1681, none), .inr (0, 6724, none), .inr (0, 32, none), .inr (0, 8, none), .inr (0, 8, none)]), ad11, jm_up μ10 93 (fun _ => 0))
  obtain ⟨μ11, hμ11⟩ : ∃ x : Nat → Nat → Int32, x = jm_up μ10 93 (fun _ => 0) := ⟨_, rfl⟩
  rw [← hμ11]
  refine mk_arr 0 8 15 hb w11 rfl (fun r hr => onb (by simpa using hr)) dX9_init_95 (fun st w kk => jr_bipush _ dX9_init_96 (by decide) kk) dX9_init_98 rfl rfl rfl ja_int rfl (by decide) rfl jf_RX9_43 rfl rfl dX9_init_100 (by simp) (fun _ => rfl) (fun _ => rfl) (fun ad12 h12 w12 => ?_)
  have w12 : jm_wf (Γ0 ++ (.inl (9, [some (some 83), some (some 84), some (some 85), none, some (some 86), some (some 87), some (some 88), none, some (some 89), some (some 90), none, none, some (some 91), some (some 92), some (some 93), some (some 94), some none, some none, some none, some none, none, none, none, none, none, none, none]) :: [.inr (0, 68, none), .inr (0, 68, none), .inr (0, 408, none), .inr (0, 136, none), .inr (0, 2, none), .inr (0, 80, none), .inr (0, 1681, none), .inr (0, 6724, none), .inr (0, 32, none), .inr (0, 8, none), .inr (0, 8, none), .inr (0, 8, none)])) := w12
  have h12 : ∀ r : Nat, r < 94 → ad12 r = ad11 r := h12
  show jm_R g m_X9_init κ 12 9223 103 [some (.ref 82), none, none] [] (Γ0 ++ (.inl (9, [some (some 83), some (some 84), some (some 85), none, some (some 86), some (some 87), some (some 88), none, some (some 89), some (some 90), none, none, some (some 91), some (some 92), some (some 93), some (some 94), some none, some none, some none, some none, none, none, none, none, none, none, none]) :: [.inr (0, 68, none), .inr (0, 68, none), .inr (0, 408, none), .inr (0, 136, none), .inr (0, 2, none), .inr (0, 80, none), .inr (0, 1681, none), .inr (0, 6724, none), .inr (0, 32, none), .inr (0, 8, none), .inr (0, 8, none), .inr (0, 8, none)]), ad12, jm_up μ11 94 (fun _ => 0))
  obtain ⟨μ12, hμ12⟩ : ∃ x : Nat → Nat → Int32, x = jm_up μ11 94 (fun _ => 0) := ⟨_, rfl⟩
  rw [← hμ12]
  refine mk_arr 0 32 16 hb w12 rfl (fun r hr => onb (by simpa using hr)) dX9_init_103 (fun st w kk => jr_bipush _ dX9_init_104 (by decide) kk) dX9_init_106 rfl rfl rfl ja_int rfl (by decide) rfl jf_RX9_46 rfl rfl dX9_init_108 (by simp) (fun _ => rfl) (fun _ => rfl) (fun ad13 h13 w13 => ?_)
  have w13 : jm_wf (Γ0 ++ (.inl (9, [some (some 83), some (some 84), some (some 85), none, some (some 86), some (some 87), some (some 88), none, some (some 89), some (some 90), none, none, some (some 91), some (some 92), some (some 93), some (some 94), some (some 95), some none, some none, some none, none, none, none, none, none, none, none]) :: [.inr (0, 68, none), .inr (0, 68, none), .inr (0, 408, none), .inr (0, 136, none), .inr (0, 2, none), .inr (0, 80, none), .inr (0, 1681, none), .inr (0, 6724, none), .inr (0, 32, none), .inr (0, 8, none), .inr (0, 8, none), .inr (0, 8, none), .inr (0, 32, none)])) := w13
  have h13 : ∀ r : Nat, r < 95 → ad13 r = ad12 r := h13
  show jm_R g m_X9_init κ 13 9255 111 [some (.ref 82), none, none] [] (Γ0 ++ (.inl (9, [some (some 83), some (some 84), some (some 85), none, some (some 86), some (some 87), some (some 88), none, some (some 89), some (some 90), none, none, some (some 91), some (some 92), some (some 93), some (some 94), some (some 95), some none, some none, some none, none, none, none, none, none, none, none]) :: [.inr (0, 68, none), .inr (0, 68, none), .inr (0, 408, none), .inr (0, 136, none), .inr (0, 2, none), .inr (0, 80, none), .inr (0, 1681, none), .inr (0, 6724, none), .inr (0, 32, none), .inr (0, 8, none), .inr (0, 8, none), .inr (0, 8, none), .inr (0, 32, none)]), ad13, jm_up μ12 95 (fun _ => 0))
  obtain ⟨μ13, hμ13⟩ : ∃ x : Nat → Nat → Int32, x = jm_up μ12 95 (fun _ => 0) := ⟨_, rfl⟩
  rw [← hμ13]
  refine mk_arr 0 4 17 hb w13 rfl (fun r hr => onb (by simpa using hr)) dX9_init_111 (fun st w kk => jr_iconst _ dX9_init_112 (by decide) kk) dX9_init_113 rfl rfl rfl ja_int rfl (by decide) rfl jf_RX9_49 rfl rfl dX9_init_115 (by simp) (fun _ => rfl) (fun _ => rfl) (fun ad14 h14 w14 => ?_)
  have w14 : jm_wf (Γ0 ++ (.inl (9, [some (some 83), some (some 84), some (some 85), none, some (some 86), some (some 87), some (some 88), none, some (some 89), some (some 90), none, none, some (some 91), some (some 92), some (some 93), some (some 94), some (some 95), some (some 96), some none, some none, none, none, none, none, none, none, none]) :: [.inr (0, 68, none), .inr (0, 68, none), .inr (0, 408, none), .inr (0, 136, none), .inr (0, 2, none), .inr (0, 80, none), .inr (0, 1681, none), .inr (0, 6724, none), .inr (0, 32, none), .inr (0, 8, none), .inr (0, 8, none), .inr (0, 8, none), .inr (0, 32, none), .inr (0, 4, none)])) := w14
  have h14 : ∀ r : Nat, r < 96 → ad14 r = ad13 r := h14
  show jm_R g m_X9_init κ 14 9259 118 [some (.ref 82), none, none] [] (Γ0 ++ (.inl (9, [some (some 83), some (some 84), some (some 85), none, some (some 86), some (some 87), some (some 88), none, some (some 89), some (some 90), none, none, some (some 91), some (some 92), some (some 93), some (some 94), some (some 95), some (some 96), some none, some none, none, none, none, none, none, none, none]) :: [.inr (0, 68, none), .inr (0, 68, none), .inr (0, 408, none), .inr (0, 136, none), .inr (0, 2, none), .inr (0, 80, none), .inr (0, 1681, none), .inr (0, 6724, none), .inr (0, 32, none), .inr (0, 8, none), .inr (0, 8, none), .inr (0, 8, none), .inr (0, 32, none), .inr (0, 4, none)]), ad14, jm_up μ13 96 (fun _ => 0))
  obtain ⟨μ14, hμ14⟩ : ∃ x : Nat → Nat → Int32, x = jm_up μ13 96 (fun _ => 0) := ⟨_, rfl⟩
  rw [← hμ14]
  refine mk_arr 0 8 18 hb w14 rfl (fun r hr => onb (by simpa using hr)) dX9_init_118 (fun st w kk => jr_bipush _ dX9_init_119 (by decide) kk) dX9_init_121 rfl rfl rfl ja_int rfl (by decide) rfl jf_RX9_52 rfl rfl dX9_init_123 (by simp) (fun _ => rfl) (fun _ => rfl) (fun ad15 h15 w15 => ?_)
  have w15 : jm_wf (Γ0 ++ (.inl (9, [some (some 83), some (some 84), some (some 85), none, some (some 86), some (some 87), some (some 88), none, some (some 89), some (some 90), none, none, some (some 91), some (some 92), some (some 93), some (some 94), some (some 95), some (some 96), some (some 97), some none, none, none, none, none, none, none, none]) :: [.inr (0, 68, none), .inr (0, 68, none), .inr (0, 408, none), .inr (0, 136, none), .inr (0, 2, none), .inr (0, 80, none), .inr (0, 1681, none), .inr (0, 6724, none), .inr (0, 32, none), .inr (0, 8, none), .inr (0, 8, none), .inr (0, 8, none), .inr (0, 32, none), .inr (0, 4, none), .inr (0, 8, none)])) := w15
  have h15 : ∀ r : Nat, r < 97 → ad15 r = ad14 r := h15
  show jm_R g m_X9_init κ 15 9267 126 [some (.ref 82), none, none] [] (Γ0 ++ (.inl (9, [some (some 83), some (some 84), some (some 85), none, some (some 86), some (some 87), some (some 88), none, some (some 89), some (some 90), none, none, some (some 91), some (some 92), some (some 93), some (some 94), some (some 95), some (some 96), some (some 97), some none, none, none, none, none, none, none, none]) :: [.inr (0, 68, none), .inr (0, 68, none), .inr (0, 408, none), .inr (0, 136, none), .inr (0, 2, none), .inr (0, 80, none), .inr (0, 1681, none), .inr (0, 6724, none), .inr (0, 32, none), .inr (0, 8, none), .inr (0, 8, none), .inr (0, 8, none), .inr (0, 32, none), .inr (0, 4, none), .inr (0, 8, none)]), ad15, jm_up μ14 97 (fun _ => 0))
  obtain ⟨μ15, hμ15⟩ : ∃ x : Nat → Nat → Int32, x = jm_up μ14 97 (fun _ => 0) := ⟨_, rfl⟩
  rw [← hμ15]
  refine mk_arr 0 4 19 hb w15 rfl (fun r hr => onb (by simpa using hr)) dX9_init_126 (fun st w kk => jr_iconst _ dX9_init_127 (by decide) kk) dX9_init_128 rfl rfl rfl ja_int rfl (by decide) rfl jf_RX9_55 rfl rfl dX9_init_130 (by simp) (fun _ => rfl) (fun _ => rfl) (fun ad16 h16 w16 => ?_)
  have w16 : jm_wf (Γ0 ++ (.inl (9, [some (some 83), some (some 84), some (some 85), none, some (some 86), some (some 87), some (some 88), none, some (some 89), some (some 90), none, none, some (some 91), some (some 92), some (some 93), some (some 94), some (some 95), some (some 96), some (some 97), some (some 98), none, none, none, none, none, none, none]) :: [.inr (0, 68, none), .inr (0, 68, none), .inr (0, 408, none), .inr (0, 136, none), .inr (0, 2, none), .inr (0, 80, none), .inr (0, 1681, none), .inr (0, 6724, none), .inr (0, 32, none), .inr (0, 8, none), .inr (0, 8, none), .inr (0, 8, none), .inr (0, 32, none), .inr (0, 4, none), .inr (0, 8, none), .inr (0, 4, none)])) := w16
  have h16 : ∀ r : Nat, r < 98 → ad16 r = ad15 r := h16
  show jm_R g m_X9_init κ 16 9271 133 [some (.ref 82), none, none] [] (Γ0 ++ (.inl (9, [some (some 83), some (some 84), some (some 85), none, some (some 86), some (some 87), some (some 88), none, some (some 89), some (some 90), none, none, some (some 91), some (some 92), some (some 93), some (some 94), some (some 95), some (some 96), some (some 97), some (some 98), none, none, none, none, none, none, none]) :: [.inr (0, 68, none), .inr (0, 68, none), .inr (0, 408, none), .inr (0, 136, none), .inr (0, 2, none), .inr (0, 80, none), .inr (0, 1681, none), .inr (0, 6724, none), .inr (0, 32, none), .inr (0, 8, none), .inr (0, 8, none), .inr (0, 8, none), .inr (0, 32, none), .inr (0, 4, none), .inr (0, 8, none), .inr (0, 4, none)]), ad16, jm_up μ15 98 (fun _ => 0))
  obtain ⟨μ16, hμ16⟩ : ∃ x : Nat → Nat → Int32, x = jm_up μ15 98 (fun _ => 0) := ⟨_, rfl⟩
  rw [← hμ16]
  have had : ∀ r : Nat, r < 83 → ad16 r = ad r := fun r hr => by rw [h16 r (by omega), h15 r (by omega), h14 r (by omega), h13 r (by omega), h12 r (by omega), h11 r (by omega), h10 r (by omega), h9 r (by omega), h8 r (by omega), h7 r (by omega), h6 r (by omega), h5 r (by omega), h4 r (by omega), h3 r (by omega), h2 r (by omega), h1 r (by omega), had0]
  have hz : ∀ c : Nat, 82 ≤ c → c ≤ 98 → μ16 c = fun _ => 0 := by
    intro c c1 c2
    rcases (show c = 82 ∨ c = 83 ∨ c = 84 ∨ c = 85 ∨ c = 86 ∨ c = 87 ∨ c = 88 ∨ c = 89 ∨ c = 90 ∨ c = 91 ∨ c = 92 ∨ c = 93 ∨ c = 94 ∨ c = 95 ∨ c = 96 ∨ c = 97 ∨ c = 98 by omega) with e | e | e | e | e | e | e | e | e | e | e | e | e | e | e | e | e <;> subst e
    · rw [hμ16, jm_up_n _ _ (by decide), hμ15, jm_up_n _ _ (by decide), hμ14, jm_up_n _ _ (by decide), hμ13, jm_up_n _ _ (by decide), hμ12, jm_up_n _ _ (by decide), hμ11, jm_up_n _ _ (by decide), hμ10, jm_up_n _ _ (by decide), hμ9, jm_up_n _ _ (by decide), hμ8, jm_up_n _ _ (by decide), hμ7, jm_up_n _ _ (by decide), hμ6, jm_up_n _ _ (by decide), hμ5, jm_up_n _ _ (by decide), hμ4, jm_up_n _ _ (by decide), hμ3, jm_up_n _ _ (by decide), hμ2, jm_up_n _ _ (by decide), hμ1, jm_up_n _ _ (by decide), hμ0, z0]
    · rw [hμ16, jm_up_n _ _ (by decide), hμ15, jm_up_n _ _ (by decide), hμ14, jm_up_n _ _ (by decide), hμ13, jm_up_n _ _ (by decide), hμ12, jm_up_n _ _ (by decide), hμ11, jm_up_n _ _ (by decide), hμ10, jm_up_n _ _ (by decide), hμ9, jm_up_n _ _ (by decide), hμ8, jm_up_n _ _ (by decide), hμ7, jm_up_n _ _ (by decide), hμ6, jm_up_n _ _ (by decide), hμ5, jm_up_n _ _ (by decide), hμ4, jm_up_n _ _ (by decide), hμ3, jm_up_n _ _ (by decide), hμ2, jm_up_n _ _ (by decide), hμ1, jm_up_s]
    · rw [hμ16, jm_up_n _ _ (by decide), hμ15, jm_up_n _ _ (by decide), hμ14, jm_up_n _ _ (by decide), hμ13, jm_up_n _ _ (by decide), hμ12, jm_up_n _ _ (by decide), hμ11, jm_up_n _ _ (by decide), hμ10, jm_up_n _ _ (by decide), hμ9, jm_up_n _ _ (by decide), hμ8, jm_up_n _ _ (by decide), hμ7, jm_up_n _ _ (by decide), hμ6, jm_up_n _ _ (by decide), hμ5, jm_up_n _ _ (by decide), hμ4, jm_up_n _ _ (by decide), hμ3, jm_up_n _ _ (by decide), hμ2, jm_up_s]
    · rw [hμ16, jm_up_n _ _ (by decide), hμ15, jm_up_n _ _ (by decide), hμ14, jm_up_n _ _ (by decide), hμ13, jm_up_n _ _ (by decide), hμ12, jm_up_n _ _ (by decide), hμ11, jm_up_n _ _ (by decide), hμ10, jm_up_n _ _ (by decide), hμ9, jm_up_n _ _ (by decide), hμ8, jm_up_n _ _ (by decide), hμ7, jm_up_n _ _ (by decide), hμ6, jm_up_n _ _ (by decide), hμ5, jm_up_n _ _ (by decide), hμ4, jm_up_n _ _ (by decide), hμ3, jm_up_s]
    · rw [hμ16, jm_up_n _ _ (by decide), hμ15, jm_up_n _ _ (by decide), hμ14, jm_up_n _ _ (by decide), hμ13, jm_up_n _ _ (by decide), hμ12, jm_up_n _ _ (by decide), hμ11, jm_up_n _ _ (by decide), hμ10, jm_up_n _ _ (by decide), hμ9, jm_up_n _ _ (by decide), hμ8, jm_up_n _ _ (by decide), hμ7, jm_up_n _ _ (by decide), hμ6, jm_up_n _ _ (by decide), hμ5, jm_up_n _ _ (by decide), hμ4, jm_up_s]
    · rw [hμ16, jm_up_n _ _ (by decide), hμ15, jm_up_n _ _ (by decide), hμ14, jm_up_n _ _ (by decide), hμ13, jm_up_n _ _ (by decide), hμ12, jm_up_n _ _ (by decide), hμ11, jm_up_n _ _ (by decide), hμ10, jm_up_n _ _ (by decide), hμ9, jm_up_n _ _ (by decide), hμ8, jm_up_n _ _ (by decide), hμ7, jm_up_n _ _ (by decide), hμ6, jm_up_n _ _ (by decide), hμ5, jm_up_s]
    · rw [hμ16, jm_up_n _ _ (by decide), hμ15, jm_up_n _ _ (by decide), hμ14, jm_up_n _ _ (by decide), hμ13, jm_up_n _ _ (by decide), hμ12, jm_up_n _ _ (by decide), hμ11, jm_up_n _ _ (by decide), hμ10, jm_up_n _ _ (by decide), hμ9, jm_up_n _ _ (by decide), hμ8, jm_up_n _ _ (by decide), hμ7, jm_up_n _ _ (by decide), hμ6, jm_up_s]
    · rw [hμ16, jm_up_n _ _ (by decide), hμ15, jm_up_n _ _ (by decide), hμ14, jm_up_n _ _ (by decide), hμ13, jm_up_n _ _ (by decide), hμ12, jm_up_n _ _ (by decide), hμ11, jm_up_n _ _ (by decide), hμ10, jm_up_n _ _ (by decide), hμ9, jm_up_n _ _ (by decide), hμ8, jm_up_n _ _ (by decide), hμ7, jm_up_s]
    · rw [hμ16, jm_up_n _ _ (by decide), hμ15, jm_up_n _ _ (by decide), hμ14, jm_up_n _ _ (by decide), hμ13, jm_up_n _ _ (by decide), hμ12, jm_up_n _ _ (by decide), hμ11, jm_up_n _ _ (by decide), hμ10, jm_up_n _ _ (by decide), hμ9, jm_up_n _ _ (by decide), hμ8, jm_up_s]
    · rw [hμ16, jm_up_n _ _ (by decide), hμ15, jm_up_n _ _ (by decide), hμ14, jm_up_n _ _ (by decide), hμ13, jm_up_n _ _ (by decide), hμ12, jm_up_n _ _ (by decide), hμ11, jm_up_n _ _ (by decide), hμ10, jm_up_n _ _ (by decide), hμ9, jm_up_s]
    · rw [hμ16, jm_up_n _ _ (by decide), hμ15, jm_up_n _ _ (by decide), hμ14, jm_up_n _ _ (by decide), hμ13, jm_up_n _ _ (by decide), hμ12, jm_up_n _ _ (by decide), hμ11, jm_up_n _ _ (by decide), hμ10, jm_up_s]
    · rw [hμ16, jm_up_n _ _ (by decide), hμ15, jm_up_n _ _ (by decide), hμ14, jm_up_n _ _ (by decide), hμ13, jm_up_n _ _ (by decide), hμ12, jm_up_n _ _ (by decide), hμ11, jm_up_s]
    · rw [hμ16, jm_up_n _ _ (by decide), hμ15, jm_up_n _ _ (by decide), hμ14, jm_up_n _ _ (by decide), hμ13, jm_up_n _ _ (by decide), hμ12, jm_up_s]
    · rw [hμ16, jm_up_n _ _ (by decide), hμ15, jm_up_n _ _ (by decide), hμ14, jm_up_n _ _ (by decide), hμ13, jm_up_s]
    · rw [hμ16, jm_up_n _ _ (by decide), hμ15, jm_up_n _ _ (by decide), hμ14, jm_up_s]
    · rw [hμ16, jm_up_n _ _ (by decide), hμ15, jm_up_s]
    · rw [hμ16, jm_up_s]
  have hlow : ∀ c : Nat, c < 82 → μ16 c = μ c := fun c hc => by rw [hμ16, jm_up_n _ _ (by omega), hμ15, jm_up_n _ _ (by omega), hμ14, jm_up_n _ _ (by omega), hμ13, jm_up_n _ _ (by omega), hμ12, jm_up_n _ _ (by omega), hμ11, jm_up_n _ _ (by omega), hμ10, jm_up_n _ _ (by omega), hμ9, jm_up_n _ _ (by omega), hμ8, jm_up_n _ _ (by omega), hμ7, jm_up_n _ _ (by omega), hμ6, jm_up_n _ _ (by omega), hμ5, jm_up_n _ _ (by omega), hμ4, jm_up_n _ _ (by omega), hμ3, jm_up_n _ _ (by omega), hμ2, jm_up_n _ _ (by omega), hμ1, jm_up_n _ _ (by omega), hμ0]
  rw [hΓ0] at w16 ⊢
  have eB : ((.inl (9, [some (some 83), some (some 84), some (some 85), none, some (some 86), some (some 87), some (some 88), none, some (some 89), some (some 90), none, none, some (some 91), some (some 92), some (some 93), some (some 94), some (some 95), some (some 96), some (some 97), some (some 98), none, none, none, none, none, none, none]) :: [.inr (0, 68, none), .inr (0, 68, none), .inr (0, 408, none), .inr (0, 136, none), .inr (0, 2, none), .inr (0, 80, none), .inr (0, 1681, none), .inr (0, 6724, none), .inr (0, 32, none), .inr (0, 8, none), .inr (0, 8, none), .inr (0, 8, none), .inr (0, 32, none), .inr (0, 4, none), .inr (0, 8, none), .inr (0, 4, none)]) : List jm_Sh) = jm_GB := rfl
  rw [eB] at w16 ⊢
  have eM : jm_GA ++ jm_GB = jm_GAM := rfl
  rw [eM] at w16 ⊢
  refine jr_aload_n dX9_init_133 rfl ?_
  refine jr_get (w := (jm_GAM, ad16, μ16)) 9 0 jf_RX9_7 dX9_init_134 ga_82 rfl (.ref 83) rfl ?_
  refine jr_iconst (0 : Int32) dX9_init_137 (by decide) (jr_bipush (15 : Int32) dX9_init_138 (by decide) (jr_iastn 0 dX9_init_140 ga_83 (jm_inD (by decide)) (by decide) ?_))
  refine jr_aload_n dX9_init_141 rfl ?_
  refine jr_get (w := (jm_GAM, ad16, jm_st μ16 83 0 15)) 9 0 jf_RX9_7 dX9_init_142 ga_82 rfl (.ref 83) rfl ?_
  refine jr_iconst (1 : Int32) dX9_init_145 (by decide) (jr_sipush (1900 : Int32) dX9_init_146 (by decide) (jr_iastn 1 dX9_init_149 ga_83 (jm_inD (by decide)) (by decide) ?_))
  refine jr_aload_n dX9_init_150 rfl ?_
  refine jr_get (w := (jm_GAM, ad16, jm_st (jm_st μ16 83 0 15) 83 1 1900)) 9 0 jf_RX9_7 dX9_init_151 ga_82 rfl (.ref 83) rfl ?_
  refine jr_iconst (2 : Int32) dX9_init_154 (by decide) (jr_bipush (6 : Int32) dX9_init_155 (by decide) (jr_iastn 2 dX9_init_157 ga_83 (jm_inD (by decide)) (by decide) ?_))
  obtain ⟨μ17, hμ17⟩ : ∃ x : Nat → Nat → Int32, x = jm_st (jm_st (jm_st μ16 83 0 15) 83 1 1900) 83 2 6 := ⟨_, rfl⟩
  rw [← hμ17]
  have x83 : ∀ i : Nat, i < 3 → μ17 83 i = ii (h0S.1 i) := by
    intro i hi
    rw [hμ17]
    rcases (show i = 0 ∨ i = 1 ∨ i = 2 by omega) with e | e | e <;> rw [e]
    · rw [jm_st_ni _ _ _ (by decide), jm_st_ni _ _ _ (by decide), jm_st_s]; decide
    · rw [jm_st_ni _ _ _ (by decide), jm_st_s]; decide
    · rw [jm_st_s]; decide
  have x833 : μ17 83 3 = 0 := by rw [hμ17, jm_st_ni _ _ _ (by decide), jm_st_ni _ _ _ (by decide), jm_st_ni _ _ _ (by decide), hz 83 (by decide) (by decide)]
  have x17 : ∀ c : Nat, c ≠ 83 → μ17 c = μ16 c := fun c cc => by rw [hμ17, jm_st_nc _ _ _ cc, jm_st_nc _ _ _ cc, jm_st_nc _ _ _ cc]
  have zz : (0 : Int32) = ii 0 := by decide
  have e40 : (40 : Int32) = ii 40 := by decide
  have e41 : (41 : Int32) = ii 41 := by decide
  have fin : ∀ μ1 : Nat → Nat → Int32, (∀ i : Nat, i < 1681 → μ1 89 i = ii (dl i)) → (∀ c : Nat, c ≠ 89 → μ1 c = μ17 c) → P none (jm_GAM, ad16, μ1) := by
    intro μ1 a1 a2
    have y82 : μ1 82 = fun _ => 0 := by rw [a2 82 (by decide), x17 82 (by decide)]; exact hz 82 (by decide) (by decide)
    have y87 : μ1 87 = fun _ => 0 := by rw [a2 87 (by decide), x17 87 (by decide)]; exact hz 87 (by decide) (by decide)
    refine hp ad16 μ1 had (fun c hc => by rw [a2 c (by omega), x17 c (by omega)]; exact hlow c hc) ⟨⟨fun i hi => by rw [a2 83 (by decide)]; exact x83 i hi, by rw [a2 83 (by decide), x833]; exact zz, by decide, fun j hj => absurd hj (Nat.not_lt_zero _)⟩, h0S_v, ⟨by rw [y82]; exact zz, by decide, fun k h hk => by cases hk⟩, fun i hi => ⟨fun _ => by rw [y87]; exact zz, fun h hh => by cases hh⟩, ⟨by rw [y82]; exact zz, by decide, fun k c hk => by cases hk⟩, a1, Or.inl (by rw [y82]; exact zz)⟩
  -- the table of distances
  have outer : ∀ (m x : Nat) (μ1 : Nat → Nat → Int32), x + m = 41 → (∀ i : Nat, i < 41 * x → μ1 89 i = ii (dl i)) → (∀ c : Nat, c ≠ 89 → μ1 c = μ17 c) → ∀ l2 : Option Value, (l2 = none ∨ ∃ z : Int32, l2 = some (.int z)) → jm_R g m_X9_init κ 16 9271 160 [some (.ref 82), some (.int (ii x)), l2] [] (jm_GAM, ad16, μ1) := by
    intro m
    induction m with
    | zero =>
      intro x μ1 hx a1 a2 l2 hl2
      refine jr_iload_n dX9_init_160 rfl (jr_bipush (40 : Int32) dX9_init_161 (by decide) (jr_icmp_gt 211 dX9_init_163 rfl (fun _ => ?_) (fun q => ?_)))
      · exact jr_vret hE rfl dX9_init_211 rfl (fin μ1 (fun i hi => a1 i (by omega)) a2)
      · rw [e40, ii_lt (by decide) (by omega)] at q
        omega
    | succ m ih =>
      intro x μ1 hx a1 a2 l2 hl2
      have e5 : ii (x : Int) + 1 = ii ((x + 1 : Nat) : Int) := by simp (disch := omega) only [ii_lit, ii_neg, ii_add, ii_sub, ii_mul, ii_lt, ii_le, ii_eq]; rfl
      have inner : ∀ (m2 y : Nat) (μ2 : Nat → Nat → Int32), y + m2 = 41 → (∀ i : Nat, i < 41 * x + y → μ2 89 i = ii (dl i)) → (∀ c : Nat, c ≠ 89 → μ2 c = μ17 c) → jm_R g m_X9_init κ 16 9271 168 [some (.ref 82), some (.int (ii x)), some (.int (ii y))] [] (jm_GAM, ad16, μ2) := by
        intro m2
        induction m2 with
        | zero =>
          intro y μ2 hy b1 b2
          refine jr_iload_n dX9_init_168 rfl (jr_bipush (40 : Int32) dX9_init_169 (by decide) (jr_icmp_gt 205 dX9_init_171 rfl (fun _ => ?_) (fun q => ?_)))
          · refine jr_iinc [some (.ref 82), some (.int (ii ((x + 1 : Nat) : Int))), some (.int (ii y))] dX9_init_205 rfl e5 rfl rfl rfl (jr_goto 160 dX9_init_208 rfl ?_)
            exact ih (x + 1) μ2 (by omega) (fun i hi => b1 i (by omega)) b2 _ (Or.inr ⟨_, rfl⟩)
          · rw [e40, ii_lt (by decide) (by omega)] at q
            omega
        | succ m2 ihm =>
          intro y μ2 hy b1 b2
          have e6 : ii (y : Int) + 1 = ii ((y + 1 : Nat) : Int) := by simp (disch := omega) only [ii_lit, ii_neg, ii_add, ii_sub, ii_mul, ii_lt, ii_le, ii_eq]; rfl
          refine jr_iload_n dX9_init_168 rfl (jr_bipush (40 : Int32) dX9_init_169 (by decide) (jr_icmp_gt 205 dX9_init_171 rfl (fun q => ?_) (fun _ => ?_)))
          · rw [e40, ii_lt (by decide) (by omega)] at q
            omega
          · refine jr_aload_n dX9_init_174 rfl ?_
            refine jr_get (w := (jm_GAM, ad16, μ2)) 9 8 jf_RX9_28 dX9_init_175 ga_82 rfl (.ref 89) rfl ?_
            refine jr_bipush (41 : Int32) dX9_init_178 (by decide) (jr_iload_n dX9_init_180 rfl (jr_imul dX9_init_181 (jr_iload_n dX9_init_182 rfl (jr_iadd dX9_init_183 ?_))))
            refine jr_sipush (10000 : Int32) dX9_init_184 (by decide) (jr_iload_n dX9_init_187 rfl (jr_iload_n dX9_init_188 rfl (jr_imul dX9_init_189 (jr_iload_n dX9_init_190 rfl (jr_iload_n dX9_init_191 rfl (jr_imul dX9_init_192 (jr_iadd dX9_init_193 (jr_imul dX9_init_194 ?_))))))))
            have e10 : (10000 : Int32) = ii 10000 := by decide
            rw [e41, e10]
            simp only [ii_mul, ii_add]
            have s1 := sq_le40 (x := (x : Int)) (by omega) (by omega)
            have s2 := sq_le40 (x := (y : Int)) (by omega) (by omega)
            refine jr_callS (w := (jm_GAM, ad16, μ2)) (st := [.int (ii (41 * (x : Int) + y)), .ref 89]) [.int (ii (10000 * ((x : Int) * x + (y : Int) * y)))] jc_RX9_58 rfl dX9_init_195 rfl rfl rfl rfl ?_
            refine c_X9_root_w (by omega) ⟨rfl, ?_⟩
            have hv : rt (10000 * ((x : Int) * x + (y : Int) * y)) = dl (41 * x + y) := by
              unfold dl dD
              rw [show (((41 * x + y) % 41 : Nat) : Int) = (y : Int) by omega, show (((41 * x + y) / 41 : Nat) : Int) = (x : Int) by omega, Int.add_comm]
            rw [hv]
            refine jr_iastn (41 * x + y) dX9_init_198 ga_89 (ii_in (by omega) (by omega) (by omega)) (by rw [ii_nat (by omega) (by omega)]; omega) ?_
            refine jr_iinc [some (.ref 82), some (.int (ii x)), some (.int (ii ((y + 1 : Nat) : Int)))] dX9_init_199 rfl e6 rfl rfl rfl (jr_goto 168 dX9_init_202 rfl ?_)
            refine ihm (y + 1) _ (by omega) (fun i hi => ?_) (fun c c1 => by rw [jm_st_nc _ _ _ c1]; exact b2 c c1)
            by_cases q : i = 41 * x + y
            · rw [q, jm_st_s]
            · rw [jm_st_ni _ _ _ q]; exact b1 i (by omega)
      refine jr_iload_n dX9_init_160 rfl (jr_bipush (40 : Int32) dX9_init_161 (by decide) (jr_icmp_gt 211 dX9_init_163 rfl (fun q => ?_) (fun _ => ?_)))
      · rw [e40, ii_lt (by decide) (by omega)] at q
        omega
      · refine jr_iconst (0 : Int32) dX9_init_166 (by decide) ?_
        refine jr_istore_n [some (.ref 82), some (.int (ii x)), some (.int 0)] dX9_init_167 rfl rfl (by rcases hl2 with h | ⟨z, h⟩ <;> rw [h] <;> rfl) ?_
        exact inner 41 0 μ1 (by omega) (fun i hi => a1 i (by omega)) a2
  refine jr_iconst (0 : Int32) dX9_init_158 (by decide) ?_
  refine jr_istore_n [some (.ref 82), some (.int 0), none] dX9_init_159 rfl rfl rfl ?_
  exact outer 41 0 μ17 (by omega) (fun i hi => by omega) (fun _ _ => rfl) none (Or.inl rfl)
end JMV
