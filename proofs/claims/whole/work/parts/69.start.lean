section JST
variable {g : jm_G} {κ : jm_K}
theorem ga_len : jm_GA.length = 82 := by decide
theorem ga_len1 (x : jm_Sh) : (jm_GA ++ [x]).length = 83 := by rw [List.length_append, ga_len]; rfl
set_option maxRecDepth 100000 in
set_option maxHeartbeats 1500000 in
/-- the law from its first place -/
theorem law_start {ad : Nat → Nat} {μ : Nat → Nat → Int32} (hg : gOK g) (hL : g.2.2.2.2.1 2 ≤ 2048) (hend : ∀ (ad' : Nat → Nat) (i : Nat) (μ' : Nat → Nat → Int32), jW g ad' κ 702 i [.int 1] μ') : jm_R g m_L_law κ 0 0 0 [some (.retAddr 2), none, none, none] [] ([], ad, μ) := by
  refine jr_new 8 [some none, some none, some none, some none, some none, some none, some none, some none, some none, none] jn_RL_7 dL_law_0 (fun sh h => absurd h List.not_mem_nil) ⟨fun r h => by simp at h, fun r h => absurd h List.not_mem_nil⟩ (by decide) (fun q1 => ?_)
  refine jr_dup dL_law_3 rfl ?_
  refine jr_callI jc_RL_9 rfl dL_law_4 rfl ⟨fun r h => by simp at h, fun r h => by simp at h; subst h; exact Nat.zero_lt_one⟩ (by decide) ?_
  refine i_X8 (jm_up_s _ _ _) (fun ad1 μ1 h1 w1 c1 => ⟨rfl, fun r hr => ?_, ?_⟩)
  · have hr : r < 1 := hr
    obtain rfl : r = 0 := by omega
    exact h1
  refine jr_astore_n [some (.retAddr 2), some (.ref 0), none, none] dL_law_7 rfl rfl rfl ?_
  refine jr_new 9 [some none, some none, some none, none, some none, some none, some none, none, some none, some none, none, none, some none, some none, some none, some none, some none, some none, some none, some none, none, none, none, none, none, none, none] jn_RL_10 dL_law_8 w1 ⟨fun r h => by simp at h; subst h; rw [ga_len]; decide, fun r h => absurd h List.not_mem_nil⟩ (by decide) (fun q2 => ?_)
  rw [ga_len]
  refine jr_dup dL_law_11 rfl ?_
  refine jr_callI jc_RL_12 rfl dL_law_12 rfl ⟨fun r h => by simp at h; subst h; rw [ga_len1]; decide, fun r h => by simp at h; subst h; rw [ga_len1]; decide⟩ (by decide) ?_
  refine i_X9 w1 (jm_up_s _ _ _) (fun ad2 μ2 h2 k2 m2 => ⟨rfl, fun r hr => h2 r (by rw [← ga_len1]; exact hr), ?_⟩)
  have c2 : CI μ2 s0S := c1.kept (fun c hc => by rw [k2 c hc, jm_up_n _ _ (by omega)])
  refine jr_astore_n [some (.retAddr 2), some (.ref 0), some (.ref 82), none] dL_law_15 rfl rfl rfl ?_
  refine jr_iconst (ii ((0 : Nat) : Int)) dL_law_16 (by decide) ?_
  refine jr_istore_n (lsL 0) dL_law_17 rfl rfl rfl ?_
  exact law_loop hg hL (hend ad2) (g.2.2.2.2.1 2) 0 μ2 s0S (by omega) (by omega) c2 m2
end JST
