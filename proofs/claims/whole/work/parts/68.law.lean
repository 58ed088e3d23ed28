section JLW
variable {g : jm_G} {ad : Nat → Nat} {κ : jm_K}
/-- the law's locals -/
abbrev lsL (i : Nat) : List (Option Value) := [some (.retAddr 2), some (.ref 0), some (.ref 82), some (.int (ii i))]
/-- the law behind its makes -/
abbrev jW (g : jm_G) (ad : Nat → Nat) (κ : jm_K) (pc i : Nat) (st : List Value) (μ : Nat → Nat → Int32) : Prop := jm_R g m_L_law κ 99 13408 pc (lsL i) st (jm_GAM, ad, μ)
theorem jl_call {M2 : jm_M} {pc i idx np q : Nat} {μ : Nat → Nat → Int32} {st0 : List Value} (st As : List Value) {ci : Nat} {fs : List (Option (Option Nat))} (hL : jm_LV m_L_law.1.cls idx M2 np) (hfit : jm_fit m_L_law M2 = true) (hdg : decode m_L_law.2.1 pc = .ok (.invokevirtual idx, 3)) (hg : jm_GAM[q]? = some (.inl (ci, fs))) (hci : (vwCl[ci]?).map (fun r => r.1) = some M2.1.cls) (hst : st0 = As.reverse ++ .ref q :: st) (hnp : As.length = np) (hlow : jm_low st = true) (hz : M2.2.2.2.2.cells = 0 ∧ M2.2.2.2.2.slots = 0)
    (kk : jD g ad M2 (.ref q :: As) μ (fun v μ' => jW g ad κ (pc + 3) i (jm_ps v st) μ')) : jW g ad κ pc i st0 μ := by
  refine jr_callV (w := (jm_GAM, ad, μ)) As hL hfit hdg hg hci hst hnp hlow (by rw [hz.1, hz.2]; rfl) (jm_Cp.mono kk (fun v w' hw => ?_))
  obtain ⟨μ', rfl, h⟩ := hw
  refine ⟨rfl, ?_⟩
  rw [hz.1, hz.2]
  exact h
theorem jl_arg {pc i : Nat} {μ : Nat → Nat → Int32} {st : List Value} (j : Nat) {z : Int} (hi : i + j < g.2.2.2.2.1 2) (hL : g.2.2.2.2.1 2 ≤ 2048) (hz : Int32.ofInt z = ii (j : Int)) (d0 : decode m_L_law.2.1 pc = .ok (.aload_n 0, 1)) (d1 : decode m_L_law.2.1 (pc + 1) = .ok (.iload_n 3, 1)) (d2 : decode m_L_law.2.1 (pc + 1 + 1) = .ok (.iconst z, 1)) (d3 : decode m_L_law.2.1 (pc + 1 + 1 + 1) = .ok (.iadd, 1)) (d4 : decode m_L_law.2.1 (pc + 1 + 1 + 1 + 1) = .ok (.iaload, 1))
    (kk : jW g ad κ (pc + 1 + 1 + 1 + 1 + 1) i (.int (g.2.2.2.2.2 2 (i + j)) :: st) μ) : jW g ad κ pc i st μ := by
  refine jr_aload_r d0 rfl (jr_iload_n d1 rfl (jr_iconst (ii (j : Int)) d2 hz (jr_iadd d3 ?_)))
  rw [ii_add]
  refine jr_rald (by decide) d4 (ii_in (by omega) (by omega) (by omega)) ?_
  rw [ii_nat (by omega) (by omega), show ((i : Int) + j).toNat = i + j by omega]
  exact kk
set_option maxRecDepth 100000 in
set_option maxHeartbeats 4000000 in
theorem arm_set {i : Nat} {μ : Nat → Nat → Int32} {σ : sT} (hg : gOK g) (hi : i + 3 < g.2.2.2.2.1 2) (hL : g.2.2.2.2.1 2 ≤ 2048) (hc : CI μ σ) (hm : MI μ σ) (hn : ∀ (μ' : Nat → Nat → Int32) (σ' : sT), CI μ' σ' → MI μ' σ' → jW g ad κ 695 i [] μ') : jW g ad κ 132 i [] μ := by
  refine jr_aload_n dL_law_132 rfl ?_
  refine jl_arg 1 (by omega) hL (by decide) dL_law_133 dL_law_134 dL_law_135 dL_law_136 dL_law_137 ?_
  refine jl_arg 2 (by omega) hL (by decide) dL_law_138 dL_law_139 dL_law_140 dL_law_141 dL_law_142 ?_
  obtain ⟨z1, e1, r1⟩ := ii_ex (g.2.2.2.2.2 2 (i + 1))
  obtain ⟨z2, e2, r2⟩ := ii_ex (g.2.2.2.2.2 2 (i + 2))
  rw [e1, e2]
  refine jl_call [] [.int (ii z1), .int (ii z2)] jc_RL_13 rfl dL_law_143 ga_0 rfl rfl rfl rfl ⟨rfl, rfl⟩ ?_
  refine c_X8_set hg hc r1 r2 (fun μ1 c1 b1 => ?_)
  refine jr_aload_n dL_law_146 rfl ?_
  refine jl_arg 1 (by omega) hL (by decide) dL_law_147 dL_law_148 dL_law_149 dL_law_150 dL_law_151 ?_
  refine jl_arg 2 (by omega) hL (by decide) dL_law_152 dL_law_153 dL_law_154 dL_law_155 dL_law_156 ?_
  rw [e1, e2]
  refine jl_call [.int _] [.int (ii z1), .int (ii z2)] jc_RL_17 rfl dL_law_157 ga_82 rfl rfl rfl rfl ⟨rfl, rfl⟩ ?_
  refine c_X9_set (hm.kept b1) r1 r2 (fun μ2 m2 a2 => ?_)
  exact jr_icmp_eq 695 dL_law_160 rfl (fun _ => hn μ2 _ (c1.kept a2) m2) (fun q => absurd rfl q)
set_option maxRecDepth 100000 in
set_option maxHeartbeats 4000000 in
theorem arm_hear {i : Nat} {μ : Nat → Nat → Int32} {σ : sT} (hi : i + 3 < g.2.2.2.2.1 2) (hL : g.2.2.2.2.1 2 ≤ 2048) (hc : CI μ σ) (hm : MI μ σ) (hn : ∀ (μ' : Nat → Nat → Int32) (σ' : sT), CI μ' σ' → MI μ' σ' → jW g ad κ 695 i [] μ') : jW g ad κ 165 i [] μ := by
  refine jr_aload_n dL_law_165 rfl ?_
  refine jl_arg 1 (by omega) hL (by decide) dL_law_166 dL_law_167 dL_law_168 dL_law_169 dL_law_170 ?_
  refine jl_arg 2 (by omega) hL (by decide) dL_law_171 dL_law_172 dL_law_173 dL_law_174 dL_law_175 ?_
  obtain ⟨z1, e1, r1⟩ := ii_ex (g.2.2.2.2.2 2 (i + 1))
  obtain ⟨z2, e2, r2⟩ := ii_ex (g.2.2.2.2.2 2 (i + 2))
  rw [e1, e2]
  refine jl_call [] [.int (ii z1), .int (ii z2)] jc_RL_18 rfl dL_law_176 ga_0 rfl rfl rfl rfl ⟨rfl, rfl⟩ ?_
  refine c_X8_hear hc r1 r2 (fun μ1 c1 b1 => ?_)
  refine jr_aload_n dL_law_179 rfl ?_
  refine jl_arg 1 (by omega) hL (by decide) dL_law_180 dL_law_181 dL_law_182 dL_law_183 dL_law_184 ?_
  refine jl_arg 2 (by omega) hL (by decide) dL_law_185 dL_law_186 dL_law_187 dL_law_188 dL_law_189 ?_
  rw [e1, e2]
  refine jl_call [.int _] [.int (ii z1), .int (ii z2)] jc_RL_21 rfl dL_law_190 ga_82 rfl rfl rfl rfl ⟨rfl, rfl⟩ ?_
  refine c_X9_hear (hm.kept b1) r1 r2 (fun μ2 m2 a2 => ?_)
  exact jr_icmp_eq 695 dL_law_193 rfl (fun _ => hn μ2 _ (c1.kept a2) m2) (fun q => absurd rfl q)
set_option maxRecDepth 100000 in
set_option maxHeartbeats 4000000 in
theorem arm_fire {i : Nat} {μ : Nat → Nat → Int32} {σ : sT} (hi : i + 3 < g.2.2.2.2.1 2) (hL : g.2.2.2.2.1 2 ≤ 2048) (hc : CI μ σ) (hm : MI μ σ) (hn : ∀ (μ' : Nat → Nat → Int32) (σ' : sT), CI μ' σ' → MI μ' σ' → jW g ad κ 695 i [] μ') : jW g ad κ 198 i [] μ := by
  refine jr_aload_n dL_law_198 rfl ?_
  refine jl_arg 1 (by omega) hL (by decide) dL_law_199 dL_law_200 dL_law_201 dL_law_202 dL_law_203 ?_
  refine jl_arg 2 (by omega) hL (by decide) dL_law_204 dL_law_205 dL_law_206 dL_law_207 dL_law_208 ?_
  refine jl_arg 3 (by omega) hL (by decide) dL_law_209 dL_law_210 dL_law_211 dL_law_212 dL_law_213 ?_
  obtain ⟨z1, e1, r1⟩ := ii_ex (g.2.2.2.2.2 2 (i + 1))
  obtain ⟨z2, e2, r2⟩ := ii_ex (g.2.2.2.2.2 2 (i + 2))
  obtain ⟨z3, e3, r3⟩ := ii_ex (g.2.2.2.2.2 2 (i + 3))
  rw [e1, e2, e3]
  refine jl_call [] [.int (ii z1), .int (ii z2), .int (ii z3)] jc_RL_22 rfl dL_law_214 ga_0 rfl rfl rfl rfl ⟨rfl, rfl⟩ ?_
  refine c_X8_fire hc r1 r2 r3 (fun μ1 c1 b1 => ?_)
  refine jr_aload_n dL_law_217 rfl ?_
  refine jl_arg 1 (by omega) hL (by decide) dL_law_218 dL_law_219 dL_law_220 dL_law_221 dL_law_222 ?_
  refine jl_arg 2 (by omega) hL (by decide) dL_law_223 dL_law_224 dL_law_225 dL_law_226 dL_law_227 ?_
  refine jl_arg 3 (by omega) hL (by decide) dL_law_228 dL_law_229 dL_law_230 dL_law_231 dL_law_232 ?_
  rw [e1, e2, e3]
  refine jl_call [.int _] [.int (ii z1), .int (ii z2), .int (ii z3)] jc_RL_26 rfl dL_law_233 ga_82 rfl rfl rfl rfl ⟨rfl, rfl⟩ ?_
  refine c_X9_fire (hm.kept b1) r1 r2 r3 (fun μ2 m2 a2 => ?_)
  exact jr_icmp_eq 695 dL_law_236 rfl (fun _ => hn μ2 _ (c1.kept a2) m2) (fun q => absurd rfl q)
set_option maxRecDepth 100000 in
set_option maxHeartbeats 4000000 in
theorem arm_hearAll {i : Nat} {μ : Nat → Nat → Int32} {σ : sT} (hi : i + 3 < g.2.2.2.2.1 2) (hL : g.2.2.2.2.1 2 ≤ 2048) (hc : CI μ σ) (hm : MI μ σ) (hn : ∀ (μ' : Nat → Nat → Int32) (σ' : sT), CI μ' σ' → MI μ' σ' → jW g ad κ 695 i [] μ') : jW g ad κ 241 i [] μ := by
  refine jr_aload_n dL_law_241 rfl ?_
  refine jl_call [] [] jc_RL_27 rfl dL_law_242 ga_0 rfl rfl rfl rfl ⟨rfl, rfl⟩ ?_
  refine c_X8_hearAll hc (fun μ1 c1 b1 => ?_)
  refine jr_aload_n dL_law_245 rfl ?_
  refine jl_call [.int _] [] jc_RL_31 rfl dL_law_246 ga_82 rfl rfl rfl rfl ⟨rfl, rfl⟩ ?_
  refine c_X9_hearAll (hm.kept b1) (fun μ2 m2 a2 => ?_)
  exact jr_icmp_eq 695 dL_law_249 rfl (fun _ => hn μ2 _ (c1.kept a2) m2) (fun q => absurd rfl q)
set_option maxRecDepth 100000 in
set_option maxHeartbeats 4000000 in
theorem arm_forget {i : Nat} {μ : Nat → Nat → Int32} {σ : sT} (hi : i + 3 < g.2.2.2.2.1 2) (hL : g.2.2.2.2.1 2 ≤ 2048) (hc : CI μ σ) (hm : MI μ σ) (hn : ∀ (μ' : Nat → Nat → Int32) (σ' : sT), CI μ' σ' → MI μ' σ' → jW g ad κ 695 i [] μ') : jW g ad κ 254 i [] μ := by
  refine jr_aload_n dL_law_254 rfl ?_
  refine jl_arg 1 (by omega) hL (by decide) dL_law_255 dL_law_256 dL_law_257 dL_law_258 dL_law_259 ?_
  obtain ⟨z1, e1, r1⟩ := ii_ex (g.2.2.2.2.2 2 (i + 1))
  rw [e1]
  refine jl_call [] [.int (ii z1)] jc_RL_32 rfl dL_law_260 ga_0 rfl rfl rfl rfl ⟨rfl, rfl⟩ ?_
  refine c_X8_forget hc r1 (fun μ1 c1 b1 => ?_)
  refine jr_aload_n dL_law_263 rfl ?_
  refine jl_arg 1 (by omega) hL (by decide) dL_law_264 dL_law_265 dL_law_266 dL_law_267 dL_law_268 ?_
  rw [e1]
  refine jl_call [.int _] [.int (ii z1)] jc_RL_36 rfl dL_law_269 ga_82 rfl rfl rfl rfl ⟨rfl, rfl⟩ ?_
  refine c_X9_forget (hm.kept b1) r1 (fun μ2 m2 a2 => ?_)
  exact jr_icmp_eq 695 dL_law_272 rfl (fun _ => hn μ2 _ (c1.kept a2) m2) (fun q => absurd rfl q)
set_option maxRecDepth 100000 in
set_option maxHeartbeats 4000000 in
theorem arm_clear {i : Nat} {μ : Nat → Nat → Int32} {σ : sT} (hi : i + 3 < g.2.2.2.2.1 2) (hL : g.2.2.2.2.1 2 ≤ 2048) (hc : CI μ σ) (hm : MI μ σ) (hn : ∀ (μ' : Nat → Nat → Int32) (σ' : sT), CI μ' σ' → MI μ' σ' → jW g ad κ 695 i [] μ') : jW g ad κ 277 i [] μ := by
  refine jr_aload_n dL_law_277 rfl ?_
  refine jl_call [] [] jc_RL_37 rfl dL_law_278 ga_0 rfl rfl rfl rfl ⟨rfl, rfl⟩ ?_
  refine c_X8_clear hc (fun μ1 c1 b1 => ?_)
  refine jr_aload_n dL_law_281 rfl ?_
  refine jl_call [.int _] [] jc_RL_40 rfl dL_law_282 ga_82 rfl rfl rfl rfl ⟨rfl, rfl⟩ ?_
  refine c_X9_clear (hm.kept b1) (fun μ2 m2 a2 => ?_)
  exact jr_icmp_eq 695 dL_law_285 rfl (fun _ => hn μ2 _ (c1.kept a2) m2) (fun q => absurd rfl q)
set_option maxRecDepth 100000 in
set_option maxHeartbeats 4000000 in
theorem arm_takes {i : Nat} {μ : Nat → Nat → Int32} {σ : sT} (hi : i + 3 < g.2.2.2.2.1 2) (hL : g.2.2.2.2.1 2 ≤ 2048) (hc : CI μ σ) (hm : MI μ σ) (hn : ∀ (μ' : Nat → Nat → Int32) (σ' : sT), CI μ' σ' → MI μ' σ' → jW g ad κ 695 i [] μ') : jW g ad κ 290 i [] μ := by
  refine jr_aload_n dL_law_290 rfl ?_
  refine jl_arg 1 (by omega) hL (by decide) dL_law_291 dL_law_292 dL_law_293 dL_law_294 dL_law_295 ?_
  refine jl_arg 2 (by omega) hL (by decide) dL_law_296 dL_law_297 dL_law_298 dL_law_299 dL_law_300 ?_
  refine jl_arg 3 (by omega) hL (by decide) dL_law_301 dL_law_302 dL_law_303 dL_law_304 dL_law_305 ?_
  obtain ⟨z1, e1, r1⟩ := ii_ex (g.2.2.2.2.2 2 (i + 1))
  obtain ⟨z2, e2, r2⟩ := ii_ex (g.2.2.2.2.2 2 (i + 2))
  obtain ⟨z3, e3, r3⟩ := ii_ex (g.2.2.2.2.2 2 (i + 3))
  rw [e1, e2, e3]
  refine jl_call [] [.int (ii z1), .int (ii z2), .int (ii z3)] jc_RL_41 rfl dL_law_306 ga_0 rfl rfl rfl rfl ⟨rfl, rfl⟩ ?_
  refine c_X8_takes hc r1 r2 r3 (fun μ1 c1 b1 => ?_)
  refine jr_aload_n dL_law_309 rfl ?_
  refine jl_arg 1 (by omega) hL (by decide) dL_law_310 dL_law_311 dL_law_312 dL_law_313 dL_law_314 ?_
  refine jl_arg 2 (by omega) hL (by decide) dL_law_315 dL_law_316 dL_law_317 dL_law_318 dL_law_319 ?_
  refine jl_arg 3 (by omega) hL (by decide) dL_law_320 dL_law_321 dL_law_322 dL_law_323 dL_law_324 ?_
  rw [e1, e2, e3]
  refine jl_call [.int _] [.int (ii z1), .int (ii z2), .int (ii z3)] jc_RL_44 rfl dL_law_325 ga_82 rfl rfl rfl rfl ⟨rfl, rfl⟩ ?_
  refine c_X9_takes (hm.kept b1) r1 r2 r3 (fun μ2 m2 a2 => ?_)
  exact jr_icmp_eq 695 dL_law_328 rfl (fun _ => hn μ2 _ (c1.kept a2) m2) (fun q => absurd rfl q)
set_option maxRecDepth 100000 in
set_option maxHeartbeats 4000000 in
theorem arm_pulse {i : Nat} {μ : Nat → Nat → Int32} {σ : sT} (hi : i + 3 < g.2.2.2.2.1 2) (hL : g.2.2.2.2.1 2 ≤ 2048) (hc : CI μ σ) (hm : MI μ σ) (hn : ∀ (μ' : Nat → Nat → Int32) (σ' : sT), CI μ' σ' → MI μ' σ' → jW g ad κ 695 i [] μ') : jW g ad κ 333 i [] μ := by
  refine jr_aload_n dL_law_333 rfl ?_
  refine jl_arg 1 (by omega) hL (by decide) dL_law_334 dL_law_335 dL_law_336 dL_law_337 dL_law_338 ?_
  refine jl_arg 2 (by omega) hL (by decide) dL_law_339 dL_law_340 dL_law_341 dL_law_342 dL_law_343 ?_
  obtain ⟨z1, e1, r1⟩ := ii_ex (g.2.2.2.2.2 2 (i + 1))
  obtain ⟨z2, e2, r2⟩ := ii_ex (g.2.2.2.2.2 2 (i + 2))
  rw [e1, e2]
  refine jl_call [] [.int (ii z1), .int (ii z2)] jc_RL_45 rfl dL_law_344 ga_0 rfl rfl rfl rfl ⟨rfl, rfl⟩ ?_
  refine c_X8_pulse hc r1 r2 (fun μ1 c1 b1 => ?_)
  refine jr_aload_n dL_law_347 rfl ?_
  refine jl_arg 1 (by omega) hL (by decide) dL_law_348 dL_law_349 dL_law_350 dL_law_351 dL_law_352 ?_
  refine jl_arg 2 (by omega) hL (by decide) dL_law_353 dL_law_354 dL_law_355 dL_law_356 dL_law_357 ?_
  rw [e1, e2]
  refine jl_call [.int _] [.int (ii z1), .int (ii z2)] jc_RL_48 rfl dL_law_358 ga_82 rfl rfl rfl rfl ⟨rfl, rfl⟩ ?_
  refine c_X9_pulse (hm.kept b1) r1 r2 (fun μ2 m2 a2 => ?_)
  exact jr_icmp_eq 695 dL_law_361 rfl (fun _ => hn μ2 _ (c1.kept a2) m2) (fun q => absurd rfl q)
set_option maxRecDepth 100000 in
set_option maxHeartbeats 4000000 in
theorem arm_shot {i : Nat} {μ : Nat → Nat → Int32} {σ : sT} (hi : i + 3 < g.2.2.2.2.1 2) (hL : g.2.2.2.2.1 2 ≤ 2048) (hc : CI μ σ) (hm : MI μ σ) (hn : ∀ (μ' : Nat → Nat → Int32) (σ' : sT), CI μ' σ' → MI μ' σ' → jW g ad κ 695 i [] μ') : jW g ad κ 366 i [] μ := by
  refine jr_aload_n dL_law_366 rfl ?_
  refine jl_arg 1 (by omega) hL (by decide) dL_law_367 dL_law_368 dL_law_369 dL_law_370 dL_law_371 ?_
  refine jl_arg 2 (by omega) hL (by decide) dL_law_372 dL_law_373 dL_law_374 dL_law_375 dL_law_376 ?_
  obtain ⟨z1, e1, r1⟩ := ii_ex (g.2.2.2.2.2 2 (i + 1))
  obtain ⟨z2, e2, r2⟩ := ii_ex (g.2.2.2.2.2 2 (i + 2))
  rw [e1, e2]
  refine jl_call [] [.int (ii z1), .int (ii z2)] jc_RL_49 rfl dL_law_377 ga_0 rfl rfl rfl rfl ⟨rfl, rfl⟩ ?_
  refine c_X8_shot hc r1 r2 (fun μ1 c1 b1 => ?_)
  refine jr_aload_n dL_law_380 rfl ?_
  refine jl_arg 1 (by omega) hL (by decide) dL_law_381 dL_law_382 dL_law_383 dL_law_384 dL_law_385 ?_
  refine jl_arg 2 (by omega) hL (by decide) dL_law_386 dL_law_387 dL_law_388 dL_law_389 dL_law_390 ?_
  rw [e1, e2]
  refine jl_call [.int _] [.int (ii z1), .int (ii z2)] jc_RL_52 rfl dL_law_391 ga_82 rfl rfl rfl rfl ⟨rfl, rfl⟩ ?_
  refine c_X9_shot (hm.kept b1) r1 r2 (fun μ2 m2 a2 => ?_)
  exact jr_icmp_eq 695 dL_law_394 rfl (fun _ => hn μ2 _ (c1.kept a2) m2) (fun q => absurd rfl q)
set_option maxRecDepth 100000 in
set_option maxHeartbeats 4000000 in
theorem arm_count {i : Nat} {μ : Nat → Nat → Int32} {σ : sT} (hi : i + 3 < g.2.2.2.2.1 2) (hL : g.2.2.2.2.1 2 ≤ 2048) (hc : CI μ σ) (hm : MI μ σ) (hn : ∀ (μ' : Nat → Nat → Int32) (σ' : sT), CI μ' σ' → MI μ' σ' → jW g ad κ 695 i [] μ') : jW g ad κ 399 i [] μ := by
  refine jr_aload_n dL_law_399 rfl ?_
  refine jl_arg 1 (by omega) hL (by decide) dL_law_400 dL_law_401 dL_law_402 dL_law_403 dL_law_404 ?_
  obtain ⟨z1, e1, r1⟩ := ii_ex (g.2.2.2.2.2 2 (i + 1))
  rw [e1]
  refine jl_call [] [.int (ii z1)] jc_RL_53 rfl dL_law_405 ga_0 rfl rfl rfl rfl ⟨rfl, rfl⟩ ?_
  refine c_X8_count hc r1 (fun μ1 c1 b1 => ?_)
  refine jr_aload_n dL_law_408 rfl ?_
  refine jl_arg 1 (by omega) hL (by decide) dL_law_409 dL_law_410 dL_law_411 dL_law_412 dL_law_413 ?_
  rw [e1]
  refine jl_call [.int _] [.int (ii z1)] jc_RL_56 rfl dL_law_414 ga_82 rfl rfl rfl rfl ⟨rfl, rfl⟩ ?_
  refine c_X9_count (hm.kept b1) r1 (fun μ2 m2 a2 => ?_)
  exact jr_icmp_eq 695 dL_law_417 rfl (fun _ => hn μ2 _ (c1.kept a2) m2) (fun q => absurd rfl q)
set_option maxRecDepth 100000 in
set_option maxHeartbeats 4000000 in
theorem arm_fits {i : Nat} {μ : Nat → Nat → Int32} {σ : sT} (hi : i + 3 < g.2.2.2.2.1 2) (hL : g.2.2.2.2.1 2 ≤ 2048) (hc : CI μ σ) (hm : MI μ σ) (hn : ∀ (μ' : Nat → Nat → Int32) (σ' : sT), CI μ' σ' → MI μ' σ' → jW g ad κ 695 i [] μ') : jW g ad κ 422 i [] μ := by
  refine jr_aload_n dL_law_422 rfl ?_
  refine jl_arg 1 (by omega) hL (by decide) dL_law_423 dL_law_424 dL_law_425 dL_law_426 dL_law_427 ?_
  refine jl_arg 2 (by omega) hL (by decide) dL_law_428 dL_law_429 dL_law_430 dL_law_431 dL_law_432 ?_
  refine jl_arg 3 (by omega) hL (by decide) dL_law_433 dL_law_434 dL_law_435 dL_law_436 dL_law_437 ?_
  obtain ⟨z1, e1, r1⟩ := ii_ex (g.2.2.2.2.2 2 (i + 1))
  obtain ⟨z2, e2, r2⟩ := ii_ex (g.2.2.2.2.2 2 (i + 2))
  obtain ⟨z3, e3, r3⟩ := ii_ex (g.2.2.2.2.2 2 (i + 3))
  rw [e1, e2, e3]
  refine jl_call [] [.int (ii z1), .int (ii z2), .int (ii z3)] jc_RL_57 rfl dL_law_438 ga_0 rfl rfl rfl rfl ⟨rfl, rfl⟩ ?_
  refine c_X8_fits hc r1 r2 r3 (fun μ1 c1 b1 => ?_)
  refine jr_aload_n dL_law_441 rfl ?_
  refine jl_arg 1 (by omega) hL (by decide) dL_law_442 dL_law_443 dL_law_444 dL_law_445 dL_law_446 ?_
  refine jl_arg 2 (by omega) hL (by decide) dL_law_447 dL_law_448 dL_law_449 dL_law_450 dL_law_451 ?_
  refine jl_arg 3 (by omega) hL (by decide) dL_law_452 dL_law_453 dL_law_454 dL_law_455 dL_law_456 ?_
  rw [e1, e2, e3]
  refine jl_call [.int _] [.int (ii z1), .int (ii z2), .int (ii z3)] jc_RL_60 rfl dL_law_457 ga_82 rfl rfl rfl rfl ⟨rfl, rfl⟩ ?_
  refine c_X9_fits (hm.kept b1) r1 r2 r3 (fun μ2 m2 a2 => ?_)
  exact jr_icmp_eq 695 dL_law_460 rfl (fun _ => hn μ2 _ (c1.kept a2) m2) (fun q => absurd rfl q)
set_option maxRecDepth 100000 in
set_option maxHeartbeats 4000000 in
theorem arm_mean {i : Nat} {μ : Nat → Nat → Int32} {σ : sT} (hi : i + 3 < g.2.2.2.2.1 2) (hL : g.2.2.2.2.1 2 ≤ 2048) (hc : CI μ σ) (hm : MI μ σ) (hn : ∀ (μ' : Nat → Nat → Int32) (σ' : sT), CI μ' σ' → MI μ' σ' → jW g ad κ 695 i [] μ') : jW g ad κ 465 i [] μ := by
  refine jr_aload_n dL_law_465 rfl ?_
  refine jl_arg 1 (by omega) hL (by decide) dL_law_466 dL_law_467 dL_law_468 dL_law_469 dL_law_470 ?_
  obtain ⟨z1, e1, r1⟩ := ii_ex (g.2.2.2.2.2 2 (i + 1))
  rw [e1]
  refine jl_call [] [.int (ii z1)] jc_RL_61 rfl dL_law_471 ga_0 rfl rfl rfl rfl ⟨rfl, rfl⟩ ?_
  refine c_X8_mean hc r1 (fun μ1 c1 b1 => ?_)
  refine jr_aload_n dL_law_474 rfl ?_
  refine jl_arg 1 (by omega) hL (by decide) dL_law_475 dL_law_476 dL_law_477 dL_law_478 dL_law_479 ?_
  rw [e1]
  refine jl_call [.int _] [.int (ii z1)] jc_RL_64 rfl dL_law_480 ga_82 rfl rfl rfl rfl ⟨rfl, rfl⟩ ?_
  refine c_X9_mean (hm.kept b1) r1 (fun μ2 m2 a2 => ?_)
  exact jr_icmp_eq 695 dL_law_483 rfl (fun _ => hn μ2 _ (c1.kept a2) m2) (fun q => absurd rfl q)
set_option maxRecDepth 100000 in
set_option maxHeartbeats 4000000 in
theorem arm_ifHeat {i : Nat} {μ : Nat → Nat → Int32} {σ : sT} (hg : gOK g) (hi : i + 3 < g.2.2.2.2.1 2) (hL : g.2.2.2.2.1 2 ≤ 2048) (hc : CI μ σ) (hm : MI μ σ) (hn : ∀ (μ' : Nat → Nat → Int32) (σ' : sT), CI μ' σ' → MI μ' σ' → jW g ad κ 695 i [] μ') : jW g ad κ 488 i [] μ := by
  refine jr_aload_n dL_law_488 rfl ?_
  refine jl_arg 1 (by omega) hL (by decide) dL_law_489 dL_law_490 dL_law_491 dL_law_492 dL_law_493 ?_
  refine jl_arg 2 (by omega) hL (by decide) dL_law_494 dL_law_495 dL_law_496 dL_law_497 dL_law_498 ?_
  obtain ⟨z1, e1, r1⟩ := ii_ex (g.2.2.2.2.2 2 (i + 1))
  obtain ⟨z2, e2, r2⟩ := ii_ex (g.2.2.2.2.2 2 (i + 2))
  rw [e1, e2]
  refine jl_call [] [.int (ii z1), .int (ii z2)] jc_RL_65 rfl dL_law_499 ga_0 rfl rfl rfl rfl ⟨rfl, rfl⟩ ?_
  refine c_X8_ifHeat hg hc r1 r2 (fun μ1 c1 b1 => ?_)
  refine jr_aload_n dL_law_502 rfl ?_
  refine jl_arg 1 (by omega) hL (by decide) dL_law_503 dL_law_504 dL_law_505 dL_law_506 dL_law_507 ?_
  refine jl_arg 2 (by omega) hL (by decide) dL_law_508 dL_law_509 dL_law_510 dL_law_511 dL_law_512 ?_
  rw [e1, e2]
  refine jl_call [.int _] [.int (ii z1), .int (ii z2)] jc_RL_68 rfl dL_law_513 ga_82 rfl rfl rfl rfl ⟨rfl, rfl⟩ ?_
  refine c_X9_ifHeat (hm.kept b1) r1 r2 (fun μ2 m2 a2 => ?_)
  exact jr_icmp_eq 695 dL_law_516 rfl (fun _ => hn μ2 _ (c1.kept a2) m2) (fun q => absurd rfl q)
set_option maxRecDepth 100000 in
set_option maxHeartbeats 4000000 in
theorem arm_bestHeat {i : Nat} {μ : Nat → Nat → Int32} {σ : sT} (hg : gOK g) (hi : i + 3 < g.2.2.2.2.1 2) (hL : g.2.2.2.2.1 2 ≤ 2048) (hc : CI μ σ) (hm : MI μ σ) (hn : ∀ (μ' : Nat → Nat → Int32) (σ' : sT), CI μ' σ' → MI μ' σ' → jW g ad κ 695 i [] μ') : jW g ad κ 521 i [] μ := by
  refine jr_aload_n dL_law_521 rfl ?_
  refine jl_call [] [] jc_RL_69 rfl dL_law_522 ga_0 rfl rfl rfl rfl ⟨rfl, rfl⟩ ?_
  refine c_X8_bestHeat hg hc (fun μ1 c1 b1 => ?_)
  refine jr_aload_n dL_law_525 rfl ?_
  refine jl_call [.int _] [] jc_RL_72 rfl dL_law_526 ga_82 rfl rfl rfl rfl ⟨rfl, rfl⟩ ?_
  refine c_X9_bestHeat (hm.kept b1) (fun μ2 m2 a2 => ?_)
  exact jr_icmp_eq 695 dL_law_529 rfl (fun _ => hn μ2 _ (c1.kept a2) m2) (fun q => absurd rfl q)
set_option maxRecDepth 100000 in
set_option maxHeartbeats 4000000 in
theorem arm_ifForgot {i : Nat} {μ : Nat → Nat → Int32} {σ : sT} (hi : i + 3 < g.2.2.2.2.1 2) (hL : g.2.2.2.2.1 2 ≤ 2048) (hc : CI μ σ) (hm : MI μ σ) (hn : ∀ (μ' : Nat → Nat → Int32) (σ' : sT), CI μ' σ' → MI μ' σ' → jW g ad κ 695 i [] μ') : jW g ad κ 534 i [] μ := by
  refine jr_aload_n dL_law_534 rfl ?_
  refine jl_arg 1 (by omega) hL (by decide) dL_law_535 dL_law_536 dL_law_537 dL_law_538 dL_law_539 ?_
  obtain ⟨z1, e1, r1⟩ := ii_ex (g.2.2.2.2.2 2 (i + 1))
  rw [e1]
  refine jl_call [] [.int (ii z1)] jc_RL_73 rfl dL_law_540 ga_0 rfl rfl rfl rfl ⟨rfl, rfl⟩ ?_
  refine c_X8_ifForgot hc r1 (fun μ1 c1 b1 => ?_)
  refine jr_aload_n dL_law_543 rfl ?_
  refine jl_arg 1 (by omega) hL (by decide) dL_law_544 dL_law_545 dL_law_546 dL_law_547 dL_law_548 ?_
  rw [e1]
  refine jl_call [.int _] [.int (ii z1)] jc_RL_76 rfl dL_law_549 ga_82 rfl rfl rfl rfl ⟨rfl, rfl⟩ ?_
  refine c_X9_ifForgot (hm.kept b1) r1 (fun μ2 m2 a2 => ?_)
  exact jr_icmp_eq 695 dL_law_552 rfl (fun _ => hn μ2 _ (c1.kept a2) m2) (fun q => absurd rfl q)
set_option maxRecDepth 100000 in
set_option maxHeartbeats 4000000 in
theorem arm_put {i : Nat} {μ : Nat → Nat → Int32} {σ : sT} (hi : i + 3 < g.2.2.2.2.1 2) (hL : g.2.2.2.2.1 2 ≤ 2048) (hc : CI μ σ) (hm : MI μ σ) (hn : ∀ (μ' : Nat → Nat → Int32) (σ' : sT), CI μ' σ' → MI μ' σ' → jW g ad κ 695 i [] μ') : jW g ad κ 557 i [] μ := by
  refine jr_aload_n dL_law_557 rfl ?_
  refine jl_arg 1 (by omega) hL (by decide) dL_law_558 dL_law_559 dL_law_560 dL_law_561 dL_law_562 ?_
  refine jr_i2l _ dL_law_563 rfl (jr_bipush (32 : Int32) dL_law_564 (by decide) (jr_lshl dL_law_566 ?_))
  refine jl_arg 2 (by omega) hL (by decide) dL_law_567 dL_law_568 dL_law_569 dL_law_570 dL_law_571 ?_
  refine jr_i2l _ dL_law_572 rfl (jr_ldc2 _ dL_law_573 jk_RL_77 (jr_land dL_law_576 (jr_lor dL_law_577 ?_)))
  refine jl_call [] [.long _] jc_RL_79 rfl dL_law_578 ga_0 rfl rfl rfl rfl ⟨rfl, rfl⟩ ?_
  refine c_X8_put hc (fun μ1 c1 b1 => ?_)
  refine jr_aload_n dL_law_581 rfl ?_
  refine jl_arg 1 (by omega) hL (by decide) dL_law_582 dL_law_583 dL_law_584 dL_law_585 dL_law_586 ?_
  refine jr_i2l _ dL_law_587 rfl (jr_bipush (32 : Int32) dL_law_588 (by decide) (jr_lshl dL_law_590 ?_))
  refine jl_arg 2 (by omega) hL (by decide) dL_law_591 dL_law_592 dL_law_593 dL_law_594 dL_law_595 ?_
  refine jr_i2l _ dL_law_596 rfl (jr_ldc2 _ dL_law_597 jk_RL_77 (jr_land dL_law_600 (jr_lor dL_law_601 ?_)))
  refine jl_call [.int _] [.long _] jc_RL_83 rfl dL_law_602 ga_82 rfl rfl rfl rfl ⟨rfl, rfl⟩ ?_
  refine c_X9_put (hm.kept b1) (fun μ2 m2 a2 => ?_)
  exact jr_icmp_eq 695 dL_law_605 rfl (fun _ => hn μ2 _ (c1.kept a2) m2) (fun q => absurd rfl q)
set_option maxRecDepth 100000 in
set_option maxHeartbeats 4000000 in
theorem arm_wipe {i : Nat} {μ : Nat → Nat → Int32} {σ : sT} (hi : i + 3 < g.2.2.2.2.1 2) (hL : g.2.2.2.2.1 2 ≤ 2048) (hc : CI μ σ) (hm : MI μ σ) (hn : ∀ (μ' : Nat → Nat → Int32) (σ' : sT), CI μ' σ' → MI μ' σ' → jW g ad κ 695 i [] μ') : jW g ad κ 610 i [] μ := by
  refine jr_aload_n dL_law_610 rfl ?_
  refine jl_call [] [] jc_RL_84 rfl dL_law_611 ga_0 rfl rfl rfl rfl ⟨rfl, rfl⟩ ?_
  refine c_X8_wipe hc (fun μ1 c1 b1 => ?_)
  refine jr_aload_n dL_law_614 rfl ?_
  refine jl_call [.int _] [] jc_RL_87 rfl dL_law_615 ga_82 rfl rfl rfl rfl ⟨rfl, rfl⟩ ?_
  refine c_X9_wipe (hm.kept b1) (fun μ2 m2 a2 => ?_)
  exact jr_icmp_eq 695 dL_law_618 rfl (fun _ => hn μ2 _ (c1.kept a2) m2) (fun q => absurd rfl q)
set_option maxRecDepth 100000 in
set_option maxHeartbeats 4000000 in
theorem arm_fault {i : Nat} {μ : Nat → Nat → Int32} {σ : sT} (hi : i + 3 < g.2.2.2.2.1 2) (hL : g.2.2.2.2.1 2 ≤ 2048) (hc : CI μ σ) (hm : MI μ σ) (hn : ∀ (μ' : Nat → Nat → Int32) (σ' : sT), CI μ' σ' → MI μ' σ' → jW g ad κ 695 i [] μ') : jW g ad κ 623 i [] μ := by
  refine jr_aload_n dL_law_623 rfl ?_
  refine jl_call [] [] jc_RL_88 rfl dL_law_624 ga_0 rfl rfl rfl rfl ⟨rfl, rfl⟩ ?_
  refine c_X8_fault hc (fun μ1 c1 b1 => ?_)
  refine jr_aload_n dL_law_627 rfl ?_
  refine jl_call [.int _] [] jc_RL_91 rfl dL_law_628 ga_82 rfl rfl rfl rfl ⟨rfl, rfl⟩ ?_
  refine c_X9_fault (hm.kept b1) (fun μ2 m2 a2 => ?_)
  exact jr_icmp_eq 695 dL_law_631 rfl (fun _ => hn μ2 _ (c1.kept a2) m2) (fun q => absurd rfl q)
set_option maxRecDepth 100000 in
set_option maxHeartbeats 4000000 in
theorem arm_undo {i : Nat} {μ : Nat → Nat → Int32} {σ : sT} (hi : i + 3 < g.2.2.2.2.1 2) (hL : g.2.2.2.2.1 2 ≤ 2048) (hc : CI μ σ) (hm : MI μ σ) (hn : ∀ (μ' : Nat → Nat → Int32) (σ' : sT), CI μ' σ' → MI μ' σ' → jW g ad κ 695 i [] μ') : jW g ad κ 636 i [] μ := by
  refine jr_aload_n dL_law_636 rfl ?_
  refine jl_call [] [] jc_RL_92 rfl dL_law_637 ga_0 rfl rfl rfl rfl ⟨rfl, rfl⟩ ?_
  refine c_X8_undo hc (fun μ1 c1 b1 => ?_)
  refine jr_aload_n dL_law_640 rfl ?_
  refine jl_call [.int _] [] jc_RL_95 rfl dL_law_641 ga_82 rfl rfl rfl rfl ⟨rfl, rfl⟩ ?_
  refine c_X9_undo (hm.kept b1) (fun μ2 m2 a2 => ?_)
  exact jr_icmp_eq 695 dL_law_644 rfl (fun _ => hn μ2 _ (c1.kept a2) m2) (fun q => absurd rfl q)
set_option maxRecDepth 100000 in
set_option maxHeartbeats 4000000 in
theorem arm_save {i : Nat} {μ : Nat → Nat → Int32} {σ : sT} (hi : i + 3 < g.2.2.2.2.1 2) (hL : g.2.2.2.2.1 2 ≤ 2048) (hc : CI μ σ) (hm : MI μ σ) (hn : ∀ (μ' : Nat → Nat → Int32) (σ' : sT), CI μ' σ' → MI μ' σ' → jW g ad κ 695 i [] μ') : jW g ad κ 649 i [] μ := by
  refine jr_aload_n dL_law_649 rfl ?_
  refine jl_arg 1 (by omega) hL (by decide) dL_law_650 dL_law_651 dL_law_652 dL_law_653 dL_law_654 ?_
  obtain ⟨z1, e1, r1⟩ := ii_ex (g.2.2.2.2.2 2 (i + 1))
  rw [e1]
  refine jl_call [] [.int (ii z1)] jc_RL_96 rfl dL_law_655 ga_0 rfl rfl rfl rfl ⟨rfl, rfl⟩ ?_
  refine c_X8_save hc r1 (fun μ1 c1 b1 => ?_)
  refine jr_aload_n dL_law_658 rfl ?_
  refine jl_arg 1 (by omega) hL (by decide) dL_law_659 dL_law_660 dL_law_661 dL_law_662 dL_law_663 ?_
  rw [e1]
  refine jl_call [.int _] [.int (ii z1)] jc_RL_99 rfl dL_law_664 ga_82 rfl rfl rfl rfl ⟨rfl, rfl⟩ ?_
  refine c_X9_save (hm.kept b1) r1 (fun μ2 m2 a2 => ?_)
  exact jr_icmp_eq 695 dL_law_667 rfl (fun _ => hn μ2 _ (c1.kept a2) m2) (fun q => absurd rfl q)
set_option maxRecDepth 100000 in
set_option maxHeartbeats 4000000 in
theorem arm_restore {i : Nat} {μ : Nat → Nat → Int32} {σ : sT} (hi : i + 3 < g.2.2.2.2.1 2) (hL : g.2.2.2.2.1 2 ≤ 2048) (hc : CI μ σ) (hm : MI μ σ) (hn : ∀ (μ' : Nat → Nat → Int32) (σ' : sT), CI μ' σ' → MI μ' σ' → jW g ad κ 695 i [] μ') : jW g ad κ 672 i [] μ := by
  refine jr_aload_n dL_law_672 rfl ?_
  refine jl_arg 1 (by omega) hL (by decide) dL_law_673 dL_law_674 dL_law_675 dL_law_676 dL_law_677 ?_
  obtain ⟨z1, e1, r1⟩ := ii_ex (g.2.2.2.2.2 2 (i + 1))
  rw [e1]
  refine jl_call [] [.int (ii z1)] jc_RL_100 rfl dL_law_678 ga_0 rfl rfl rfl rfl ⟨rfl, rfl⟩ ?_
  refine c_X8_restore hc r1 (fun μ1 c1 b1 => ?_)
  refine jr_aload_n dL_law_681 rfl ?_
  refine jl_arg 1 (by omega) hL (by decide) dL_law_682 dL_law_683 dL_law_684 dL_law_685 dL_law_686 ?_
  rw [e1]
  refine jl_call [.int _] [.int (ii z1)] jc_RL_103 rfl dL_law_687 ga_82 rfl rfl rfl rfl ⟨rfl, rfl⟩ ?_
  refine c_X9_restore (hm.kept b1) r1 (fun μ2 m2 a2 => ?_)
  exact jr_icmp_eq 695 dL_law_690 rfl (fun _ => hn μ2 _ (c1.kept a2) m2) (fun q => absurd rfl q)
theorem ii_ofNat (n : Nat) : Int32.ofNat n = ii (n : Int) := by
  show Int32.ofNat n = Int32.ofInt n
  first | rfl | exact (Int32.ofInt_eq_ofNat ..).symm | exact Int32.ofNat_eq_ofInt .. | (apply Int32.toInt_inj.mp; simp [Int32.toInt_ofInt, Int32.toInt_ofNat']) | (apply Int32.toBitVec_inj.mp; rfl)
set_option maxRecDepth 100000 in
set_option maxHeartbeats 4000000 in
/-- the law's loop -/
theorem law_loop (hg : gOK g) (hL : g.2.2.2.2.1 2 ≤ 2048) (hend : ∀ (i : Nat) (μ : Nat → Nat → Int32), jW g ad κ 702 i [.int 1] μ) : ∀ (m i : Nat) (μ : Nat → Nat → Int32) (σ : sT), g.2.2.2.2.1 2 ≤ i + m → i ≤ 2048 → CI μ σ → MI μ σ → jW g ad κ 18 i [] μ := by
  intro m
  have e4 : (4 : Int32) = ii 4 := by decide
  have stop : ∀ (i : Nat) (μ : Nat → Nat → Int32), jW g ad κ 701 i [] μ := fun i μ => jr_iconst (1 : Int32) dL_law_701 (by decide) (hend i μ)
  induction m with
  | zero =>
    intro i μ σ h1 h2 hc hm
    refine jr_iload_n dL_law_18 rfl (jr_aload_r dL_law_19 rfl (jr_rlen (by decide) dL_law_20 (jr_iconst (4 : Int32) dL_law_21 (by decide) (jr_isub dL_law_22 ?_))))
    rw [ii_ofNat, e4, ii_sub]
    refine jr_icmp_gt 701 dL_law_23 rfl (fun _ => stop i μ) (fun q => ?_)
    rw [ii_lt (by omega) (by omega)] at q
    omega
  | succ m ih =>
    intro i μ σ h1 h2 hc hm
    refine jr_iload_n dL_law_18 rfl (jr_aload_r dL_law_19 rfl (jr_rlen (by decide) dL_law_20 (jr_iconst (4 : Int32) dL_law_21 (by decide) (jr_isub dL_law_22 ?_))))
    rw [ii_ofNat, e4, ii_sub]
    refine jr_icmp_gt 701 dL_law_23 rfl (fun _ => stop i μ) (fun q => ?_)
    rw [ii_lt (by omega) (by omega)] at q
    have hi : i + 3 < g.2.2.2.2.1 2 := by omega
    have next : ∀ (μ' : Nat → Nat → Int32) (σ' : sT), CI μ' σ' → MI μ' σ' → jW g ad κ 695 i [] μ' := by
      intro μ' σ' hc' hm'
      have e5 : ii (i : Int) + 4 = ii ((i + 4 : Nat) : Int) := by rw [e4, ii_add]; rfl
      refine jr_iinc (lsL (i + 4)) dL_law_695 rfl e5 rfl rfl rfl (jr_goto 18 dL_law_698 rfl ?_)
      exact ih (i + 4) μ' σ' (by omega) (by omega) hc' hm'
    refine jr_aload_r dL_law_26 rfl (jr_iload_n dL_law_27 rfl (jr_rald (by decide) dL_law_28 (ii_in (by omega) (by omega) (by omega)) (jr_bipush (31 : Int32) dL_law_29 (by decide) (jr_iand dL_law_31 ?_))))
    generalize (g.2.2.2.2.2 2 (ii (i : Int)).toNatClampNeg &&& 31 : Int32) = v
    rcases (show (v.toInt < 0 ∨ 20 < v.toInt) ∨ v.toInt = 0 ∨ v.toInt = 1 ∨ v.toInt = 2 ∨ v.toInt = 3 ∨ v.toInt = 4 ∨ v.toInt = 5 ∨ v.toInt = 6 ∨ v.toInt = 7 ∨ v.toInt = 8 ∨ v.toInt = 9 ∨ v.toInt = 10 ∨ v.toInt = 11 ∨ v.toInt = 12 ∨ v.toInt = 13 ∨ v.toInt = 14 ∨ v.toInt = 15 ∨ v.toInt = 16 ∨ v.toInt = 17 ∨ v.toInt = 18 ∨ v.toInt = 19 ∨ v.toInt = 20 by omega) with h | h | h | h | h | h | h | h | h | h | h | h | h | h | h | h | h | h | h | h | h | h
    · exact jr_tableOut 695 dL_law_32 h rfl (next μ σ hc hm)
    · exact jr_tableIn 0 100 132 dL_law_32 h rfl rfl rfl (arm_set hg hi hL hc hm next)
    · exact jr_tableIn 1 133 165 dL_law_32 h rfl rfl rfl (arm_hear hi hL hc hm next)
    · exact jr_tableIn 2 166 198 dL_law_32 h rfl rfl rfl (arm_fire hi hL hc hm next)
    · exact jr_tableIn 3 209 241 dL_law_32 h rfl rfl rfl (arm_hearAll hi hL hc hm next)
    · exact jr_tableIn 4 222 254 dL_law_32 h rfl rfl rfl (arm_forget hi hL hc hm next)
    · exact jr_tableIn 5 245 277 dL_law_32 h rfl rfl rfl (arm_clear hi hL hc hm next)
    · exact jr_tableIn 6 258 290 dL_law_32 h rfl rfl rfl (arm_takes hi hL hc hm next)
    · exact jr_tableIn 7 301 333 dL_law_32 h rfl rfl rfl (arm_pulse hi hL hc hm next)
    · exact jr_tableIn 8 334 366 dL_law_32 h rfl rfl rfl (arm_shot hi hL hc hm next)
    · exact jr_tableIn 9 367 399 dL_law_32 h rfl rfl rfl (arm_count hi hL hc hm next)
    · exact jr_tableIn 10 390 422 dL_law_32 h rfl rfl rfl (arm_fits hi hL hc hm next)
    · exact jr_tableIn 11 433 465 dL_law_32 h rfl rfl rfl (arm_mean hi hL hc hm next)
    · exact jr_tableIn 12 456 488 dL_law_32 h rfl rfl rfl (arm_ifHeat hg hi hL hc hm next)
    · exact jr_tableIn 13 489 521 dL_law_32 h rfl rfl rfl (arm_bestHeat hg hi hL hc hm next)
    · exact jr_tableIn 14 502 534 dL_law_32 h rfl rfl rfl (arm_ifForgot hi hL hc hm next)
    · exact jr_tableIn 15 525 557 dL_law_32 h rfl rfl rfl (arm_put hi hL hc hm next)
    · exact jr_tableIn 16 578 610 dL_law_32 h rfl rfl rfl (arm_wipe hi hL hc hm next)
    · exact jr_tableIn 17 591 623 dL_law_32 h rfl rfl rfl (arm_fault hi hL hc hm next)
    · exact jr_tableIn 18 604 636 dL_law_32 h rfl rfl rfl (arm_undo hi hL hc hm next)
    · exact jr_tableIn 19 617 649 dL_law_32 h rfl rfl rfl (arm_save hi hL hc hm next)
    · exact jr_tableIn 20 640 672 dL_law_32 h rfl rfl rfl (arm_restore hi hL hc hm next)
end JLW
