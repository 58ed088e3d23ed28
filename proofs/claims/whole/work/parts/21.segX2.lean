section
set_option maxRecDepth 100000 in
set_option maxHeartbeats 4000000 in
theorem sX2_speedAt_0 {g : jm_G} {ad : Nat → Nat} {κ : jm_K} {P : Option Value → (Nat → Nat → Int32) → Prop} (hE : jE g ad m_X2_speedAt P κ) {μ : Nat → Nat → Int32}  (p1 : Int32)
    (h : jD g ad m_J9_floorDiv_7cf53 [.int ((3 : Int32) * p1), .int (5 : Int32)] μ (fun v μ' => jS g ad m_X2_speedAt κ 10 [none] (jm_ps v [.int (331 : Int32)]) μ')) :
    jS g ad m_X2_speedAt κ 0 [some (.int p1)] [] μ := by
  refine jr_sipush (331 : Int32) dX2_speedAt_0 (by decide) ?_
  refine jr_iconst (3 : Int32) dX2_speedAt_3 (by decide) ?_
  refine jr_iload_n dX2_speedAt_4 rfl ?_
  refine jr_imul dX2_speedAt_5 ?_
  refine jr_iconst (5 : Int32) dX2_speedAt_6 (by decide) ?_
  refine js_drop 0 [none] rfl ?_
  refine js_callS (st := [.int (331 : Int32)]) [.int ((3 : Int32) * p1), .int (5 : Int32)] jc_RX2_22 rfl dX2_speedAt_7 rfl rfl rfl (kk := ?_)
  exact h

set_option maxRecDepth 100000 in
set_option maxHeartbeats 4000000 in
theorem sX2_speedAt_10 {g : jm_G} {ad : Nat → Nat} {κ : jm_K} {P : Option Value → (Nat → Nat → Int32) → Prop} (hE : jE g ad m_X2_speedAt P κ) {μ : Nat → Nat → Int32}  (r : Int32) (y1 : Int32)
    (h : P (some (.int (y1 + r))) μ) :
    jS g ad m_X2_speedAt κ 10 [none] [.int r, .int y1] μ := by
  refine jr_iadd dX2_speedAt_10 ?_
  exact js_iret hE rfl dX2_speedAt_11 rfl h

set_option maxRecDepth 100000 in
set_option maxHeartbeats 4000000 in
theorem sX2_tune_0 {g : jm_G} {ad : Nat → Nat} {κ : jm_K} {P : Option Value → (Nat → Nat → Int32) → Prop} (hE : jE g ad m_X2_tune P κ) {μ : Nat → Nat → Int32}  (p1 : Int32)
    (h : jD g ad m_X2_speedAt [.int p1] μ (fun v μ' => jS g ad m_X2_tune κ 4 [some (.ref 29), none, none, none] (jm_ps v []) μ')) :
    jS g ad m_X2_tune κ 0 [some (.ref 29), some (.int p1), none, none] [] μ := by
  refine jr_iload_n dX2_tune_0 rfl ?_
  refine js_drop 1 [some (.ref 29), none, none, none] rfl ?_
  refine js_callS (st := []) [.int p1] jc_RX2_28 rfl dX2_tune_1 rfl rfl rfl (kk := ?_)
  exact h

set_option maxRecDepth 100000 in
set_option maxHeartbeats 4000000 in
theorem sX2_tune_4 {g : jm_G} {ad : Nat → Nat} {κ : jm_K} {P : Option Value → (Nat → Nat → Int32) → Prop} (hE : jE g ad m_X2_tune P κ) {μ : Nat → Nat → Int32}  (r : Int32)
    (h : ((r = (μ 29 2) →
    P none μ) ∧
    (¬ r = (μ 29 2) →
    ((0 < r →
    (∀ μ1 : Nat → Nat → Int32, μ1 = jm_st μ 29 2 r →
    jS g ad m_X2_tune κ 25 [some (.ref 29), none, some (.int r), some (.int (0 : Int32))] [] μ1)) ∧
    (¬ 0 < r →
    P none μ))))) :
    jS g ad m_X2_tune κ 4 [some (.ref 29), none, none, none] [.int r] μ := by
  refine jr_istore_n [some (.ref 29), none, some (.int r), none] dX2_tune_4 rfl rfl rfl ?_
  refine jr_iload_n dX2_tune_5 rfl ?_
  refine jr_aload_n dX2_tune_6 rfl ?_
  refine jr_get 2 2 jf_RX2_31 dX2_tune_7 ga_29 rfl (.int (μ 29 2)) rfl ?_
  obtain ⟨hA, hB⟩ := h
  refine jr_icmp_eq 17 dX2_tune_10 rfl (fun c => ?_) (fun c => ?_)
  · have h := hA c
    exact js_vret hE rfl dX2_tune_17 rfl h
  · have h := hB c
    refine jr_iload_n dX2_tune_13 rfl ?_
    obtain ⟨hA, hB⟩ := h
    refine jr_if_gt 18 dX2_tune_14 rfl (fun c => ?_) (fun c => ?_)
    · have h := hA c
      refine jr_aload_n dX2_tune_18 rfl ?_
      refine jr_iload_n dX2_tune_19 rfl ?_
      refine jr_putI 2 2 jf_RX2_31 dX2_tune_20 ga_29 rfl ?_
      obtain ⟨μ1, e1⟩ : ∃ x : Nat → Nat → Int32, x = jm_st μ 29 2 r := ⟨_, rfl⟩
      have h := h μ1 e1
      refine js_mem e1 ?_
      refine jr_iconst (0 : Int32) dX2_tune_23 (by decide) ?_
      refine jr_istore_n [some (.ref 29), none, some (.int r), some (.int (0 : Int32))] dX2_tune_24 rfl rfl rfl ?_
      exact h
    · have h := hB c
      exact js_vret hE rfl dX2_tune_17 rfl h

set_option maxRecDepth 100000 in
set_option maxHeartbeats 4000000 in
theorem sX2_tune_25 {g : jm_G} {ad : Nat → Nat} {κ : jm_K} {P : Option Value → (Nat → Nat → Int32) → Prop} (hE : jE g ad m_X2_tune P κ) {μ : Nat → Nat → Int32}  (x2 : Int32) (x3 : Int32)
    (h : (((1681 : Int32) ≤ x3 →
    P none μ) ∧
    (¬ (1681 : Int32) ≤ x3 →
    vp_in x3 1681 ∧
    x2 ≠ 0 ∧
    vp_in x3 1681 ∧
    (∀ μ4 : Nat → Nat → Int32, μ4 = jm_st μ 31 x3.toNatClampNeg (((100 : Int32) * (μ 30 x3.toNatClampNeg)) / x2) →
    jS g ad m_X2_tune κ 25 [some (.ref 29), none, some (.int x2), some (.int (x3 + 1))] [] μ4)))) :
    jS g ad m_X2_tune κ 25 [some (.ref 29), none, some (.int x2), some (.int x3)] [] μ := by
  refine jr_iload_n dX2_tune_25 rfl ?_
  refine jr_aload_n dX2_tune_26 rfl ?_
  refine jr_get 2 1 jf_RX2_15 dX2_tune_27 ga_29 rfl (.ref 31) rfl ?_
  refine jr_alen dX2_tune_30 ga_31 (by decide) (1681 : Int32) (by decide) ?_
  obtain ⟨hA, hB⟩ := h
  refine jr_icmp_ge 57 dX2_tune_31 rfl (fun c => ?_) (fun c => ?_)
  · have h := hA c
    exact js_vret hE rfl dX2_tune_57 rfl h
  · have h := hB c
    refine jr_aload_n dX2_tune_34 rfl ?_
    refine jr_get 2 1 jf_RX2_15 dX2_tune_35 ga_29 rfl (.ref 31) rfl ?_
    refine jr_iload_n dX2_tune_38 rfl ?_
    refine jr_bipush (100 : Int32) dX2_tune_39 (by decide) ?_
    refine jr_aload_n dX2_tune_41 rfl ?_
    refine jr_get 2 0 jf_RX2_11 dX2_tune_42 ga_29 rfl (.ref 30) rfl ?_
    refine jr_iload_n dX2_tune_45 rfl ?_
    obtain ⟨o1, h⟩ := h
    refine jr_ialdn _ dX2_tune_46 ga_30 o1 rfl ?_
    refine jr_imul dX2_tune_47 ?_
    refine jr_iload_n dX2_tune_48 rfl ?_
    obtain ⟨o2, h⟩ := h
    refine jr_idiv dX2_tune_49 o2 ?_
    obtain ⟨o3, h⟩ := h
    refine jr_iastn _ dX2_tune_50 ga_31 o3 rfl ?_
    obtain ⟨μ4, e4⟩ : ∃ x : Nat → Nat → Int32, x = jm_st μ 31 x3.toNatClampNeg (((100 : Int32) * (μ 30 x3.toNatClampNeg)) / x2) := ⟨_, rfl⟩
    have h := h μ4 e4
    refine js_mem e4 ?_
    refine jr_iinc [some (.ref 29), none, some (.int x2), some (.int (x3 + 1))] dX2_tune_51 rfl rfl rfl rfl rfl ?_
    refine jr_goto 25 dX2_tune_54 rfl ?_
    exact h

set_option maxRecDepth 100000 in
set_option maxHeartbeats 4000000 in
theorem sX2_distance_0 {g : jm_G} {ad : Nat → Nat} {κ : jm_K} {P : Option Value → (Nat → Nat → Int32) → Prop} (hE : jE g ad m_X2_distance P κ) {μ : Nat → Nat → Int32}  (p1 : Int32) (p2 : Int32) (p3 : Int32) (p4 : Int32)
    (h : vp_in (((if 0 ≤ (p2 - p4) then (p2 - p4) else 0 - (p2 - p4)) * (41 : Int32)) + (if 0 ≤ (p1 - p3) then (p1 - p3) else 0 - (p1 - p3))) 1681 ∧
    P (some (.int (μ 30 (((if 0 ≤ (p2 - p4) then (p2 - p4) else 0 - (p2 - p4)) * (41 : Int32)) + (if 0 ≤ (p1 - p3) then (p1 - p3) else 0 - (p1 - p3))).toNatClampNeg))) μ) :
    jS g ad m_X2_distance κ 0 [some (.ref 29), some (.int p1), some (.int p2), some (.int p3), some (.int p4)] [] μ := by
  refine jr_aload_n dX2_distance_0 rfl ?_
  refine jr_get 2 0 jf_RX2_11 dX2_distance_1 ga_29 rfl (.ref 30) rfl ?_
  refine jr_iload_n dX2_distance_4 rfl ?_
  refine jr_iload dX2_distance_5 rfl ?_
  refine jr_isub dX2_distance_7 ?_
  refine jr_abs jc_RX2_35 dX2_distance_8 rfl rfl rfl ?_
  refine jr_bipush (41 : Int32) dX2_distance_11 (by decide) ?_
  refine jr_imul dX2_distance_13 ?_
  refine jr_iload_n dX2_distance_14 rfl ?_
  refine jr_iload_n dX2_distance_15 rfl ?_
  refine jr_isub dX2_distance_16 ?_
  refine jr_abs jc_RX2_35 dX2_distance_17 rfl rfl rfl ?_
  refine jr_iadd dX2_distance_20 ?_
  obtain ⟨o1, h⟩ := h
  refine jr_ialdn _ dX2_distance_21 ga_30 o1 rfl ?_
  exact js_iret hE rfl dX2_distance_22 rfl h

set_option maxRecDepth 100000 in
set_option maxHeartbeats 4000000 in
theorem sX2_crackTime_0 {g : jm_G} {ad : Nat → Nat} {κ : jm_K} {P : Option Value → (Nat → Nat → Int32) → Prop} (hE : jE g ad m_X2_crackTime P κ) {μ : Nat → Nat → Int32}  (p1 : Int32) (p2 : Int32) (p3 : Int32)
    (h : ((p3 = (1 : Int32) →
    ((p3 < (2 : Int32) →
    vp_in ((p2 * (41 : Int32)) + ((40 : Int32) - p1)) 1681 ∧
    P (some (.int (μ 31 ((p2 * (41 : Int32)) + ((40 : Int32) - p1)).toNatClampNeg))) μ) ∧
    (¬ p3 < (2 : Int32) →
    vp_in ((((40 : Int32) - p2) * (41 : Int32)) + ((40 : Int32) - p1)) 1681 ∧
    P (some (.int (μ 31 ((((40 : Int32) - p2) * (41 : Int32)) + ((40 : Int32) - p1)).toNatClampNeg))) μ))) ∧
    (¬ p3 = (1 : Int32) →
    ((¬ p3 = (2 : Int32) →
    ((p3 < (2 : Int32) →
    vp_in ((p2 * (41 : Int32)) + p1) 1681 ∧
    P (some (.int (μ 31 ((p2 * (41 : Int32)) + p1).toNatClampNeg))) μ) ∧
    (¬ p3 < (2 : Int32) →
    vp_in ((((40 : Int32) - p2) * (41 : Int32)) + p1) 1681 ∧
    P (some (.int (μ 31 ((((40 : Int32) - p2) * (41 : Int32)) + p1).toNatClampNeg))) μ))) ∧
    (p3 = (2 : Int32) →
    ((p3 < (2 : Int32) →
    vp_in ((p2 * (41 : Int32)) + ((40 : Int32) - p1)) 1681 ∧
    P (some (.int (μ 31 ((p2 * (41 : Int32)) + ((40 : Int32) - p1)).toNatClampNeg))) μ) ∧
    (¬ p3 < (2 : Int32) →
    vp_in ((((40 : Int32) - p2) * (41 : Int32)) + ((40 : Int32) - p1)) 1681 ∧
    P (some (.int (μ 31 ((((40 : Int32) - p2) * (41 : Int32)) + ((40 : Int32) - p1)).toNatClampNeg))) μ))))))) :
    jS g ad m_X2_crackTime κ 0 [some (.ref 29), some (.int p1), some (.int p2), some (.int p3), none, none] [] μ := by
  refine jr_iload_n dX2_crackTime_0 rfl ?_
  refine jr_iconst (1 : Int32) dX2_crackTime_1 (by decide) ?_
  obtain ⟨hA, hB⟩ := h
  refine jr_icmp_eq 10 dX2_crackTime_2 rfl (fun c => ?_) (fun c => ?_)
  · have h := hA c
    refine jr_bipush (40 : Int32) dX2_crackTime_10 (by decide) ?_
    refine jr_iload_n dX2_crackTime_12 rfl ?_
    refine jr_isub dX2_crackTime_13 ?_
    refine jr_goto 18 dX2_crackTime_14 rfl ?_
    refine jr_istore [some (.ref 29), some (.int p1), some (.int p2), some (.int p3), some (.int ((40 : Int32) - p1)), none] dX2_crackTime_18 rfl rfl rfl ?_
    refine jr_iload_n dX2_crackTime_20 rfl ?_
    refine jr_iconst (2 : Int32) dX2_crackTime_21 (by decide) ?_
    obtain ⟨hA, hB⟩ := h
    refine jr_icmp_lt 32 dX2_crackTime_22 rfl (fun c => ?_) (fun c => ?_)
    · have h := hA c
      refine jr_iload_n dX2_crackTime_32 rfl ?_
      refine jr_istore [some (.ref 29), some (.int p1), some (.int p2), some (.int p3), some (.int ((40 : Int32) - p1)), some (.int p2)] dX2_crackTime_33 rfl rfl rfl ?_
      refine jr_aload_n dX2_crackTime_35 rfl ?_
      refine jr_get 2 1 jf_RX2_15 dX2_crackTime_36 ga_29 rfl (.ref 31) rfl ?_
      refine jr_iload dX2_crackTime_39 rfl ?_
      refine jr_bipush (41 : Int32) dX2_crackTime_41 (by decide) ?_
      refine jr_imul dX2_crackTime_43 ?_
      refine jr_iload dX2_crackTime_44 rfl ?_
      refine jr_iadd dX2_crackTime_46 ?_
      obtain ⟨o1, h⟩ := h
      refine jr_ialdn _ dX2_crackTime_47 ga_31 o1 rfl ?_
      exact js_iret hE rfl dX2_crackTime_48 rfl h
    · have h := hB c
      refine jr_bipush (40 : Int32) dX2_crackTime_25 (by decide) ?_
      refine jr_iload_n dX2_crackTime_27 rfl ?_
      refine jr_isub dX2_crackTime_28 ?_
      refine jr_goto 33 dX2_crackTime_29 rfl ?_
      refine jr_istore [some (.ref 29), some (.int p1), some (.int p2), some (.int p3), some (.int ((40 : Int32) - p1)), some (.int ((40 : Int32) - p2))] dX2_crackTime_33 rfl rfl rfl ?_
      refine jr_aload_n dX2_crackTime_35 rfl ?_
      refine jr_get 2 1 jf_RX2_15 dX2_crackTime_36 ga_29 rfl (.ref 31) rfl ?_
      refine jr_iload dX2_crackTime_39 rfl ?_
      refine jr_bipush (41 : Int32) dX2_crackTime_41 (by decide) ?_
      refine jr_imul dX2_crackTime_43 ?_
      refine jr_iload dX2_crackTime_44 rfl ?_
      refine jr_iadd dX2_crackTime_46 ?_
      obtain ⟨o2, h⟩ := h
      refine jr_ialdn _ dX2_crackTime_47 ga_31 o2 rfl ?_
      exact js_iret hE rfl dX2_crackTime_48 rfl h
  · have h := hB c
    refine jr_iload_n dX2_crackTime_5 rfl ?_
    refine jr_iconst (2 : Int32) dX2_crackTime_6 (by decide) ?_
    obtain ⟨hA, hB⟩ := h
    refine jr_icmp_ne 17 dX2_crackTime_7 rfl (fun c => ?_) (fun c => ?_)
    · have h := hA c
      refine jr_iload_n dX2_crackTime_17 rfl ?_
      refine jr_istore [some (.ref 29), some (.int p1), some (.int p2), some (.int p3), some (.int p1), none] dX2_crackTime_18 rfl rfl rfl ?_
      refine jr_iload_n dX2_crackTime_20 rfl ?_
      refine jr_iconst (2 : Int32) dX2_crackTime_21 (by decide) ?_
      obtain ⟨hA, hB⟩ := h
      refine jr_icmp_lt 32 dX2_crackTime_22 rfl (fun c => ?_) (fun c => ?_)
      · have h := hA c
        refine jr_iload_n dX2_crackTime_32 rfl ?_
        refine jr_istore [some (.ref 29), some (.int p1), some (.int p2), some (.int p3), some (.int p1), some (.int p2)] dX2_crackTime_33 rfl rfl rfl ?_
        refine jr_aload_n dX2_crackTime_35 rfl ?_
        refine jr_get 2 1 jf_RX2_15 dX2_crackTime_36 ga_29 rfl (.ref 31) rfl ?_
        refine jr_iload dX2_crackTime_39 rfl ?_
        refine jr_bipush (41 : Int32) dX2_crackTime_41 (by decide) ?_
        refine jr_imul dX2_crackTime_43 ?_
        refine jr_iload dX2_crackTime_44 rfl ?_
        refine jr_iadd dX2_crackTime_46 ?_
        obtain ⟨o3, h⟩ := h
        refine jr_ialdn _ dX2_crackTime_47 ga_31 o3 rfl ?_
        exact js_iret hE rfl dX2_crackTime_48 rfl h
      · have h := hB c
        refine jr_bipush (40 : Int32) dX2_crackTime_25 (by decide) ?_
        refine jr_iload_n dX2_crackTime_27 rfl ?_
        refine jr_isub dX2_crackTime_28 ?_
        refine jr_goto 33 dX2_crackTime_29 rfl ?_
        refine jr_istore [some (.ref 29), some (.int p1), some (.int p2), some (.int p3), some (.int p1), some (.int ((40 : Int32) - p2))] dX2_crackTime_33 rfl rfl rfl ?_
        refine jr_aload_n dX2_crackTime_35 rfl ?_
        refine jr_get 2 1 jf_RX2_15 dX2_crackTime_36 ga_29 rfl (.ref 31) rfl ?_
        refine jr_iload dX2_crackTime_39 rfl ?_
        refine jr_bipush (41 : Int32) dX2_crackTime_41 (by decide) ?_
        refine jr_imul dX2_crackTime_43 ?_
        refine jr_iload dX2_crackTime_44 rfl ?_
        refine jr_iadd dX2_crackTime_46 ?_
        obtain ⟨o4, h⟩ := h
        refine jr_ialdn _ dX2_crackTime_47 ga_31 o4 rfl ?_
        exact js_iret hE rfl dX2_crackTime_48 rfl h
    · have h := hB c
      refine jr_bipush (40 : Int32) dX2_crackTime_10 (by decide) ?_
      refine jr_iload_n dX2_crackTime_12 rfl ?_
      refine jr_isub dX2_crackTime_13 ?_
      refine jr_goto 18 dX2_crackTime_14 rfl ?_
      refine jr_istore [some (.ref 29), some (.int p1), some (.int p2), some (.int p3), some (.int ((40 : Int32) - p1)), none] dX2_crackTime_18 rfl rfl rfl ?_
      refine jr_iload_n dX2_crackTime_20 rfl ?_
      refine jr_iconst (2 : Int32) dX2_crackTime_21 (by decide) ?_
      obtain ⟨hA, hB⟩ := h
      refine jr_icmp_lt 32 dX2_crackTime_22 rfl (fun c => ?_) (fun c => ?_)
      · have h := hA c
        refine jr_iload_n dX2_crackTime_32 rfl ?_
        refine jr_istore [some (.ref 29), some (.int p1), some (.int p2), some (.int p3), some (.int ((40 : Int32) - p1)), some (.int p2)] dX2_crackTime_33 rfl rfl rfl ?_
        refine jr_aload_n dX2_crackTime_35 rfl ?_
        refine jr_get 2 1 jf_RX2_15 dX2_crackTime_36 ga_29 rfl (.ref 31) rfl ?_
        refine jr_iload dX2_crackTime_39 rfl ?_
        refine jr_bipush (41 : Int32) dX2_crackTime_41 (by decide) ?_
        refine jr_imul dX2_crackTime_43 ?_
        refine jr_iload dX2_crackTime_44 rfl ?_
        refine jr_iadd dX2_crackTime_46 ?_
        obtain ⟨o5, h⟩ := h
        refine jr_ialdn _ dX2_crackTime_47 ga_31 o5 rfl ?_
        exact js_iret hE rfl dX2_crackTime_48 rfl h
      · have h := hB c
        refine jr_bipush (40 : Int32) dX2_crackTime_25 (by decide) ?_
        refine jr_iload_n dX2_crackTime_27 rfl ?_
        refine jr_isub dX2_crackTime_28 ?_
        refine jr_goto 33 dX2_crackTime_29 rfl ?_
        refine jr_istore [some (.ref 29), some (.int p1), some (.int p2), some (.int p3), some (.int ((40 : Int32) - p1)), some (.int ((40 : Int32) - p2))] dX2_crackTime_33 rfl rfl rfl ?_
        refine jr_aload_n dX2_crackTime_35 rfl ?_
        refine jr_get 2 1 jf_RX2_15 dX2_crackTime_36 ga_29 rfl (.ref 31) rfl ?_
        refine jr_iload dX2_crackTime_39 rfl ?_
        refine jr_bipush (41 : Int32) dX2_crackTime_41 (by decide) ?_
        refine jr_imul dX2_crackTime_43 ?_
        refine jr_iload dX2_crackTime_44 rfl ?_
        refine jr_iadd dX2_crackTime_46 ?_
        obtain ⟨o6, h⟩ := h
        refine jr_ialdn _ dX2_crackTime_47 ga_31 o6 rfl ?_
        exact js_iret hE rfl dX2_crackTime_48 rfl h

set_option maxRecDepth 100000 in
set_option maxHeartbeats 4000000 in
theorem sX2_lag_0 {g : jm_G} {ad : Nat → Nat} {κ : jm_K} {P : Option Value → (Nat → Nat → Int32) → Prop} (hE : jE g ad m_X2_lag P κ) {μ : Nat → Nat → Int32}  (p1 : Int32) (p2 : Int32)
    (h : vp_in ((p2 * (41 : Int32)) + p1) 1681 ∧
    vp_in (((1681 : Int32) - (1 : Int32)) - ((p2 * (41 : Int32)) + p1)) 1681 ∧
    P (some (.int ((μ 31 ((p2 * (41 : Int32)) + p1).toNatClampNeg) - (μ 31 (((1681 : Int32) - (1 : Int32)) - ((p2 * (41 : Int32)) + p1)).toNatClampNeg)))) μ) :
    jS g ad m_X2_lag κ 0 [some (.ref 29), some (.int p1), some (.int p2), none] [] μ := by
  refine jr_iload_n dX2_lag_0 rfl ?_
  refine jr_bipush (41 : Int32) dX2_lag_1 (by decide) ?_
  refine jr_imul dX2_lag_3 ?_
  refine jr_iload_n dX2_lag_4 rfl ?_
  refine jr_iadd dX2_lag_5 ?_
  refine jr_istore_n [some (.ref 29), some (.int p1), some (.int p2), some (.int ((p2 * (41 : Int32)) + p1))] dX2_lag_6 rfl rfl rfl ?_
  refine jr_aload_n dX2_lag_7 rfl ?_
  refine jr_get 2 1 jf_RX2_15 dX2_lag_8 ga_29 rfl (.ref 31) rfl ?_
  refine jr_iload_n dX2_lag_11 rfl ?_
  obtain ⟨o1, h⟩ := h
  refine jr_ialdn _ dX2_lag_12 ga_31 o1 rfl ?_
  refine jr_aload_n dX2_lag_13 rfl ?_
  refine jr_get 2 1 jf_RX2_15 dX2_lag_14 ga_29 rfl (.ref 31) rfl ?_
  refine jr_aload_n dX2_lag_17 rfl ?_
  refine jr_get 2 1 jf_RX2_15 dX2_lag_18 ga_29 rfl (.ref 31) rfl ?_
  refine jr_alen dX2_lag_21 ga_31 (by decide) (1681 : Int32) (by decide) ?_
  refine jr_iconst (1 : Int32) dX2_lag_22 (by decide) ?_
  refine jr_isub dX2_lag_23 ?_
  refine jr_iload_n dX2_lag_24 rfl ?_
  refine jr_isub dX2_lag_25 ?_
  obtain ⟨o2, h⟩ := h
  refine jr_ialdn _ dX2_lag_26 ga_31 o2 rfl ?_
  refine jr_isub dX2_lag_27 ?_
  exact js_iret hE rfl dX2_lag_28 rfl h

set_option maxRecDepth 100000 in
set_option maxHeartbeats 4000000 in
theorem sX2_rootOf_0 {g : jm_G} {ad : Nat → Nat} {κ : jm_K} {P : Option Value → (Nat → Nat → Int32) → Prop} (hE : jE g ad m_X2_rootOf P κ) {μ : Nat → Nat → Int32}  (p1 : Int32)
    (h : jS g ad m_X2_rootOf κ 6 [some (.int p1), some (.int (0 : Int32)), some (.int (4096 : Int32))] [] μ) :
    jS g ad m_X2_rootOf κ 0 [some (.int p1), none, none] [] μ := by
  refine jr_iconst (0 : Int32) dX2_rootOf_0 (by decide) ?_
  refine jr_istore_n [some (.int p1), some (.int (0 : Int32)), none] dX2_rootOf_1 rfl rfl rfl ?_
  refine jr_sipush (4096 : Int32) dX2_rootOf_2 (by decide) ?_
  refine jr_istore_n [some (.int p1), some (.int (0 : Int32)), some (.int (4096 : Int32))] dX2_rootOf_5 rfl rfl rfl ?_
  exact h

set_option maxRecDepth 100000 in
set_option maxHeartbeats 4000000 in
theorem sX2_rootOf_6 {g : jm_G} {ad : Nat → Nat} {κ : jm_K} {P : Option Value → (Nat → Nat → Int32) → Prop} (hE : jE g ad m_X2_rootOf P κ) {μ : Nat → Nat → Int32}  (x0 : Int32) (x1 : Int32) (x2 : Int32)
    (h : ((x2 ≤ 0 →
    P (some (.int x1)) μ) ∧
    (¬ x2 ≤ 0 →
    ((x0 < ((x1 + x2) * (x1 + x2)) →
    jS g ad m_X2_rootOf κ 6 [some (.int x0), some (.int x1), some (.int (x2 / (2 : Int32)))] [] μ) ∧
    (¬ x0 < ((x1 + x2) * (x1 + x2)) →
    jS g ad m_X2_rootOf κ 6 [some (.int x0), some (.int (x1 + x2)), some (.int (x2 / (2 : Int32)))] [] μ))))) :
    jS g ad m_X2_rootOf κ 6 [some (.int x0), some (.int x1), some (.int x2)] [] μ := by
  refine jr_iload_n dX2_rootOf_6 rfl ?_
  obtain ⟨hA, hB⟩ := h
  refine jr_if_le 32 dX2_rootOf_7 rfl (fun c => ?_) (fun c => ?_)
  · have h := hA c
    refine jr_iload_n dX2_rootOf_32 rfl ?_
    exact js_iret hE rfl dX2_rootOf_33 rfl h
  · have h := hB c
    refine jr_iload_n dX2_rootOf_10 rfl ?_
    refine jr_iload_n dX2_rootOf_11 rfl ?_
    refine jr_iadd dX2_rootOf_12 ?_
    refine jr_iload_n dX2_rootOf_13 rfl ?_
    refine jr_iload_n dX2_rootOf_14 rfl ?_
    refine jr_iadd dX2_rootOf_15 ?_
    refine jr_imul dX2_rootOf_16 ?_
    refine jr_iload_n dX2_rootOf_17 rfl ?_
    obtain ⟨hA, hB⟩ := h
    refine jr_icmp_gt 25 dX2_rootOf_18 rfl (fun c => ?_) (fun c => ?_)
    · have h := hA c
      refine jr_iload_n dX2_rootOf_25 rfl ?_
      refine jr_iconst (2 : Int32) dX2_rootOf_26 (by decide) ?_
      refine jr_idiv dX2_rootOf_27 (by decide) ?_
      refine jr_istore_n [some (.int x0), some (.int x1), some (.int (x2 / (2 : Int32)))] dX2_rootOf_28 rfl rfl rfl ?_
      refine jr_goto 6 dX2_rootOf_29 rfl ?_
      exact h
    · have h := hB c
      refine jr_iload_n dX2_rootOf_21 rfl ?_
      refine jr_iload_n dX2_rootOf_22 rfl ?_
      refine jr_iadd dX2_rootOf_23 ?_
      refine jr_istore_n [some (.int x0), some (.int (x1 + x2)), some (.int x2)] dX2_rootOf_24 rfl rfl rfl ?_
      refine jr_iload_n dX2_rootOf_25 rfl ?_
      refine jr_iconst (2 : Int32) dX2_rootOf_26 (by decide) ?_
      refine jr_idiv dX2_rootOf_27 (by decide) ?_
      refine jr_istore_n [some (.int x0), some (.int (x1 + x2)), some (.int (x2 / (2 : Int32)))] dX2_rootOf_28 rfl rfl rfl ?_
      refine jr_goto 6 dX2_rootOf_29 rfl ?_
      exact h

set_option maxRecDepth 100000 in
set_option maxHeartbeats 4000000 in
theorem sJ9_floorDiv_7cf53_0 {g : jm_G} {ad : Nat → Nat} {κ : jm_K} {P : Option Value → (Nat → Nat → Int32) → Prop} (hE : jE g ad m_J9_floorDiv_7cf53 P κ) {μ : Nat → Nat → Int32}  (p1 : Int32) (p2 : Int32)
    (h : p2 ≠ 0 ∧
    ((0 ≤ (p1 ^^^ p2) →
    P (some (.int (p1 / p2))) μ) ∧
    (¬ 0 ≤ (p1 ^^^ p2) →
    ((((p1 / p2) * p2) = p1 →
    P (some (.int (p1 / p2))) μ) ∧
    (¬ ((p1 / p2) * p2) = p1 →
    P (some (.int ((p1 / p2) - (1 : Int32)))) μ))))) :
    jS g ad m_J9_floorDiv_7cf53 κ 0 [some (.int p1), some (.int p2), none] [] μ := by
  refine jr_iload_n dJ9_floorDiv_7cf53_0 rfl ?_
  refine jr_iload_n dJ9_floorDiv_7cf53_1 rfl ?_
  obtain ⟨o1, h⟩ := h
  refine jr_idiv dJ9_floorDiv_7cf53_2 o1 ?_
  refine jr_istore_n [some (.int p1), some (.int p2), some (.int (p1 / p2))] dJ9_floorDiv_7cf53_3 rfl rfl rfl ?_
  refine jr_iload_n dJ9_floorDiv_7cf53_4 rfl ?_
  refine jr_iload_n dJ9_floorDiv_7cf53_5 rfl ?_
  refine jr_ixor dJ9_floorDiv_7cf53_6 ?_
  obtain ⟨hA, hB⟩ := h
  refine jr_if_ge 21 dJ9_floorDiv_7cf53_7 rfl (fun c => ?_) (fun c => ?_)
  · have h := hA c
    refine jr_iload_n dJ9_floorDiv_7cf53_21 rfl ?_
    exact js_iret hE rfl dJ9_floorDiv_7cf53_22 rfl h
  · have h := hB c
    refine jr_iload_n dJ9_floorDiv_7cf53_10 rfl ?_
    refine jr_iload_n dJ9_floorDiv_7cf53_11 rfl ?_
    refine jr_imul dJ9_floorDiv_7cf53_12 ?_
    refine jr_iload_n dJ9_floorDiv_7cf53_13 rfl ?_
    obtain ⟨hA, hB⟩ := h
    refine jr_icmp_eq 21 dJ9_floorDiv_7cf53_14 rfl (fun c => ?_) (fun c => ?_)
    · have h := hA c
      refine jr_iload_n dJ9_floorDiv_7cf53_21 rfl ?_
      exact js_iret hE rfl dJ9_floorDiv_7cf53_22 rfl h
    · have h := hB c
      refine jr_iload_n dJ9_floorDiv_7cf53_17 rfl ?_
      refine jr_iconst (1 : Int32) dJ9_floorDiv_7cf53_18 (by decide) ?_
      refine jr_isub dJ9_floorDiv_7cf53_19 ?_
      exact js_iret hE rfl dJ9_floorDiv_7cf53_20 rfl h

end
