section
set_option maxRecDepth 100000 in
set_option maxHeartbeats 4000000 in
theorem sX0_find_0 {g : jm_G} {ad : Nat → Nat} {κ : jm_K} {P : Option Value → (Nat → Nat → Int32) → Prop} (hE : jE g ad m_X0_find P κ) {μ : Nat → Nat → Int32} (q : Nat) (hq : jm_Heard q) (u : Nat) (hu : jm_Shots u) (p3 : Int32)
    (h : jD g ad m_X7_reset [.ref u] μ (fun v μ' => jS g ad m_X0_find κ 5 [some (.ref 32), some (.ref 29), some (.ref q), some (.int p3), some (.ref u), none] (jm_ps v []) μ')) :
    jS g ad m_X0_find κ 0 [some (.ref 32), some (.ref 29), some (.ref q), some (.int p3), some (.ref u), none] [] μ := by
  refine jr_aload dX0_find_0 rfl ?_
  refine js_callV (st := []) [] jc_RX0_28 rfl dX0_find_2 hu.1 rfl rfl rfl rfl (kk := ?_)
  exact h

set_option maxRecDepth 100000 in
set_option maxHeartbeats 4000000 in
theorem sX0_find_5 {g : jm_G} {ad : Nat → Nat} {κ : jm_K} {P : Option Value → (Nat → Nat → Int32) → Prop} (hE : jE g ad m_X0_find P κ) {μ : Nat → Nat → Int32} (q : Nat) (hq : jm_Heard q) (u : Nat) (hu : jm_Shots u) (x3 : Int32)
    (h : jD g ad m_X3_isPulse [.ref q, .int x3] μ (fun v μ' => jS g ad m_X0_find κ 10 [some (.ref 32), some (.ref 29), some (.ref q), some (.int x3), some (.ref u), none] (jm_ps v []) μ')) :
    jS g ad m_X0_find κ 5 [some (.ref 32), some (.ref 29), some (.ref q), some (.int x3), some (.ref u), none] [] μ := by
  refine jr_aload_n dX0_find_5 rfl ?_
  refine jr_iload_n dX0_find_6 rfl ?_
  refine js_callV (st := []) [.int x3] jc_RX0_33 rfl dX0_find_7 hq.1 rfl rfl rfl rfl (kk := ?_)
  exact h

set_option maxRecDepth 100000 in
set_option maxHeartbeats 4000000 in
theorem sX0_find_10 {g : jm_G} {ad : Nat → Nat} {κ : jm_K} {P : Option Value → (Nat → Nat → Int32) → Prop} (hE : jE g ad m_X0_find P κ) {μ : Nat → Nat → Int32} (q : Nat) (hq : jm_Heard q) (u : Nat) (hu : jm_Shots u) (x3 : Int32) (r : Int32)
    (h : ((r = 0 →
    jS g ad m_X0_find κ 25 [some (.ref 32), some (.ref 29), some (.ref q), none, some (.ref u), some (.int (0 : Int32))] [] μ) ∧
    (¬ r = 0 →
    vp_in x3 32 ∧
    (∀ μ2 : Nat → Nat → Int32, μ2 = jm_st μ (u + 2) x3.toNatClampNeg (-6 : Int32) →
    jS g ad m_X0_find κ 25 [some (.ref 32), some (.ref 29), some (.ref q), none, some (.ref u), some (.int (0 : Int32))] [] μ2)))) :
    jS g ad m_X0_find κ 10 [some (.ref 32), some (.ref 29), some (.ref q), some (.int x3), some (.ref u), none] [.int r] μ := by
  obtain ⟨hA, hB⟩ := h
  refine jr_if_eq 22 dX0_find_10 rfl (fun c => ?_) (fun c => ?_)
  · have h := hA c
    refine jr_iconst (0 : Int32) dX0_find_22 (by decide) ?_
    refine jr_istore [some (.ref 32), some (.ref 29), some (.ref q), some (.int x3), some (.ref u), some (.int (0 : Int32))] dX0_find_23 rfl rfl rfl ?_
    refine js_drop 3 [some (.ref 32), some (.ref 29), some (.ref q), none, some (.ref u), some (.int (0 : Int32))] rfl ?_
    exact h
  · have h := hB c
    refine jr_aload dX0_find_13 rfl ?_
    refine jr_get 7 1 jf_RX0_39 dX0_find_15 hu.1 rfl (.ref (u + 2)) rfl ?_
    refine jr_iload_n dX0_find_18 rfl ?_
    refine jr_bipush (-6 : Int32) dX0_find_19 (by decide) ?_
    obtain ⟨o1, h⟩ := h
    refine jr_iastn _ dX0_find_21 hu.2.2.1 o1 rfl ?_
    obtain ⟨μ2, e2⟩ : ∃ x : Nat → Nat → Int32, x = jm_st μ (u + 2) x3.toNatClampNeg (-6 : Int32) := ⟨_, rfl⟩
    have h := h μ2 e2
    refine js_mem e2 ?_
    refine jr_iconst (0 : Int32) dX0_find_22 (by decide) ?_
    refine jr_istore [some (.ref 32), some (.ref 29), some (.ref q), some (.int x3), some (.ref u), some (.int (0 : Int32))] dX0_find_23 rfl rfl rfl ?_
    refine js_drop 3 [some (.ref 32), some (.ref 29), some (.ref q), none, some (.ref u), some (.int (0 : Int32))] rfl ?_
    exact h

set_option maxRecDepth 100000 in
set_option maxHeartbeats 4000000 in
theorem sX0_find_25 {g : jm_G} {ad : Nat → Nat} {κ : jm_K} {P : Option Value → (Nat → Nat → Int32) → Prop} (hE : jE g ad m_X0_find P κ) {μ : Nat → Nat → Int32} (q : Nat) (hq : jm_Heard q) (u : Nat) (hu : jm_Shots u) (x5 : Int32)
    (h : (((μ q 2) ≤ x5 →
    P none μ) ∧
    (¬ (μ q 2) ≤ x5 →
    (((8 : Int32) ≤ (μ u 2) →
    P none μ) ∧
    (¬ (8 : Int32) ≤ (μ u 2) →
    vp_in x5 32 ∧
    ((¬ (μ (u + 2) x5.toNatClampNeg) = (-1 : Int32) →
    jS g ad m_X0_find κ 25 [some (.ref 32), some (.ref 29), some (.ref q), none, some (.ref u), some (.int (x5 + 1))] [] μ) ∧
    ((μ (u + 2) x5.toNatClampNeg) = (-1 : Int32) →
    jD g ad m_X0_judge [.ref 32, .ref 29, .ref q, .int x5, .ref u] μ (fun v μ' => jS g ad m_X0_find κ 66 [some (.ref 32), some (.ref 29), some (.ref q), none, some (.ref u), some (.int x5)] (jm_ps v []) μ')))))))) :
    jS g ad m_X0_find κ 25 [some (.ref 32), some (.ref 29), some (.ref q), none, some (.ref u), some (.int x5)] [] μ := by
  refine jr_iload dX0_find_25 rfl ?_
  refine jr_aload_n dX0_find_27 rfl ?_
  refine jr_get 3 2 jf_RX0_42 dX0_find_28 hq.1 rfl (.int (μ q 2)) rfl ?_
  obtain ⟨hA, hB⟩ := h
  refine jr_icmp_ge 72 dX0_find_31 rfl (fun c => ?_) (fun c => ?_)
  · have h := hA c
    exact js_vret hE rfl dX0_find_72 rfl h
  · have h := hB c
    refine jr_aload dX0_find_34 rfl ?_
    refine jr_get 7 2 jf_RX0_46 dX0_find_36 hu.1 rfl (.int (μ u 2)) rfl ?_
    refine jr_bipush (8 : Int32) dX0_find_39 (by decide) ?_
    obtain ⟨hA, hB⟩ := h
    refine jr_icmp_ge 72 dX0_find_41 rfl (fun c => ?_) (fun c => ?_)
    · have h := hA c
      exact js_vret hE rfl dX0_find_72 rfl h
    · have h := hB c
      refine jr_aload dX0_find_44 rfl ?_
      refine jr_get 7 1 jf_RX0_39 dX0_find_46 hu.1 rfl (.ref (u + 2)) rfl ?_
      refine jr_iload dX0_find_49 rfl ?_
      obtain ⟨o1, h⟩ := h
      refine jr_ialdn _ dX0_find_51 hu.2.2.1 o1 rfl ?_
      refine jr_iconst (-1 : Int32) dX0_find_52 (by decide) ?_
      obtain ⟨hA, hB⟩ := h
      refine jr_icmp_ne 66 dX0_find_53 rfl (fun c => ?_) (fun c => ?_)
      · have h := hA c
        refine jr_iinc [some (.ref 32), some (.ref 29), some (.ref q), none, some (.ref u), some (.int (x5 + 1))] dX0_find_66 rfl rfl rfl rfl rfl ?_
        refine jr_goto 25 dX0_find_69 rfl ?_
        exact h
      · have h := hB c
        refine jr_aload_n dX0_find_56 rfl ?_
        refine jr_aload_n dX0_find_57 rfl ?_
        refine jr_aload_n dX0_find_58 rfl ?_
        refine jr_iload dX0_find_59 rfl ?_
        refine jr_aload dX0_find_61 rfl ?_
        refine js_callV (st := []) [.ref 29, .ref q, .int x5, .ref u] jc_RX0_47 rfl dX0_find_63 ga_32 rfl rfl rfl rfl (kk := ?_)
        exact h

set_option maxRecDepth 100000 in
set_option maxHeartbeats 4000000 in
theorem sX0_find_66 {g : jm_G} {ad : Nat → Nat} {κ : jm_K} {P : Option Value → (Nat → Nat → Int32) → Prop} (hE : jE g ad m_X0_find P κ) {μ : Nat → Nat → Int32} (q : Nat) (hq : jm_Heard q) (u : Nat) (hu : jm_Shots u) (x5 : Int32)
    (h : jS g ad m_X0_find κ 25 [some (.ref 32), some (.ref 29), some (.ref q), none, some (.ref u), some (.int (x5 + 1))] [] μ) :
    jS g ad m_X0_find κ 66 [some (.ref 32), some (.ref 29), some (.ref q), none, some (.ref u), some (.int x5)] [] μ := by
  refine jr_iinc [some (.ref 32), some (.ref 29), some (.ref q), none, some (.ref u), some (.int (x5 + 1))] dX0_find_66 rfl rfl rfl rfl rfl ?_
  refine jr_goto 25 dX0_find_69 rfl ?_
  exact h

set_option maxRecDepth 100000 in
set_option maxHeartbeats 4000000 in
theorem sX0_spreadOf_0 {g : jm_G} {ad : Nat → Nat} {κ : jm_K} {P : Option Value → (Nat → Nat → Int32) → Prop} (hE : jE g ad m_X0_spreadOf P κ) {μ : Nat → Nat → Int32} (q : Nat) (hq : jm_Heard q) (t : Nat) (ht : jm_Shot t) (p4 : Int32) (p5 : Int32)
    (h : jS g ad m_X0_spreadOf κ 3 [some (.ref 32), some (.ref 29), some (.ref q), some (.ref t), some (.int p4), some (.int p5), some (.int (0 : Int32))] [] μ) :
    jS g ad m_X0_spreadOf κ 0 [some (.ref 32), some (.ref 29), some (.ref q), some (.ref t), some (.int p4), some (.int p5), none] [] μ := by
  refine jr_iconst (0 : Int32) dX0_spreadOf_0 (by decide) ?_
  refine jr_istore [some (.ref 32), some (.ref 29), some (.ref q), some (.ref t), some (.int p4), some (.int p5), some (.int (0 : Int32))] dX0_spreadOf_1 rfl rfl rfl ?_
  exact h

set_option maxRecDepth 100000 in
set_option maxHeartbeats 4000000 in
theorem sX0_spreadOf_3 {g : jm_G} {ad : Nat → Nat} {κ : jm_K} {P : Option Value → (Nat → Nat → Int32) → Prop} (hE : jE g ad m_X0_spreadOf P κ) {μ : Nat → Nat → Int32} (q : Nat) (hq : jm_Heard q) (t : Nat) (ht : jm_Shot t) (x4 : Int32) (x5 : Int32) (x6 : Int32)
    (h : (((4 : Int32) ≤ x6 →
    jD g ad m_X1_spreadAt [.ref 33, .ref 29, .int x4, .int x5] μ (fun v μ' => jS g ad m_X0_spreadOf κ 48 [none, none, none, none, none, none, none] (jm_ps v []) μ')) ∧
    (¬ (4 : Int32) ≤ x6 →
    vp_in x6 4 ∧
    jD g ad m_X3_timeOf [.ref q, .int (μ (t + 1) x6.toNatClampNeg)] μ (fun v μ' => jS g ad m_X0_spreadOf κ 29 [some (.ref 32), some (.ref 29), some (.ref q), some (.ref t), some (.int x4), some (.int x5), some (.int x6)] (jm_ps v [.int x6, .ref 34]) μ')))) :
    jS g ad m_X0_spreadOf κ 3 [some (.ref 32), some (.ref 29), some (.ref q), some (.ref t), some (.int x4), some (.int x5), some (.int x6)] [] μ := by
  refine jr_iload dX0_spreadOf_3 rfl ?_
  refine jr_iconst (4 : Int32) dX0_spreadOf_5 (by decide) ?_
  obtain ⟨hA, hB⟩ := h
  refine jr_icmp_ge 36 dX0_spreadOf_6 rfl (fun c => ?_) (fun c => ?_)
  · have h := hA c
    refine jr_aload_n dX0_spreadOf_36 rfl ?_
    refine jr_get 0 0 jf_RX0_12 dX0_spreadOf_37 ga_32 rfl (.ref 33) rfl ?_
    refine jr_aload_n dX0_spreadOf_40 rfl ?_
    refine jr_iload dX0_spreadOf_41 rfl ?_
    refine jr_iload dX0_spreadOf_43 rfl ?_
    refine js_drop 0 [none, some (.ref 29), some (.ref q), some (.ref t), some (.int x4), some (.int x5), some (.int x6)] rfl ?_
    refine js_drop 1 [none, none, some (.ref q), some (.ref t), some (.int x4), some (.int x5), some (.int x6)] rfl ?_
    refine js_drop 2 [none, none, none, some (.ref t), some (.int x4), some (.int x5), some (.int x6)] rfl ?_
    refine js_drop 3 [none, none, none, none, some (.int x4), some (.int x5), some (.int x6)] rfl ?_
    refine js_drop 4 [none, none, none, none, none, some (.int x5), some (.int x6)] rfl ?_
    refine js_drop 5 [none, none, none, none, none, none, some (.int x6)] rfl ?_
    refine js_drop 6 [none, none, none, none, none, none, none] rfl ?_
    refine js_callV (st := []) [.ref 29, .int x4, .int x5] jc_RX0_63 rfl dX0_spreadOf_45 ga_33 rfl rfl rfl rfl (kk := ?_)
    exact h
  · have h := hB c
    refine jr_aload_n dX0_spreadOf_9 rfl ?_
    refine jr_get 0 0 jf_RX0_12 dX0_spreadOf_10 ga_32 rfl (.ref 33) rfl ?_
    refine jr_get 1 0 jf_RX0_51 dX0_spreadOf_13 ga_33 rfl (.ref 34) rfl ?_
    refine jr_iload dX0_spreadOf_16 rfl ?_
    refine jr_aload_n dX0_spreadOf_18 rfl ?_
    refine jr_aload_n dX0_spreadOf_19 rfl ?_
    refine jr_get 6 0 jf_RX0_54 dX0_spreadOf_20 ht.1 rfl (.ref (t + 1)) rfl ?_
    refine jr_iload dX0_spreadOf_23 rfl ?_
    obtain ⟨o1, h⟩ := h
    refine jr_ialdn _ dX0_spreadOf_25 ht.2 o1 rfl ?_
    refine js_callV (st := [.int x6, .ref 34]) [.int (μ (t + 1) x6.toNatClampNeg)] jc_RX0_59 rfl dX0_spreadOf_26 hq.1 rfl rfl rfl rfl (kk := ?_)
    exact h

set_option maxRecDepth 100000 in
set_option maxHeartbeats 4000000 in
theorem sX0_spreadOf_48 {g : jm_G} {ad : Nat → Nat} {κ : jm_K} {P : Option Value → (Nat → Nat → Int32) → Prop} (hE : jE g ad m_X0_spreadOf P κ) {μ : Nat → Nat → Int32} (q : Nat) (hq : jm_Heard q) (t : Nat) (ht : jm_Shot t) (r : Int32)
    (h : P (some (.int r)) μ) :
    jS g ad m_X0_spreadOf κ 48 [none, none, none, none, none, none, none] [.int r] μ := by
  exact js_iret hE rfl dX0_spreadOf_48 rfl h

set_option maxRecDepth 100000 in
set_option maxHeartbeats 4000000 in
theorem sX0_spreadOf_29 {g : jm_G} {ad : Nat → Nat} {κ : jm_K} {P : Option Value → (Nat → Nat → Int32) → Prop} (hE : jE g ad m_X0_spreadOf P κ) {μ : Nat → Nat → Int32} (q : Nat) (hq : jm_Heard q) (t : Nat) (ht : jm_Shot t) (x4 : Int32) (x5 : Int32) (x6 : Int32) (r : Int32) (y1 : Int32)
    (h : vp_in y1 4 ∧
    (∀ μ2 : Nat → Nat → Int32, μ2 = jm_st μ 34 y1.toNatClampNeg r →
    jS g ad m_X0_spreadOf κ 3 [some (.ref 32), some (.ref 29), some (.ref q), some (.ref t), some (.int x4), some (.int x5), some (.int (x6 + 1))] [] μ2)) :
    jS g ad m_X0_spreadOf κ 29 [some (.ref 32), some (.ref 29), some (.ref q), some (.ref t), some (.int x4), some (.int x5), some (.int x6)] [.int r, .int y1, .ref 34] μ := by
  obtain ⟨o1, h⟩ := h
  refine jr_iastn _ dX0_spreadOf_29 ga_34 o1 rfl ?_
  obtain ⟨μ2, e2⟩ : ∃ x : Nat → Nat → Int32, x = jm_st μ 34 y1.toNatClampNeg r := ⟨_, rfl⟩
  have h := h μ2 e2
  refine js_mem e2 ?_
  refine jr_iinc [some (.ref 32), some (.ref 29), some (.ref q), some (.ref t), some (.int x4), some (.int x5), some (.int (x6 + 1))] dX0_spreadOf_30 rfl rfl rfl rfl rfl ?_
  refine jr_goto 3 dX0_spreadOf_33 rfl ?_
  exact h

set_option maxRecDepth 100000 in
set_option maxHeartbeats 4000000 in
theorem sX0_judge_0 {g : jm_G} {ad : Nat → Nat} {κ : jm_K} {P : Option Value → (Nat → Nat → Int32) → Prop} (hE : jE g ad m_X0_judge P κ) {μ : Nat → Nat → Int32} (q : Nat) (hq : jm_Heard q) (u : Nat) (hu : jm_Shots u) (p3 : Int32)
    (h : vp_in p3 32 ∧
    (∀ μ2 : Nat → Nat → Int32, μ2 = jm_st μ (u + 2) p3.toNatClampNeg (-6 : Int32) →
    jD g ad m_X0_gather [.ref 32, .ref q, .int p3, .ref (u + 2)] μ2 (fun v μ' => jS g ad m_X0_judge κ 20 [some (.ref 32), some (.ref 29), some (.ref q), none, some (.ref u), none, none, none] (jm_ps v []) μ'))) :
    jS g ad m_X0_judge κ 0 [some (.ref 32), some (.ref 29), some (.ref q), some (.int p3), some (.ref u), none, none, none] [] μ := by
  refine jr_aload dX0_judge_0 rfl ?_
  refine jr_get 7 1 jf_RX0_39 dX0_judge_2 hu.1 rfl (.ref (u + 2)) rfl ?_
  refine jr_iload_n dX0_judge_5 rfl ?_
  refine jr_bipush (-6 : Int32) dX0_judge_6 (by decide) ?_
  obtain ⟨o1, h⟩ := h
  refine jr_iastn _ dX0_judge_8 hu.2.2.1 o1 rfl ?_
  obtain ⟨μ2, e2⟩ : ∃ x : Nat → Nat → Int32, x = jm_st μ (u + 2) p3.toNatClampNeg (-6 : Int32) := ⟨_, rfl⟩
  have h := h μ2 e2
  refine js_mem e2 ?_
  refine jr_aload_n dX0_judge_9 rfl ?_
  refine jr_aload_n dX0_judge_10 rfl ?_
  refine jr_iload_n dX0_judge_11 rfl ?_
  refine jr_aload dX0_judge_12 rfl ?_
  refine jr_get 7 1 jf_RX0_39 dX0_judge_14 hu.1 rfl (.ref (u + 2)) rfl ?_
  refine js_drop 3 [some (.ref 32), some (.ref 29), some (.ref q), none, some (.ref u), none, none, none] rfl ?_
  refine js_callV (st := []) [.ref q, .int p3, .ref (u + 2)] jc_RX0_67 rfl dX0_judge_17 ga_32 rfl rfl rfl rfl (kk := ?_)
  exact h

set_option maxRecDepth 100000 in
set_option maxHeartbeats 4000000 in
theorem sX0_judge_20 {g : jm_G} {ad : Nat → Nat} {κ : jm_K} {P : Option Value → (Nat → Nat → Int32) → Prop} (hE : jE g ad m_X0_judge P κ) {μ : Nat → Nat → Int32} (q : Nat) (hq : jm_Heard q) (u : Nat) (hu : jm_Shots u) 
    (h : jS g ad m_X0_judge κ 36 [some (.ref 32), some (.ref 29), some (.ref q), none, some (.ref u), some (.int ((μ (q + 1) 2) + (1 : Int32))), some (.int (0 : Int32)), some (.int (0 : Int32))] [] μ) :
    jS g ad m_X0_judge κ 20 [some (.ref 32), some (.ref 29), some (.ref q), none, some (.ref u), none, none, none] [] μ := by
  refine jr_aload_n dX0_judge_20 rfl ?_
  refine jr_get 3 0 jf_RX0_71 dX0_judge_21 hq.1 rfl (.ref (q + 1)) rfl ?_
  refine jr_iconst (2 : Int32) dX0_judge_24 (by decide) ?_
  refine jr_ialdn 2 dX0_judge_25 hq.2.1 (jm_inD (by decide)) rfl ?_
  refine jr_iconst (1 : Int32) dX0_judge_26 (by decide) ?_
  refine jr_iadd dX0_judge_27 ?_
  refine jr_istore [some (.ref 32), some (.ref 29), some (.ref q), none, some (.ref u), some (.int ((μ (q + 1) 2) + (1 : Int32))), none, none] dX0_judge_28 rfl rfl rfl ?_
  refine jr_iconst (0 : Int32) dX0_judge_30 (by decide) ?_
  refine jr_istore [some (.ref 32), some (.ref 29), some (.ref q), none, some (.ref u), some (.int ((μ (q + 1) 2) + (1 : Int32))), some (.int (0 : Int32)), none] dX0_judge_31 rfl rfl rfl ?_
  refine jr_iconst (0 : Int32) dX0_judge_33 (by decide) ?_
  refine jr_istore [some (.ref 32), some (.ref 29), some (.ref q), none, some (.ref u), some (.int ((μ (q + 1) 2) + (1 : Int32))), some (.int (0 : Int32)), some (.int (0 : Int32))] dX0_judge_34 rfl rfl rfl ?_
  exact h

set_option maxRecDepth 100000 in
set_option maxHeartbeats 4000000 in
theorem sX0_judge_36 {g : jm_G} {ad : Nat → Nat} {κ : jm_K} {P : Option Value → (Nat → Nat → Int32) → Prop} (hE : jE g ad m_X0_judge P κ) {μ : Nat → Nat → Int32} (q : Nat) (hq : jm_Heard q) (u : Nat) (hu : jm_Shots u) (x5 : Int32) (x6 : Int32) (x7 : Int32)
    (h : (((16 : Int32) ≤ x7 →
    ((x6 = 0 →
    P none μ) ∧
    (¬ x6 = 0 →
    jD g ad m_X7_accept [.ref u] μ (fun v μ' => jS g ad m_X0_judge κ 113 [none, none, none, none, none, none, none, none] (jm_ps v []) μ')))) ∧
    (¬ (16 : Int32) ≤ x7 →
    ((x5 ≤ 0 →
    ((x6 = 0 →
    P none μ) ∧
    (¬ x6 = 0 →
    jD g ad m_X7_accept [.ref u] μ (fun v μ' => jS g ad m_X0_judge κ 113 [none, none, none, none, none, none, none, none] (jm_ps v []) μ')))) ∧
    (¬ x5 ≤ 0 →
    jD g ad m_X0_choose [.ref 32, .ref q, .int x7] μ (fun v μ' => jS g ad m_X0_judge κ 55 [some (.ref 32), some (.ref 29), some (.ref q), none, some (.ref u), some (.int x5), some (.int x6), some (.int x7)] (jm_ps v []) μ')))))) :
    jS g ad m_X0_judge κ 36 [some (.ref 32), some (.ref 29), some (.ref q), none, some (.ref u), some (.int x5), some (.int x6), some (.int x7)] [] μ := by
  refine jr_iload dX0_judge_36 rfl ?_
  refine jr_bipush (16 : Int32) dX0_judge_38 (by decide) ?_
  obtain ⟨hA, hB⟩ := h
  refine jr_icmp_ge 103 dX0_judge_40 rfl (fun c => ?_) (fun c => ?_)
  · have h := hA c
    refine jr_iload dX0_judge_103 rfl ?_
    obtain ⟨hA, hB⟩ := h
    refine jr_if_eq 113 dX0_judge_105 rfl (fun c => ?_) (fun c => ?_)
    · have h := hA c
      exact js_vret hE rfl dX0_judge_113 rfl h
    · have h := hB c
      refine jr_aload dX0_judge_108 rfl ?_
      refine js_drop 0 [none, some (.ref 29), some (.ref q), none, some (.ref u), some (.int x5), some (.int x6), some (.int x7)] rfl ?_
      refine js_drop 1 [none, none, some (.ref q), none, some (.ref u), some (.int x5), some (.int x6), some (.int x7)] rfl ?_
      refine js_drop 2 [none, none, none, none, some (.ref u), some (.int x5), some (.int x6), some (.int x7)] rfl ?_
      refine js_drop 4 [none, none, none, none, none, some (.int x5), some (.int x6), some (.int x7)] rfl ?_
      refine js_drop 5 [none, none, none, none, none, none, some (.int x6), some (.int x7)] rfl ?_
      refine js_drop 6 [none, none, none, none, none, none, none, some (.int x7)] rfl ?_
      refine js_drop 7 [none, none, none, none, none, none, none, none] rfl ?_
      refine js_callV (st := []) [] jc_RX0_89 rfl dX0_judge_110 hu.1 rfl rfl rfl rfl (kk := ?_)
      exact h
  · have h := hB c
    refine jr_iload dX0_judge_43 rfl ?_
    obtain ⟨hA, hB⟩ := h
    refine jr_if_le 103 dX0_judge_45 rfl (fun c => ?_) (fun c => ?_)
    · have h := hA c
      refine jr_iload dX0_judge_103 rfl ?_
      obtain ⟨hA, hB⟩ := h
      refine jr_if_eq 113 dX0_judge_105 rfl (fun c => ?_) (fun c => ?_)
      · have h := hA c
        exact js_vret hE rfl dX0_judge_113 rfl h
      · have h := hB c
        refine jr_aload dX0_judge_108 rfl ?_
        refine js_drop 0 [none, some (.ref 29), some (.ref q), none, some (.ref u), some (.int x5), some (.int x6), some (.int x7)] rfl ?_
        refine js_drop 1 [none, none, some (.ref q), none, some (.ref u), some (.int x5), some (.int x6), some (.int x7)] rfl ?_
        refine js_drop 2 [none, none, none, none, some (.ref u), some (.int x5), some (.int x6), some (.int x7)] rfl ?_
        refine js_drop 4 [none, none, none, none, none, some (.int x5), some (.int x6), some (.int x7)] rfl ?_
        refine js_drop 5 [none, none, none, none, none, none, some (.int x6), some (.int x7)] rfl ?_
        refine js_drop 6 [none, none, none, none, none, none, none, some (.int x7)] rfl ?_
        refine js_drop 7 [none, none, none, none, none, none, none, none] rfl ?_
        refine js_callV (st := []) [] jc_RX0_89 rfl dX0_judge_110 hu.1 rfl rfl rfl rfl (kk := ?_)
        exact h
    · have h := hB c
      refine jr_aload_n dX0_judge_48 rfl ?_
      refine jr_aload_n dX0_judge_49 rfl ?_
      refine jr_iload dX0_judge_50 rfl ?_
      refine js_callV (st := []) [.ref q, .int x7] jc_RX0_74 rfl dX0_judge_52 ga_32 rfl rfl rfl rfl (kk := ?_)
      exact h

set_option maxRecDepth 100000 in
set_option maxHeartbeats 4000000 in
theorem sX0_judge_113 {g : jm_G} {ad : Nat → Nat} {κ : jm_K} {P : Option Value → (Nat → Nat → Int32) → Prop} (hE : jE g ad m_X0_judge P κ) {μ : Nat → Nat → Int32} (q : Nat) (hq : jm_Heard q) (u : Nat) (hu : jm_Shots u) 
    (h : P none μ) :
    jS g ad m_X0_judge κ 113 [none, none, none, none, none, none, none, none] [] μ := by
  exact js_vret hE rfl dX0_judge_113 rfl h

set_option maxRecDepth 100000 in
set_option maxHeartbeats 4000000 in
theorem sX0_judge_55 {g : jm_G} {ad : Nat → Nat} {κ : jm_K} {P : Option Value → (Nat → Nat → Int32) → Prop} (hE : jE g ad m_X0_judge P κ) {μ : Nat → Nat → Int32} (q : Nat) (hq : jm_Heard q) (u : Nat) (hu : jm_Shots u) (x5 : Int32) (x6 : Int32) (x7 : Int32) (r : Int32)
    (h : ((r = 0 →
    jS g ad m_X0_judge κ 36 [some (.ref 32), some (.ref 29), some (.ref q), none, some (.ref u), some (.int x5), some (.int x6), some (.int (x7 + 1))] [] μ) ∧
    (¬ r = 0 →
    jD g ad m_X1_search [.ref 33, .ref 29, .int x5] μ (fun v μ' => jS g ad m_X0_judge κ 68 [some (.ref 32), some (.ref 29), some (.ref q), none, some (.ref u), some (.int x5), some (.int x6), some (.int x7)] (jm_ps v []) μ')))) :
    jS g ad m_X0_judge κ 55 [some (.ref 32), some (.ref 29), some (.ref q), none, some (.ref u), some (.int x5), some (.int x6), some (.int x7)] [.int r] μ := by
  obtain ⟨hA, hB⟩ := h
  refine jr_if_eq 97 dX0_judge_55 rfl (fun c => ?_) (fun c => ?_)
  · have h := hA c
    refine jr_iinc [some (.ref 32), some (.ref 29), some (.ref q), none, some (.ref u), some (.int x5), some (.int x6), some (.int (x7 + 1))] dX0_judge_97 rfl rfl rfl rfl rfl ?_
    refine jr_goto 36 dX0_judge_100 rfl ?_
    exact h
  · have h := hB c
    refine jr_aload_n dX0_judge_58 rfl ?_
    refine jr_get 0 0 jf_RX0_12 dX0_judge_59 ga_32 rfl (.ref 33) rfl ?_
    refine jr_aload_n dX0_judge_62 rfl ?_
    refine jr_iload dX0_judge_63 rfl ?_
    refine js_callV (st := []) [.ref 29, .int x5] jc_RX0_78 rfl dX0_judge_65 ga_33 rfl rfl rfl rfl (kk := ?_)
    exact h

set_option maxRecDepth 100000 in
set_option maxHeartbeats 4000000 in
theorem sX0_judge_68 {g : jm_G} {ad : Nat → Nat} {κ : jm_K} {P : Option Value → (Nat → Nat → Int32) → Prop} (hE : jE g ad m_X0_judge P κ) {μ : Nat → Nat → Int32} (q : Nat) (hq : jm_Heard q) (u : Nat) (hu : jm_Shots u) (x5 : Int32) (x6 : Int32) (x7 : Int32) (r : Int32)
    (h : ((r = 0 →
    jS g ad m_X0_judge κ 36 [some (.ref 32), some (.ref 29), some (.ref q), none, some (.ref u), some (.int x5), some (.int x6), some (.int (x7 + 1))] [] μ) ∧
    (¬ r = 0 →
    jD g ad m_X7_draft [.ref u, .ref 29, .ref 33, .ref 37] μ (fun v μ' => jS g ad m_X0_judge κ 85 [some (.ref 32), some (.ref 29), some (.ref q), none, some (.ref u), none, none, some (.int x7)] (jm_ps v []) μ')))) :
    jS g ad m_X0_judge κ 68 [some (.ref 32), some (.ref 29), some (.ref q), none, some (.ref u), some (.int x5), some (.int x6), some (.int x7)] [.int r] μ := by
  obtain ⟨hA, hB⟩ := h
  refine jr_if_eq 97 dX0_judge_68 rfl (fun c => ?_) (fun c => ?_)
  · have h := hA c
    refine jr_iinc [some (.ref 32), some (.ref 29), some (.ref q), none, some (.ref u), some (.int x5), some (.int x6), some (.int (x7 + 1))] dX0_judge_97 rfl rfl rfl rfl rfl ?_
    refine jr_goto 36 dX0_judge_100 rfl ?_
    exact h
  · have h := hB c
    refine jr_aload dX0_judge_71 rfl ?_
    refine jr_aload_n dX0_judge_73 rfl ?_
    refine jr_aload_n dX0_judge_74 rfl ?_
    refine jr_get 0 0 jf_RX0_12 dX0_judge_75 ga_32 rfl (.ref 33) rfl ?_
    refine jr_aload_n dX0_judge_78 rfl ?_
    refine jr_get 0 3 jf_RX0_25 dX0_judge_79 ga_32 rfl (.ref 37) rfl ?_
    refine js_drop 5 [some (.ref 32), some (.ref 29), some (.ref q), none, some (.ref u), none, some (.int x6), some (.int x7)] rfl ?_
    refine js_drop 6 [some (.ref 32), some (.ref 29), some (.ref q), none, some (.ref u), none, none, some (.int x7)] rfl ?_
    refine js_callV (st := []) [.ref 29, .ref 33, .ref 37] jc_RX0_82 rfl dX0_judge_82 hu.1 rfl rfl rfl rfl (kk := ?_)
    exact h

set_option maxRecDepth 100000 in
set_option maxHeartbeats 4000000 in
theorem sX0_judge_85 {g : jm_G} {ad : Nat → Nat} {κ : jm_K} {P : Option Value → (Nat → Nat → Int32) → Prop} (hE : jE g ad m_X0_judge P κ) {μ : Nat → Nat → Int32} (q : Nat) (hq : jm_Heard q) (u : Nat) (hu : jm_Shots u) (x7 : Int32)
    (h : jS g ad m_X0_judge κ 36 [some (.ref 32), some (.ref 29), some (.ref q), none, some (.ref u), some (.int (μ 33 3)), some (.int (1 : Int32)), some (.int (x7 + 1))] [] μ) :
    jS g ad m_X0_judge κ 85 [some (.ref 32), some (.ref 29), some (.ref q), none, some (.ref u), none, none, some (.int x7)] [] μ := by
  refine jr_aload_n dX0_judge_85 rfl ?_
  refine jr_get 0 0 jf_RX0_12 dX0_judge_86 ga_32 rfl (.ref 33) rfl ?_
  refine jr_get 1 3 jf_RX0_86 dX0_judge_89 ga_33 rfl (.int (μ 33 3)) rfl ?_
  refine jr_istore [some (.ref 32), some (.ref 29), some (.ref q), none, some (.ref u), some (.int (μ 33 3)), none, some (.int x7)] dX0_judge_92 rfl rfl rfl ?_
  refine jr_iconst (1 : Int32) dX0_judge_94 (by decide) ?_
  refine jr_istore [some (.ref 32), some (.ref 29), some (.ref q), none, some (.ref u), some (.int (μ 33 3)), some (.int (1 : Int32)), some (.int x7)] dX0_judge_95 rfl rfl rfl ?_
  refine jr_iinc [some (.ref 32), some (.ref 29), some (.ref q), none, some (.ref u), some (.int (μ 33 3)), some (.int (1 : Int32)), some (.int (x7 + 1))] dX0_judge_97 rfl rfl rfl rfl rfl ?_
  refine jr_goto 36 dX0_judge_100 rfl ?_
  exact h

set_option maxRecDepth 100000 in
set_option maxHeartbeats 4000000 in
theorem sX0_gather_0 {g : jm_G} {ad : Nat → Nat} {κ : jm_K} {P : Option Value → (Nat → Nat → Int32) → Prop} (hE : jE g ad m_X0_gather P κ) {μ : Nat → Nat → Int32} (q : Nat) (hq : jm_Heard q) (p3 np3 : Nat) (hp3 : jm_GAM[p3]? = some (.inr (0, np3, none))) (p2 : Int32)
    (h : jS g ad m_X0_gather κ 3 [some (.ref 32), some (.ref q), some (.int p2), some (.ref p3), some (.int (0 : Int32)), none, none, none] [] μ) :
    jS g ad m_X0_gather κ 0 [some (.ref 32), some (.ref q), some (.int p2), some (.ref p3), none, none, none, none] [] μ := by
  refine jr_iconst (0 : Int32) dX0_gather_0 (by decide) ?_
  refine jr_istore [some (.ref 32), some (.ref q), some (.int p2), some (.ref p3), some (.int (0 : Int32)), none, none, none] dX0_gather_1 rfl rfl rfl ?_
  exact h

set_option maxRecDepth 100000 in
set_option maxHeartbeats 4000000 in
theorem sX0_gather_3 {g : jm_G} {ad : Nat → Nat} {κ : jm_K} {P : Option Value → (Nat → Nat → Int32) → Prop} (hE : jE g ad m_X0_gather P κ) {μ : Nat → Nat → Int32} (q : Nat) (hq : jm_Heard q) (p3 np3 : Nat) (hp3 : jm_GAM[p3]? = some (.inr (0, np3, none))) (x2 : Int32) (x4 : Int32)
    (h : (((4 : Int32) ≤ x4 →
    jD g ad m_X3_earOf [.ref q, .int x2] μ (fun v μ' => jS g ad m_X0_gather κ 28 [some (.ref 32), some (.ref q), some (.int x2), some (.ref p3), none, none, none, none] (jm_ps v []) μ')) ∧
    (¬ (4 : Int32) ≤ x4 →
    vp_in x4 4 ∧
    (∀ μ2 : Nat → Nat → Int32, μ2 = jm_st μ 36 x4.toNatClampNeg (0 : Int32) →
    jS g ad m_X0_gather κ 3 [some (.ref 32), some (.ref q), some (.int x2), some (.ref p3), some (.int (x4 + 1)), none, none, none] [] μ2)))) :
    jS g ad m_X0_gather κ 3 [some (.ref 32), some (.ref q), some (.int x2), some (.ref p3), some (.int x4), none, none, none] [] μ := by
  refine jr_iload dX0_gather_3 rfl ?_
  refine jr_iconst (4 : Int32) dX0_gather_5 (by decide) ?_
  obtain ⟨hA, hB⟩ := h
  refine jr_icmp_ge 23 dX0_gather_6 rfl (fun c => ?_) (fun c => ?_)
  · have h := hA c
    refine jr_aload_n dX0_gather_23 rfl ?_
    refine jr_iload_n dX0_gather_24 rfl ?_
    refine js_drop 4 [some (.ref 32), some (.ref q), some (.int x2), some (.ref p3), none, none, none, none] rfl ?_
    refine js_callV (st := []) [.int x2] jc_RX0_92 rfl dX0_gather_25 hq.1 rfl rfl rfl rfl (kk := ?_)
    exact h
  · have h := hB c
    refine jr_aload_n dX0_gather_9 rfl ?_
    refine jr_get 0 2 jf_RX0_22 dX0_gather_10 ga_32 rfl (.ref 36) rfl ?_
    refine jr_iload dX0_gather_13 rfl ?_
    refine jr_iconst (0 : Int32) dX0_gather_15 (by decide) ?_
    obtain ⟨o1, h⟩ := h
    refine jr_iastn _ dX0_gather_16 ga_36 o1 rfl ?_
    obtain ⟨μ2, e2⟩ : ∃ x : Nat → Nat → Int32, x = jm_st μ 36 x4.toNatClampNeg (0 : Int32) := ⟨_, rfl⟩
    have h := h μ2 e2
    refine js_mem e2 ?_
    refine jr_iinc [some (.ref 32), some (.ref q), some (.int x2), some (.ref p3), some (.int (x4 + 1)), none, none, none] dX0_gather_17 rfl rfl rfl rfl rfl ?_
    refine jr_goto 3 dX0_gather_20 rfl ?_
    exact h

set_option maxRecDepth 100000 in
set_option maxHeartbeats 4000000 in
theorem sX0_gather_28 {g : jm_G} {ad : Nat → Nat} {κ : jm_K} {P : Option Value → (Nat → Nat → Int32) → Prop} (hE : jE g ad m_X0_gather P κ) {μ : Nat → Nat → Int32} (q : Nat) (hq : jm_Heard q) (p3 np3 : Nat) (hp3 : jm_GAM[p3]? = some (.inr (0, np3, none))) (x2 : Int32) (r : Int32)
    (h : vp_in (r * (2 : Int32)) 8 ∧
    (∀ μ2 : Nat → Nat → Int32, μ2 = jm_st μ 35 (r * (2 : Int32)).toNatClampNeg x2 →
    vp_in r 4 ∧
    (∀ μ4 : Nat → Nat → Int32, μ4 = jm_st μ2 36 r.toNatClampNeg (1 : Int32) →
    jD g ad m_X3_timeOf [.ref q, .int x2] μ4 (fun v μ' => jS g ad m_X0_gather κ 53 [some (.ref 32), some (.ref q), some (.int x2), some (.ref p3), some (.int r), none, none, none] (jm_ps v []) μ')))) :
    jS g ad m_X0_gather κ 28 [some (.ref 32), some (.ref q), some (.int x2), some (.ref p3), none, none, none, none] [.int r] μ := by
  refine jr_istore [some (.ref 32), some (.ref q), some (.int x2), some (.ref p3), some (.int r), none, none, none] dX0_gather_28 rfl rfl rfl ?_
  refine jr_aload_n dX0_gather_30 rfl ?_
  refine jr_get 0 1 jf_RX0_18 dX0_gather_31 ga_32 rfl (.ref 35) rfl ?_
  refine jr_iload dX0_gather_34 rfl ?_
  refine jr_iconst (2 : Int32) dX0_gather_36 (by decide) ?_
  refine jr_imul dX0_gather_37 ?_
  refine jr_iload_n dX0_gather_38 rfl ?_
  obtain ⟨o1, h⟩ := h
  refine jr_iastn _ dX0_gather_39 ga_35 o1 rfl ?_
  obtain ⟨μ2, e2⟩ : ∃ x : Nat → Nat → Int32, x = jm_st μ 35 (r * (2 : Int32)).toNatClampNeg x2 := ⟨_, rfl⟩
  have h := h μ2 e2
  refine js_mem e2 ?_
  refine jr_aload_n dX0_gather_40 rfl ?_
  refine jr_get 0 2 jf_RX0_22 dX0_gather_41 ga_32 rfl (.ref 36) rfl ?_
  refine jr_iload dX0_gather_44 rfl ?_
  refine jr_iconst (1 : Int32) dX0_gather_46 (by decide) ?_
  obtain ⟨o3, h⟩ := h
  refine jr_iastn _ dX0_gather_47 ga_36 o3 rfl ?_
  obtain ⟨μ4, e4⟩ : ∃ x : Nat → Nat → Int32, x = jm_st μ2 36 r.toNatClampNeg (1 : Int32) := ⟨_, rfl⟩
  have h := h μ4 e4
  refine js_mem e4 ?_
  refine jr_aload_n dX0_gather_48 rfl ?_
  refine jr_iload_n dX0_gather_49 rfl ?_
  refine js_callV (st := []) [.int x2] jc_RX0_59 rfl dX0_gather_50 hq.1 rfl rfl rfl rfl (kk := ?_)
  exact h

set_option maxRecDepth 100000 in
set_option maxHeartbeats 4000000 in
theorem sX0_gather_53 {g : jm_G} {ad : Nat → Nat} {κ : jm_K} {P : Option Value → (Nat → Nat → Int32) → Prop} (hE : jE g ad m_X0_gather P κ) {μ : Nat → Nat → Int32} (q : Nat) (hq : jm_Heard q) (p3 np3 : Nat) (hp3 : jm_GAM[p3]? = some (.inr (0, np3, none))) (x2 : Int32) (x4 : Int32) (r : Int32)
    (h : jS g ad m_X0_gather κ 67 [some (.ref 32), some (.ref q), none, some (.ref p3), some (.int x4), some (.int (r + (μ (q + 1) 1))), some (.int (x2 + (1 : Int32))), none] [] μ) :
    jS g ad m_X0_gather κ 53 [some (.ref 32), some (.ref q), some (.int x2), some (.ref p3), some (.int x4), none, none, none] [.int r] μ := by
  refine jr_aload_n dX0_gather_53 rfl ?_
  refine jr_get 3 0 jf_RX0_71 dX0_gather_54 hq.1 rfl (.ref (q + 1)) rfl ?_
  refine jr_iconst (1 : Int32) dX0_gather_57 (by decide) ?_
  refine jr_ialdn 1 dX0_gather_58 hq.2.1 (jm_inD (by decide)) rfl ?_
  refine jr_iadd dX0_gather_59 ?_
  refine jr_istore [some (.ref 32), some (.ref q), some (.int x2), some (.ref p3), some (.int x4), some (.int (r + (μ (q + 1) 1))), none, none] dX0_gather_60 rfl rfl rfl ?_
  refine jr_iload_n dX0_gather_62 rfl ?_
  refine jr_iconst (1 : Int32) dX0_gather_63 (by decide) ?_
  refine jr_iadd dX0_gather_64 ?_
  refine jr_istore [some (.ref 32), some (.ref q), some (.int x2), some (.ref p3), some (.int x4), some (.int (r + (μ (q + 1) 1))), some (.int (x2 + (1 : Int32))), none] dX0_gather_65 rfl rfl rfl ?_
  refine js_drop 2 [some (.ref 32), some (.ref q), none, some (.ref p3), some (.int x4), some (.int (r + (μ (q + 1) 1))), some (.int (x2 + (1 : Int32))), none] rfl ?_
  exact h

set_option maxRecDepth 100000 in
set_option maxHeartbeats 4000000 in
theorem sX0_gather_67 {g : jm_G} {ad : Nat → Nat} {κ : jm_K} {P : Option Value → (Nat → Nat → Int32) → Prop} (hE : jE g ad m_X0_gather P κ) {μ : Nat → Nat → Int32} (q : Nat) (hq : jm_Heard q) (p3 np3 : Nat) (hp3 : jm_GAM[p3]? = some (.inr (0, np3, none))) (x4 : Int32) (x5 : Int32) (x6 : Int32)
    (h : (((μ q 2) ≤ x6 →
    P none μ) ∧
    (¬ (μ q 2) ≤ x6 →
    jD g ad m_X3_timeOf [.ref q, .int x6] μ (fun v μ' => jS g ad m_X0_gather κ 82 [some (.ref 32), some (.ref q), none, some (.ref p3), some (.int x4), some (.int x5), some (.int x6), none] (jm_ps v []) μ')))) :
    jS g ad m_X0_gather κ 67 [some (.ref 32), some (.ref q), none, some (.ref p3), some (.int x4), some (.int x5), some (.int x6), none] [] μ := by
  refine jr_iload dX0_gather_67 rfl ?_
  refine jr_aload_n dX0_gather_69 rfl ?_
  refine jr_get 3 2 jf_RX0_42 dX0_gather_70 hq.1 rfl (.int (μ q 2)) rfl ?_
  obtain ⟨hA, hB⟩ := h
  refine jr_icmp_ge 157 dX0_gather_73 rfl (fun c => ?_) (fun c => ?_)
  · have h := hA c
    exact js_vret hE rfl dX0_gather_157 rfl h
  · have h := hB c
    refine jr_aload_n dX0_gather_76 rfl ?_
    refine jr_iload dX0_gather_77 rfl ?_
    refine js_callV (st := []) [.int x6] jc_RX0_59 rfl dX0_gather_79 hq.1 rfl rfl rfl rfl (kk := ?_)
    exact h

set_option maxRecDepth 100000 in
set_option maxHeartbeats 4000000 in
theorem sX0_gather_82 {g : jm_G} {ad : Nat → Nat} {κ : jm_K} {P : Option Value → (Nat → Nat → Int32) → Prop} (hE : jE g ad m_X0_gather P κ) {μ : Nat → Nat → Int32} (q : Nat) (hq : jm_Heard q) (p3 np3 : Nat) (hp3 : jm_GAM[p3]? = some (.inr (0, np3, none))) (x4 : Int32) (x5 : Int32) (x6 : Int32) (r : Int32)
    (h : ((x5 < r →
    P none μ) ∧
    (¬ x5 < r →
    jD g ad m_X3_earOf [.ref q, .int x6] μ (fun v μ' => jS g ad m_X0_gather κ 93 [some (.ref 32), some (.ref q), none, some (.ref p3), some (.int x4), some (.int x5), some (.int x6), none] (jm_ps v []) μ')))) :
    jS g ad m_X0_gather κ 82 [some (.ref 32), some (.ref q), none, some (.ref p3), some (.int x4), some (.int x5), some (.int x6), none] [.int r] μ := by
  refine jr_iload dX0_gather_82 rfl ?_
  obtain ⟨hA, hB⟩ := h
  refine jr_icmp_gt 157 dX0_gather_84 rfl (fun c => ?_) (fun c => ?_)
  · have h := hA c
    exact js_vret hE rfl dX0_gather_157 rfl h
  · have h := hB c
    refine jr_aload_n dX0_gather_87 rfl ?_
    refine jr_iload dX0_gather_88 rfl ?_
    refine js_callV (st := []) [.int x6] jc_RX0_92 rfl dX0_gather_90 hq.1 rfl rfl rfl rfl (kk := ?_)
    exact h

set_option maxRecDepth 100000 in
set_option maxHeartbeats 4000000 in
theorem sX0_gather_93 {g : jm_G} {ad : Nat → Nat} {κ : jm_K} {P : Option Value → (Nat → Nat → Int32) → Prop} (hE : jE g ad m_X0_gather P κ) {μ : Nat → Nat → Int32} (q : Nat) (hq : jm_Heard q) (p3 np3 : Nat) (hp3 : jm_GAM[p3]? = some (.inr (0, np3, none))) (x4 : Int32) (x5 : Int32) (x6 : Int32) (r : Int32)
    (h : ((r = x4 →
    jS g ad m_X0_gather κ 67 [some (.ref 32), some (.ref q), none, some (.ref p3), some (.int x4), some (.int x5), some (.int (x6 + 1)), none] [] μ) ∧
    (¬ r = x4 →
    vp_in x6 np3 ∧
    ((¬ (μ p3 x6.toNatClampNeg) = (-1 : Int32) →
    jS g ad m_X0_gather κ 67 [some (.ref 32), some (.ref q), none, some (.ref p3), some (.int x4), some (.int x5), some (.int (x6 + 1)), none] [] μ) ∧
    ((μ p3 x6.toNatClampNeg) = (-1 : Int32) →
    vp_in r 4 ∧
    (((2 : Int32) ≤ (μ 36 r.toNatClampNeg) →
    jS g ad m_X0_gather κ 67 [some (.ref 32), some (.ref q), none, some (.ref p3), some (.int x4), some (.int x5), some (.int (x6 + 1)), none] [] μ) ∧
    (¬ (2 : Int32) ≤ (μ 36 r.toNatClampNeg) →
    vp_in r 4 ∧
    vp_in ((r * (2 : Int32)) + (μ 36 r.toNatClampNeg)) 8 ∧
    (∀ μ5 : Nat → Nat → Int32, μ5 = jm_st μ 35 ((r * (2 : Int32)) + (μ 36 r.toNatClampNeg)).toNatClampNeg x6 →
    vp_in r 4 ∧
    vp_in r 4 ∧
    (∀ μ8 : Nat → Nat → Int32, μ8 = jm_st μ5 36 r.toNatClampNeg ((μ5 36 r.toNatClampNeg) + (1 : Int32)) →
    jS g ad m_X0_gather κ 67 [some (.ref 32), some (.ref q), none, some (.ref p3), some (.int x4), some (.int x5), some (.int (x6 + 1)), none] [] μ8))))))))) :
    jS g ad m_X0_gather κ 93 [some (.ref 32), some (.ref q), none, some (.ref p3), some (.int x4), some (.int x5), some (.int x6), none] [.int r] μ := by
  refine jr_istore [some (.ref 32), some (.ref q), none, some (.ref p3), some (.int x4), some (.int x5), some (.int x6), some (.int r)] dX0_gather_93 rfl rfl rfl ?_
  refine jr_iload dX0_gather_95 rfl ?_
  refine jr_iload dX0_gather_97 rfl ?_
  obtain ⟨hA, hB⟩ := h
  refine jr_icmp_eq 151 dX0_gather_99 rfl (fun c => ?_) (fun c => ?_)
  · have h := hA c
    refine jr_iinc [some (.ref 32), some (.ref q), none, some (.ref p3), some (.int x4), some (.int x5), some (.int (x6 + 1)), some (.int r)] dX0_gather_151 rfl rfl rfl rfl rfl ?_
    refine jr_goto 67 dX0_gather_154 rfl ?_
    refine js_drop 7 [some (.ref 32), some (.ref q), none, some (.ref p3), some (.int x4), some (.int x5), some (.int (x6 + 1)), none] rfl ?_
    exact h
  · have h := hB c
    refine jr_aload_n dX0_gather_102 rfl ?_
    refine jr_iload dX0_gather_103 rfl ?_
    obtain ⟨o1, h⟩ := h
    refine jr_ialdn _ dX0_gather_105 hp3 o1 rfl ?_
    refine jr_iconst (-1 : Int32) dX0_gather_106 (by decide) ?_
    obtain ⟨hA, hB⟩ := h
    refine jr_icmp_ne 151 dX0_gather_107 rfl (fun c => ?_) (fun c => ?_)
    · have h := hA c
      refine jr_iinc [some (.ref 32), some (.ref q), none, some (.ref p3), some (.int x4), some (.int x5), some (.int (x6 + 1)), some (.int r)] dX0_gather_151 rfl rfl rfl rfl rfl ?_
      refine jr_goto 67 dX0_gather_154 rfl ?_
      refine js_drop 7 [some (.ref 32), some (.ref q), none, some (.ref p3), some (.int x4), some (.int x5), some (.int (x6 + 1)), none] rfl ?_
      exact h
    · have h := hB c
      refine jr_aload_n dX0_gather_110 rfl ?_
      refine jr_get 0 2 jf_RX0_22 dX0_gather_111 ga_32 rfl (.ref 36) rfl ?_
      refine jr_iload dX0_gather_114 rfl ?_
      obtain ⟨o2, h⟩ := h
      refine jr_ialdn _ dX0_gather_116 ga_36 o2 rfl ?_
      refine jr_iconst (2 : Int32) dX0_gather_117 (by decide) ?_
      obtain ⟨hA, hB⟩ := h
      refine jr_icmp_ge 151 dX0_gather_118 rfl (fun c => ?_) (fun c => ?_)
      · have h := hA c
        refine jr_iinc [some (.ref 32), some (.ref q), none, some (.ref p3), some (.int x4), some (.int x5), some (.int (x6 + 1)), some (.int r)] dX0_gather_151 rfl rfl rfl rfl rfl ?_
        refine jr_goto 67 dX0_gather_154 rfl ?_
        refine js_drop 7 [some (.ref 32), some (.ref q), none, some (.ref p3), some (.int x4), some (.int x5), some (.int (x6 + 1)), none] rfl ?_
        exact h
      · have h := hB c
        refine jr_aload_n dX0_gather_121 rfl ?_
        refine jr_get 0 1 jf_RX0_18 dX0_gather_122 ga_32 rfl (.ref 35) rfl ?_
        refine jr_iload dX0_gather_125 rfl ?_
        refine jr_iconst (2 : Int32) dX0_gather_127 (by decide) ?_
        refine jr_imul dX0_gather_128 ?_
        refine jr_aload_n dX0_gather_129 rfl ?_
        refine jr_get 0 2 jf_RX0_22 dX0_gather_130 ga_32 rfl (.ref 36) rfl ?_
        refine jr_iload dX0_gather_133 rfl ?_
        obtain ⟨o3, h⟩ := h
        refine jr_ialdn _ dX0_gather_135 ga_36 o3 rfl ?_
        refine jr_iadd dX0_gather_136 ?_
        refine jr_iload dX0_gather_137 rfl ?_
        obtain ⟨o4, h⟩ := h
        refine jr_iastn _ dX0_gather_139 ga_35 o4 rfl ?_
        obtain ⟨μ5, e5⟩ : ∃ x : Nat → Nat → Int32, x = jm_st μ 35 ((r * (2 : Int32)) + (μ 36 r.toNatClampNeg)).toNatClampNeg x6 := ⟨_, rfl⟩
        have h := h μ5 e5
        refine js_mem e5 ?_
        refine jr_aload_n dX0_gather_140 rfl ?_
        refine jr_get 0 2 jf_RX0_22 dX0_gather_141 ga_32 rfl (.ref 36) rfl ?_
        refine jr_iload dX0_gather_144 rfl ?_
        refine jr_dup2 dX0_gather_146 rfl rfl ?_
        obtain ⟨o6, h⟩ := h
        refine jr_ialdn _ dX0_gather_147 ga_36 o6 rfl ?_
        refine jr_iconst (1 : Int32) dX0_gather_148 (by decide) ?_
        refine jr_iadd dX0_gather_149 ?_
        obtain ⟨o7, h⟩ := h
        refine jr_iastn _ dX0_gather_150 ga_36 o7 rfl ?_
        obtain ⟨μ8, e8⟩ : ∃ x : Nat → Nat → Int32, x = jm_st μ5 36 r.toNatClampNeg ((μ5 36 r.toNatClampNeg) + (1 : Int32)) := ⟨_, rfl⟩
        have h := h μ8 e8
        refine js_mem e8 ?_
        refine jr_iinc [some (.ref 32), some (.ref q), none, some (.ref p3), some (.int x4), some (.int x5), some (.int (x6 + 1)), some (.int r)] dX0_gather_151 rfl rfl rfl rfl rfl ?_
        refine jr_goto 67 dX0_gather_154 rfl ?_
        refine js_drop 7 [some (.ref 32), some (.ref q), none, some (.ref p3), some (.int x4), some (.int x5), some (.int (x6 + 1)), none] rfl ?_
        exact h

set_option maxRecDepth 100000 in
set_option maxHeartbeats 4000000 in
theorem sX0_choose_0 {g : jm_G} {ad : Nat → Nat} {κ : jm_K} {P : Option Value → (Nat → Nat → Int32) → Prop} (hE : jE g ad m_X0_choose P κ) {μ : Nat → Nat → Int32} (q : Nat) (hq : jm_Heard q) (p2 : Int32)
    (h : jS g ad m_X0_choose κ 2 [some (.ref 32), some (.ref q), some (.int p2), some (.int (0 : Int32)), none] [] μ) :
    jS g ad m_X0_choose κ 0 [some (.ref 32), some (.ref q), some (.int p2), none, none] [] μ := by
  refine jr_iconst (0 : Int32) dX0_choose_0 (by decide) ?_
  refine jr_istore_n [some (.ref 32), some (.ref q), some (.int p2), some (.int (0 : Int32)), none] dX0_choose_1 rfl rfl rfl ?_
  exact h

set_option maxRecDepth 100000 in
set_option maxHeartbeats 4000000 in
theorem sX0_choose_2 {g : jm_G} {ad : Nat → Nat} {κ : jm_K} {P : Option Value → (Nat → Nat → Int32) → Prop} (hE : jE g ad m_X0_choose P κ) {μ : Nat → Nat → Int32} (q : Nat) (hq : jm_Heard q) (x2 : Int32) (x3 : Int32)
    (h : (((4 : Int32) ≤ x3 →
    P (some (.int (1 : Int32))) μ) ∧
    (¬ (4 : Int32) ≤ x3 →
    vp_in x3 4 ∧
    ((((x2 >>> (((3 : Int32) - x3) &&& 31)) &&& (1 : Int32)) < (μ 36 x3.toNatClampNeg) →
    vp_in ((x3 * (2 : Int32)) + ((x2 >>> (((3 : Int32) - x3) &&& 31)) &&& (1 : Int32))) 8 ∧
    vp_in x3 4 ∧
    (∀ μ4 : Nat → Nat → Int32, μ4 = jm_st μ 37 x3.toNatClampNeg (μ 35 ((x3 * (2 : Int32)) + ((x2 >>> (((3 : Int32) - x3) &&& 31)) &&& (1 : Int32))).toNatClampNeg) →
    vp_in x3 4 ∧
    jD g ad m_X3_timeOf [.ref q, .int (μ4 37 x3.toNatClampNeg)] μ4 (fun v μ' => jS g ad m_X0_choose κ 64 [some (.ref 32), some (.ref q), some (.int x2), some (.int x3), none] (jm_ps v [.int x3, .ref 34]) μ'))) ∧
    (¬ ((x2 >>> (((3 : Int32) - x3) &&& 31)) &&& (1 : Int32)) < (μ 36 x3.toNatClampNeg) →
    P (some (.int (0 : Int32))) μ))))) :
    jS g ad m_X0_choose κ 2 [some (.ref 32), some (.ref q), some (.int x2), some (.int x3), none] [] μ := by
  refine jr_iload_n dX0_choose_2 rfl ?_
  refine jr_iconst (4 : Int32) dX0_choose_3 (by decide) ?_
  obtain ⟨hA, hB⟩ := h
  refine jr_icmp_ge 71 dX0_choose_4 rfl (fun c => ?_) (fun c => ?_)
  · have h := hA c
    refine jr_iconst (1 : Int32) dX0_choose_71 (by decide) ?_
    exact js_zret hE rfl dX0_choose_72 rfl (by decide) h
  · have h := hB c
    refine jr_iload_n dX0_choose_7 rfl ?_
    refine jr_iconst (3 : Int32) dX0_choose_8 (by decide) ?_
    refine jr_iload_n dX0_choose_9 rfl ?_
    refine jr_isub dX0_choose_10 ?_
    refine jr_ishr dX0_choose_11 ?_
    refine jr_iconst (1 : Int32) dX0_choose_12 (by decide) ?_
    refine jr_iand dX0_choose_13 ?_
    refine jr_istore [some (.ref 32), some (.ref q), some (.int x2), some (.int x3), some (.int ((x2 >>> (((3 : Int32) - x3) &&& 31)) &&& (1 : Int32)))] dX0_choose_14 rfl rfl rfl ?_
    refine jr_iload dX0_choose_16 rfl ?_
    refine jr_aload_n dX0_choose_18 rfl ?_
    refine jr_get 0 2 jf_RX0_22 dX0_choose_19 ga_32 rfl (.ref 36) rfl ?_
    refine jr_iload_n dX0_choose_22 rfl ?_
    obtain ⟨o1, h⟩ := h
    refine jr_ialdn _ dX0_choose_23 ga_36 o1 rfl ?_
    obtain ⟨hA, hB⟩ := h
    refine jr_icmp_lt 29 dX0_choose_24 rfl (fun c => ?_) (fun c => ?_)
    · have h := hA c
      refine jr_aload_n dX0_choose_29 rfl ?_
      refine jr_get 0 3 jf_RX0_25 dX0_choose_30 ga_32 rfl (.ref 37) rfl ?_
      refine jr_iload_n dX0_choose_33 rfl ?_
      refine jr_aload_n dX0_choose_34 rfl ?_
      refine jr_get 0 1 jf_RX0_18 dX0_choose_35 ga_32 rfl (.ref 35) rfl ?_
      refine jr_iload_n dX0_choose_38 rfl ?_
      refine jr_iconst (2 : Int32) dX0_choose_39 (by decide) ?_
      refine jr_imul dX0_choose_40 ?_
      refine jr_iload dX0_choose_41 rfl ?_
      refine jr_iadd dX0_choose_43 ?_
      obtain ⟨o2, h⟩ := h
      refine jr_ialdn _ dX0_choose_44 ga_35 o2 rfl ?_
      obtain ⟨o3, h⟩ := h
      refine jr_iastn _ dX0_choose_45 ga_37 o3 rfl ?_
      obtain ⟨μ4, e4⟩ : ∃ x : Nat → Nat → Int32, x = jm_st μ 37 x3.toNatClampNeg (μ 35 ((x3 * (2 : Int32)) + ((x2 >>> (((3 : Int32) - x3) &&& 31)) &&& (1 : Int32))).toNatClampNeg) := ⟨_, rfl⟩
      have h := h μ4 e4
      refine js_mem e4 ?_
      refine jr_aload_n dX0_choose_46 rfl ?_
      refine jr_get 0 0 jf_RX0_12 dX0_choose_47 ga_32 rfl (.ref 33) rfl ?_
      refine jr_get 1 0 jf_RX0_51 dX0_choose_50 ga_33 rfl (.ref 34) rfl ?_
      refine jr_iload_n dX0_choose_53 rfl ?_
      refine jr_aload_n dX0_choose_54 rfl ?_
      refine jr_aload_n dX0_choose_55 rfl ?_
      refine jr_get 0 3 jf_RX0_25 dX0_choose_56 ga_32 rfl (.ref 37) rfl ?_
      refine jr_iload_n dX0_choose_59 rfl ?_
      obtain ⟨o5, h⟩ := h
      refine jr_ialdn _ dX0_choose_60 ga_37 o5 rfl ?_
      refine js_drop 4 [some (.ref 32), some (.ref q), some (.int x2), some (.int x3), none] rfl ?_
      refine js_callV (st := [.int x3, .ref 34]) [.int (μ4 37 x3.toNatClampNeg)] jc_RX0_59 rfl dX0_choose_61 hq.1 rfl rfl rfl rfl (kk := ?_)
      exact h
    · have h := hB c
      refine jr_iconst (0 : Int32) dX0_choose_27 (by decide) ?_
      exact js_zret hE rfl dX0_choose_28 rfl (by decide) h

set_option maxRecDepth 100000 in
set_option maxHeartbeats 4000000 in
theorem sX0_choose_64 {g : jm_G} {ad : Nat → Nat} {κ : jm_K} {P : Option Value → (Nat → Nat → Int32) → Prop} (hE : jE g ad m_X0_choose P κ) {μ : Nat → Nat → Int32} (q : Nat) (hq : jm_Heard q) (x2 : Int32) (x3 : Int32) (r : Int32) (y1 : Int32)
    (h : vp_in y1 4 ∧
    (∀ μ2 : Nat → Nat → Int32, μ2 = jm_st μ 34 y1.toNatClampNeg r →
    jS g ad m_X0_choose κ 2 [some (.ref 32), some (.ref q), some (.int x2), some (.int (x3 + 1)), none] [] μ2)) :
    jS g ad m_X0_choose κ 64 [some (.ref 32), some (.ref q), some (.int x2), some (.int x3), none] [.int r, .int y1, .ref 34] μ := by
  obtain ⟨o1, h⟩ := h
  refine jr_iastn _ dX0_choose_64 ga_34 o1 rfl ?_
  obtain ⟨μ2, e2⟩ : ∃ x : Nat → Nat → Int32, x = jm_st μ 34 y1.toNatClampNeg r := ⟨_, rfl⟩
  have h := h μ2 e2
  refine js_mem e2 ?_
  refine jr_iinc [some (.ref 32), some (.ref q), some (.int x2), some (.int (x3 + 1)), none] dX0_choose_65 rfl rfl rfl rfl rfl ?_
  refine jr_goto 2 dX0_choose_68 rfl ?_
  exact h

set_option maxRecDepth 100000 in
set_option maxHeartbeats 4000000 in
theorem sX1_search_0 {g : jm_G} {ad : Nat → Nat} {κ : jm_K} {P : Option Value → (Nat → Nat → Int32) → Prop} (hE : jE g ad m_X1_search P κ) {μ : Nat → Nat → Int32}  (p2 : Int32)
    (h : (∀ μ1 : Nat → Nat → Int32, μ1 = jm_st μ 33 3 p2 →
    (∀ μ2 : Nat → Nat → Int32, μ2 = jm_st μ1 33 2 (-1 : Int32) →
    jS g ad m_X1_search κ 49 [some (.ref 33), some (.ref 29), none, some (.int ((μ2 34 0) - (μ2 34 2))), some (.int ((μ2 34 1) - (μ2 34 3))), some (.int (0 : Int32)), some (.int (40 : Int32)), some (.int (0 : Int32)), none, none] [] μ2))) :
    jS g ad m_X1_search κ 0 [some (.ref 33), some (.ref 29), some (.int p2), none, none, none, none, none, none, none] [] μ := by
  refine jr_aload_n dX1_search_0 rfl ?_
  refine jr_iload_n dX1_search_1 rfl ?_
  refine jr_putI 1 3 jf_RX1_15 dX1_search_2 ga_33 rfl ?_
  obtain ⟨μ1, e1⟩ : ∃ x : Nat → Nat → Int32, x = jm_st μ 33 3 p2 := ⟨_, rfl⟩
  have h := h μ1 e1
  refine js_mem e1 ?_
  refine jr_aload_n dX1_search_5 rfl ?_
  refine jr_iconst (-1 : Int32) dX1_search_6 (by decide) ?_
  refine jr_putI 1 2 jf_RX1_19 dX1_search_7 ga_33 rfl ?_
  obtain ⟨μ2, e2⟩ : ∃ x : Nat → Nat → Int32, x = jm_st μ1 33 2 (-1 : Int32) := ⟨_, rfl⟩
  have h := h μ2 e2
  refine js_mem e2 ?_
  refine jr_aload_n dX1_search_10 rfl ?_
  refine jr_get 1 0 jf_RX1_9 dX1_search_11 ga_33 rfl (.ref 34) rfl ?_
  refine jr_iconst (0 : Int32) dX1_search_14 (by decide) ?_
  refine jr_ialdn 0 dX1_search_15 ga_34 (jm_inD (by decide)) rfl ?_
  refine jr_aload_n dX1_search_16 rfl ?_
  refine jr_get 1 0 jf_RX1_9 dX1_search_17 ga_33 rfl (.ref 34) rfl ?_
  refine jr_iconst (2 : Int32) dX1_search_20 (by decide) ?_
  refine jr_ialdn 2 dX1_search_21 ga_34 (jm_inD (by decide)) rfl ?_
  refine jr_isub dX1_search_22 ?_
  refine jr_istore_n [some (.ref 33), some (.ref 29), some (.int p2), some (.int ((μ2 34 0) - (μ2 34 2))), none, none, none, none, none, none] dX1_search_23 rfl rfl rfl ?_
  refine jr_aload_n dX1_search_24 rfl ?_
  refine jr_get 1 0 jf_RX1_9 dX1_search_25 ga_33 rfl (.ref 34) rfl ?_
  refine jr_iconst (1 : Int32) dX1_search_28 (by decide) ?_
  refine jr_ialdn 1 dX1_search_29 ga_34 (jm_inD (by decide)) rfl ?_
  refine jr_aload_n dX1_search_30 rfl ?_
  refine jr_get 1 0 jf_RX1_9 dX1_search_31 ga_33 rfl (.ref 34) rfl ?_
  refine jr_iconst (3 : Int32) dX1_search_34 (by decide) ?_
  refine jr_ialdn 3 dX1_search_35 ga_34 (jm_inD (by decide)) rfl ?_
  refine jr_isub dX1_search_36 ?_
  refine jr_istore [some (.ref 33), some (.ref 29), some (.int p2), some (.int ((μ2 34 0) - (μ2 34 2))), some (.int ((μ2 34 1) - (μ2 34 3))), none, none, none, none, none] dX1_search_37 rfl rfl rfl ?_
  refine jr_iconst (0 : Int32) dX1_search_39 (by decide) ?_
  refine jr_istore [some (.ref 33), some (.ref 29), some (.int p2), some (.int ((μ2 34 0) - (μ2 34 2))), some (.int ((μ2 34 1) - (μ2 34 3))), some (.int (0 : Int32)), none, none, none, none] dX1_search_40 rfl rfl rfl ?_
  refine jr_bipush (40 : Int32) dX1_search_42 (by decide) ?_
  refine jr_istore [some (.ref 33), some (.ref 29), some (.int p2), some (.int ((μ2 34 0) - (μ2 34 2))), some (.int ((μ2 34 1) - (μ2 34 3))), some (.int (0 : Int32)), some (.int (40 : Int32)), none, none, none] dX1_search_44 rfl rfl rfl ?_
  refine jr_iconst (0 : Int32) dX1_search_46 (by decide) ?_
  refine jr_istore [some (.ref 33), some (.ref 29), some (.int p2), some (.int ((μ2 34 0) - (μ2 34 2))), some (.int ((μ2 34 1) - (μ2 34 3))), some (.int (0 : Int32)), some (.int (40 : Int32)), some (.int (0 : Int32)), none, none] dX1_search_47 rfl rfl rfl ?_
  refine js_drop 2 [some (.ref 33), some (.ref 29), none, some (.int ((μ2 34 0) - (μ2 34 2))), some (.int ((μ2 34 1) - (μ2 34 3))), some (.int (0 : Int32)), some (.int (40 : Int32)), some (.int (0 : Int32)), none, none] rfl ?_
  exact h

set_option maxRecDepth 100000 in
set_option maxHeartbeats 4000000 in
theorem sX1_search_49 {g : jm_G} {ad : Nat → Nat} {κ : jm_K} {P : Option Value → (Nat → Nat → Int32) → Prop} (hE : jE g ad m_X1_search P κ) {μ : Nat → Nat → Int32}  (x3 : Int32) (x4 : Int32) (x5 : Int32) (x6 : Int32) (x7 : Int32)
    (h : (((40 : Int32) < x7 →
    (((μ 33 2) = (-1 : Int32) →
    P (some (.int (0 : Int32))) μ) ∧
    (¬ (μ 33 2) = (-1 : Int32) →
    P (some (.int (1 : Int32))) μ))) ∧
    (¬ (40 : Int32) < x7 →
    ((x6 < x5 →
    (((μ 33 2) = (-1 : Int32) →
    P (some (.int (0 : Int32))) μ) ∧
    (¬ (μ 33 2) = (-1 : Int32) →
    P (some (.int (1 : Int32))) μ))) ∧
    (¬ x6 < x5 →
    jS g ad m_X1_search κ 63 [some (.ref 33), some (.ref 29), none, some (.int x3), some (.int x4), some (.int x5), some (.int x6), some (.int x7), none, none] [] μ))))) :
    jS g ad m_X1_search κ 49 [some (.ref 33), some (.ref 29), none, some (.int x3), some (.int x4), some (.int x5), some (.int x6), some (.int x7), none, none] [] μ := by
  refine jr_iload dX1_search_49 rfl ?_
  refine jr_bipush (40 : Int32) dX1_search_51 (by decide) ?_
  obtain ⟨hA, hB⟩ := h
  refine jr_icmp_gt 247 dX1_search_53 rfl (fun c => ?_) (fun c => ?_)
  · have h := hA c
    refine jr_aload_n dX1_search_247 rfl ?_
    refine jr_get 1 2 jf_RX1_19 dX1_search_248 ga_33 rfl (.int (μ 33 2)) rfl ?_
    refine jr_iconst (-1 : Int32) dX1_search_251 (by decide) ?_
    obtain ⟨hA, hB⟩ := h
    refine jr_icmp_eq 259 dX1_search_252 rfl (fun c => ?_) (fun c => ?_)
    · have h := hA c
      refine jr_iconst (0 : Int32) dX1_search_259 (by decide) ?_
      exact js_zret hE rfl dX1_search_260 rfl (by decide) h
    · have h := hB c
      refine jr_iconst (1 : Int32) dX1_search_255 (by decide) ?_
      refine jr_goto 260 dX1_search_256 rfl ?_
      exact js_zret hE rfl dX1_search_260 rfl (by decide) h
  · have h := hB c
    refine jr_iload dX1_search_56 rfl ?_
    refine jr_iload dX1_search_58 rfl ?_
    obtain ⟨hA, hB⟩ := h
    refine jr_icmp_gt 247 dX1_search_60 rfl (fun c => ?_) (fun c => ?_)
    · have h := hA c
      refine jr_aload_n dX1_search_247 rfl ?_
      refine jr_get 1 2 jf_RX1_19 dX1_search_248 ga_33 rfl (.int (μ 33 2)) rfl ?_
      refine jr_iconst (-1 : Int32) dX1_search_251 (by decide) ?_
      obtain ⟨hA, hB⟩ := h
      refine jr_icmp_eq 259 dX1_search_252 rfl (fun c => ?_) (fun c => ?_)
      · have h := hA c
        refine jr_iconst (0 : Int32) dX1_search_259 (by decide) ?_
        exact js_zret hE rfl dX1_search_260 rfl (by decide) h
      · have h := hB c
        refine jr_iconst (1 : Int32) dX1_search_255 (by decide) ?_
        refine jr_goto 260 dX1_search_256 rfl ?_
        exact js_zret hE rfl dX1_search_260 rfl (by decide) h
    · have h := hB c
      exact h

set_option maxRecDepth 100000 in
set_option maxHeartbeats 4000000 in
theorem sX1_search_63 {g : jm_G} {ad : Nat → Nat} {κ : jm_K} {P : Option Value → (Nat → Nat → Int32) → Prop} (hE : jE g ad m_X1_search P κ) {μ : Nat → Nat → Int32}  (x3 : Int32) (x4 : Int32) (x5 : Int32) (x6 : Int32) (x7 : Int32)
    (h : ((x6 < 0 →
    jS g ad m_X1_search κ 92 [some (.ref 33), some (.ref 29), none, some (.int x3), some (.int x4), some (.int x5), some (.int x6), some (.int x7), none, none] [] μ) ∧
    (¬ x6 < 0 →
    jD g ad m_X2_lag [.ref 29, .int x6, .int x7] μ (fun v μ' => jS g ad m_X1_search κ 77 [some (.ref 33), some (.ref 29), none, some (.int x3), some (.int x4), some (.int x5), some (.int x6), some (.int x7), none, none] (jm_ps v [.int x3]) μ')))) :
    jS g ad m_X1_search κ 63 [some (.ref 33), some (.ref 29), none, some (.int x3), some (.int x4), some (.int x5), some (.int x6), some (.int x7), none, none] [] μ := by
  refine jr_iload dX1_search_63 rfl ?_
  obtain ⟨hA, hB⟩ := h
  refine jr_if_lt 92 dX1_search_65 rfl (fun c => ?_) (fun c => ?_)
  · have h := hA c
    exact h
  · have h := hB c
    refine jr_iload_n dX1_search_68 rfl ?_
    refine jr_aload_n dX1_search_69 rfl ?_
    refine jr_iload dX1_search_70 rfl ?_
    refine jr_iload dX1_search_72 rfl ?_
    refine js_callV (st := [.int x3]) [.int x6, .int x7] jc_RX1_22 rfl dX1_search_74 ga_29 rfl rfl rfl rfl (kk := ?_)
    exact h

set_option maxRecDepth 100000 in
set_option maxHeartbeats 4000000 in
theorem sX1_search_92 {g : jm_G} {ad : Nat → Nat} {κ : jm_K} {P : Option Value → (Nat → Nat → Int32) → Prop} (hE : jE g ad m_X1_search P κ) {μ : Nat → Nat → Int32}  (x3 : Int32) (x4 : Int32) (x5 : Int32) (x6 : Int32) (x7 : Int32)
    (h : ((x6 < x5 →
    jS g ad m_X1_search κ 131 [some (.ref 33), some (.ref 29), none, some (.int x3), some (.int x4), some (.int x5), some (.int x6), some (.int x7), some (.int x6), none] [] μ) ∧
    (¬ x6 < x5 →
    jD g ad m_X2_lag [.ref 29, .int ((40 : Int32) - x5), .int x7] μ (fun v μ' => jS g ad m_X1_search κ 112 [some (.ref 33), some (.ref 29), none, some (.int x3), some (.int x4), some (.int x5), some (.int x6), some (.int x7), none, none] (jm_ps v [.int x4]) μ')))) :
    jS g ad m_X1_search κ 92 [some (.ref 33), some (.ref 29), none, some (.int x3), some (.int x4), some (.int x5), some (.int x6), some (.int x7), none, none] [] μ := by
  refine jr_iload dX1_search_92 rfl ?_
  refine jr_iload dX1_search_94 rfl ?_
  obtain ⟨hA, hB⟩ := h
  refine jr_icmp_gt 127 dX1_search_96 rfl (fun c => ?_) (fun c => ?_)
  · have h := hA c
    refine jr_iload dX1_search_127 rfl ?_
    refine jr_istore [some (.ref 33), some (.ref 29), none, some (.int x3), some (.int x4), some (.int x5), some (.int x6), some (.int x7), some (.int x6), none] dX1_search_129 rfl rfl rfl ?_
    exact h
  · have h := hB c
    refine jr_iload dX1_search_99 rfl ?_
    refine jr_aload_n dX1_search_101 rfl ?_
    refine jr_bipush (40 : Int32) dX1_search_102 (by decide) ?_
    refine jr_iload dX1_search_104 rfl ?_
    refine jr_isub dX1_search_106 ?_
    refine jr_iload dX1_search_107 rfl ?_
    refine js_callV (st := [.int x4]) [.int ((40 : Int32) - x5), .int x7] jc_RX1_22 rfl dX1_search_109 ga_29 rfl rfl rfl rfl (kk := ?_)
    exact h

set_option maxRecDepth 100000 in
set_option maxHeartbeats 4000000 in
theorem sX1_search_77 {g : jm_G} {ad : Nat → Nat} {κ : jm_K} {P : Option Value → (Nat → Nat → Int32) → Prop} (hE : jE g ad m_X1_search P κ) {μ : Nat → Nat → Int32}  (x3 : Int32) (x4 : Int32) (x5 : Int32) (x6 : Int32) (x7 : Int32) (r : Int32) (y1 : Int32)
    (h : (((-(μ 33 3)) ≤ (y1 - r) →
    jS g ad m_X1_search κ 92 [some (.ref 33), some (.ref 29), none, some (.int x3), some (.int x4), some (.int x5), some (.int x6), some (.int x7), none, none] [] μ) ∧
    (¬ (-(μ 33 3)) ≤ (y1 - r) →
    jS g ad m_X1_search κ 63 [some (.ref 33), some (.ref 29), none, some (.int x3), some (.int x4), some (.int x5), some (.int (x6 + (-1))), some (.int x7), none, none] [] μ))) :
    jS g ad m_X1_search κ 77 [some (.ref 33), some (.ref 29), none, some (.int x3), some (.int x4), some (.int x5), some (.int x6), some (.int x7), none, none] [.int r, .int y1] μ := by
  refine jr_isub dX1_search_77 ?_
  refine jr_aload_n dX1_search_78 rfl ?_
  refine jr_get 1 3 jf_RX1_15 dX1_search_79 ga_33 rfl (.int (μ 33 3)) rfl ?_
  refine jr_ineg dX1_search_82 ?_
  obtain ⟨hA, hB⟩ := h
  refine jr_icmp_ge 92 dX1_search_83 rfl (fun c => ?_) (fun c => ?_)
  · have h := hA c
    exact h
  · have h := hB c
    refine jr_iinc [some (.ref 33), some (.ref 29), none, some (.int x3), some (.int x4), some (.int x5), some (.int (x6 + (-1))), some (.int x7), none, none] dX1_search_86 rfl rfl rfl rfl rfl ?_
    refine jr_goto 63 dX1_search_89 rfl ?_
    exact h

set_option maxRecDepth 100000 in
set_option maxHeartbeats 4000000 in
theorem sX1_search_131 {g : jm_G} {ad : Nat → Nat} {κ : jm_K} {P : Option Value → (Nat → Nat → Int32) → Prop} (hE : jE g ad m_X1_search P κ) {μ : Nat → Nat → Int32}  (x3 : Int32) (x4 : Int32) (x5 : Int32) (x6 : Int32) (x7 : Int32) (x8 : Int32)
    (h : ((x8 < x5 →
    jS g ad m_X1_search κ 49 [some (.ref 33), some (.ref 29), none, some (.int x3), some (.int x4), some (.int x5), some (.int x6), some (.int (x7 + 1)), none, none] [] μ) ∧
    (¬ x8 < x5 →
    jD g ad m_X2_lag [.ref 29, .int x8, .int x7] μ (fun v μ' => jS g ad m_X1_search κ 147 [some (.ref 33), some (.ref 29), none, some (.int x3), some (.int x4), some (.int x5), some (.int x6), some (.int x7), some (.int x8), none] (jm_ps v [.int x3]) μ')))) :
    jS g ad m_X1_search κ 131 [some (.ref 33), some (.ref 29), none, some (.int x3), some (.int x4), some (.int x5), some (.int x6), some (.int x7), some (.int x8), none] [] μ := by
  refine jr_iload dX1_search_131 rfl ?_
  refine jr_iload dX1_search_133 rfl ?_
  obtain ⟨hA, hB⟩ := h
  refine jr_icmp_lt 241 dX1_search_135 rfl (fun c => ?_) (fun c => ?_)
  · have h := hA c
    refine jr_iinc [some (.ref 33), some (.ref 29), none, some (.int x3), some (.int x4), some (.int x5), some (.int x6), some (.int (x7 + 1)), some (.int x8), none] dX1_search_241 rfl rfl rfl rfl rfl ?_
    refine jr_goto 49 dX1_search_244 rfl ?_
    refine js_drop 8 [some (.ref 33), some (.ref 29), none, some (.int x3), some (.int x4), some (.int x5), some (.int x6), some (.int (x7 + 1)), none, none] rfl ?_
    exact h
  · have h := hB c
    refine jr_iload_n dX1_search_138 rfl ?_
    refine jr_aload_n dX1_search_139 rfl ?_
    refine jr_iload dX1_search_140 rfl ?_
    refine jr_iload dX1_search_142 rfl ?_
    refine js_callV (st := [.int x3]) [.int x8, .int x7] jc_RX1_22 rfl dX1_search_144 ga_29 rfl rfl rfl rfl (kk := ?_)
    exact h

set_option maxRecDepth 100000 in
set_option maxHeartbeats 4000000 in
theorem sX1_search_112 {g : jm_G} {ad : Nat → Nat} {κ : jm_K} {P : Option Value → (Nat → Nat → Int32) → Prop} (hE : jE g ad m_X1_search P κ) {μ : Nat → Nat → Int32}  (x3 : Int32) (x4 : Int32) (x5 : Int32) (x6 : Int32) (x7 : Int32) (r : Int32) (y1 : Int32)
    (h : (((-(μ 33 3)) ≤ (y1 - r) →
    jS g ad m_X1_search κ 131 [some (.ref 33), some (.ref 29), none, some (.int x3), some (.int x4), some (.int x5), some (.int x6), some (.int x7), some (.int x6), none] [] μ) ∧
    (¬ (-(μ 33 3)) ≤ (y1 - r) →
    jS g ad m_X1_search κ 92 [some (.ref 33), some (.ref 29), none, some (.int x3), some (.int x4), some (.int (x5 + 1)), some (.int x6), some (.int x7), none, none] [] μ))) :
    jS g ad m_X1_search κ 112 [some (.ref 33), some (.ref 29), none, some (.int x3), some (.int x4), some (.int x5), some (.int x6), some (.int x7), none, none] [.int r, .int y1] μ := by
  refine jr_isub dX1_search_112 ?_
  refine jr_aload_n dX1_search_113 rfl ?_
  refine jr_get 1 3 jf_RX1_15 dX1_search_114 ga_33 rfl (.int (μ 33 3)) rfl ?_
  refine jr_ineg dX1_search_117 ?_
  obtain ⟨hA, hB⟩ := h
  refine jr_icmp_ge 127 dX1_search_118 rfl (fun c => ?_) (fun c => ?_)
  · have h := hA c
    refine jr_iload dX1_search_127 rfl ?_
    refine jr_istore [some (.ref 33), some (.ref 29), none, some (.int x3), some (.int x4), some (.int x5), some (.int x6), some (.int x7), some (.int x6), none] dX1_search_129 rfl rfl rfl ?_
    exact h
  · have h := hB c
    refine jr_iinc [some (.ref 33), some (.ref 29), none, some (.int x3), some (.int x4), some (.int (x5 + 1)), some (.int x6), some (.int x7), none, none] dX1_search_121 rfl rfl rfl rfl rfl ?_
    refine jr_goto 92 dX1_search_124 rfl ?_
    exact h

set_option maxRecDepth 100000 in
set_option maxHeartbeats 4000000 in
theorem sX1_search_147 {g : jm_G} {ad : Nat → Nat} {κ : jm_K} {P : Option Value → (Nat → Nat → Int32) → Prop} (hE : jE g ad m_X1_search P κ) {μ : Nat → Nat → Int32}  (x3 : Int32) (x4 : Int32) (x5 : Int32) (x6 : Int32) (x7 : Int32) (x8 : Int32) (r : Int32) (y1 : Int32)
    (h : (((μ 33 3) < (y1 - r) →
    jS g ad m_X1_search κ 49 [some (.ref 33), some (.ref 29), none, some (.int x3), some (.int x4), some (.int x5), some (.int x6), some (.int (x7 + 1)), none, none] [] μ) ∧
    (¬ (μ 33 3) < (y1 - r) →
    jD g ad m_X2_lag [.ref 29, .int ((40 : Int32) - x8), .int x7] μ (fun v μ' => jS g ad m_X1_search κ 168 [some (.ref 33), some (.ref 29), none, some (.int x3), some (.int x4), some (.int x5), some (.int x6), some (.int x7), some (.int x8), none] (jm_ps v [.int x4]) μ')))) :
    jS g ad m_X1_search κ 147 [some (.ref 33), some (.ref 29), none, some (.int x3), some (.int x4), some (.int x5), some (.int x6), some (.int x7), some (.int x8), none] [.int r, .int y1] μ := by
  refine jr_isub dX1_search_147 ?_
  refine jr_aload_n dX1_search_148 rfl ?_
  refine jr_get 1 3 jf_RX1_15 dX1_search_149 ga_33 rfl (.int (μ 33 3)) rfl ?_
  obtain ⟨hA, hB⟩ := h
  refine jr_icmp_gt 241 dX1_search_152 rfl (fun c => ?_) (fun c => ?_)
  · have h := hA c
    refine jr_iinc [some (.ref 33), some (.ref 29), none, some (.int x3), some (.int x4), some (.int x5), some (.int x6), some (.int (x7 + 1)), some (.int x8), none] dX1_search_241 rfl rfl rfl rfl rfl ?_
    refine jr_goto 49 dX1_search_244 rfl ?_
    refine js_drop 8 [some (.ref 33), some (.ref 29), none, some (.int x3), some (.int x4), some (.int x5), some (.int x6), some (.int (x7 + 1)), none, none] rfl ?_
    exact h
  · have h := hB c
    refine jr_iload dX1_search_155 rfl ?_
    refine jr_aload_n dX1_search_157 rfl ?_
    refine jr_bipush (40 : Int32) dX1_search_158 (by decide) ?_
    refine jr_iload dX1_search_160 rfl ?_
    refine jr_isub dX1_search_162 ?_
    refine jr_iload dX1_search_163 rfl ?_
    refine js_callV (st := [.int x4]) [.int ((40 : Int32) - x8), .int x7] jc_RX1_22 rfl dX1_search_165 ga_29 rfl rfl rfl rfl (kk := ?_)
    exact h

set_option maxRecDepth 100000 in
set_option maxHeartbeats 4000000 in
theorem sX1_search_168 {g : jm_G} {ad : Nat → Nat} {κ : jm_K} {P : Option Value → (Nat → Nat → Int32) → Prop} (hE : jE g ad m_X1_search P κ) {μ : Nat → Nat → Int32}  (x3 : Int32) (x4 : Int32) (x5 : Int32) (x6 : Int32) (x7 : Int32) (x8 : Int32) (r : Int32) (y1 : Int32)
    (h : (((y1 - r) ≤ (μ 33 3) →
    jD g ad m_X1_spreadAt [.ref 33, .ref 29, .int x8, .int x7] μ (fun v μ' => jS g ad m_X1_search κ 188 [some (.ref 33), some (.ref 29), none, some (.int x3), some (.int x4), some (.int x5), some (.int x6), some (.int x7), some (.int x8), none] (jm_ps v []) μ')) ∧
    (¬ (y1 - r) ≤ (μ 33 3) →
    jS g ad m_X1_search κ 131 [some (.ref 33), some (.ref 29), none, some (.int x3), some (.int x4), some (.int x5), some (.int x6), some (.int x7), some (.int (x8 + (-1))), none] [] μ))) :
    jS g ad m_X1_search κ 168 [some (.ref 33), some (.ref 29), none, some (.int x3), some (.int x4), some (.int x5), some (.int x6), some (.int x7), some (.int x8), none] [.int r, .int y1] μ := by
  refine jr_isub dX1_search_168 ?_
  refine jr_aload_n dX1_search_169 rfl ?_
  refine jr_get 1 3 jf_RX1_15 dX1_search_170 ga_33 rfl (.int (μ 33 3)) rfl ?_
  obtain ⟨hA, hB⟩ := h
  refine jr_icmp_le 179 dX1_search_173 rfl (fun c => ?_) (fun c => ?_)
  · have h := hA c
    refine jr_aload_n dX1_search_179 rfl ?_
    refine jr_aload_n dX1_search_180 rfl ?_
    refine jr_iload dX1_search_181 rfl ?_
    refine jr_iload dX1_search_183 rfl ?_
    refine js_callV (st := []) [.ref 29, .int x8, .int x7] jc_RX1_28 rfl dX1_search_185 ga_33 rfl rfl rfl rfl (kk := ?_)
    exact h
  · have h := hB c
    refine jr_goto 235 dX1_search_176 rfl ?_
    refine jr_iinc [some (.ref 33), some (.ref 29), none, some (.int x3), some (.int x4), some (.int x5), some (.int x6), some (.int x7), some (.int (x8 + (-1))), none] dX1_search_235 rfl rfl rfl rfl rfl ?_
    refine jr_goto 131 dX1_search_238 rfl ?_
    exact h

set_option maxRecDepth 100000 in
set_option maxHeartbeats 4000000 in
theorem sX1_search_188 {g : jm_G} {ad : Nat → Nat} {κ : jm_K} {P : Option Value → (Nat → Nat → Int32) → Prop} (hE : jE g ad m_X1_search P κ) {μ : Nat → Nat → Int32}  (x3 : Int32) (x4 : Int32) (x5 : Int32) (x6 : Int32) (x7 : Int32) (x8 : Int32) (r : Int32)
    (h : ((r < (μ 33 3) →
    (∀ μ1 : Nat → Nat → Int32, μ1 = jm_st μ 33 1 x8 →
    (∀ μ2 : Nat → Nat → Int32, μ2 = jm_st μ1 33 2 x7 →
    (∀ μ3 : Nat → Nat → Int32, μ3 = jm_st μ2 33 3 r →
    jS g ad m_X1_search κ 131 [some (.ref 33), some (.ref 29), none, some (.int x3), some (.int x4), some (.int x5), some (.int x6), some (.int x7), some (.int (x8 + (-1))), none] [] μ3)))) ∧
    (¬ r < (μ 33 3) →
    ((¬ r = (μ 33 3) →
    jS g ad m_X1_search κ 131 [some (.ref 33), some (.ref 29), none, some (.int x3), some (.int x4), some (.int x5), some (.int x6), some (.int x7), some (.int (x8 + (-1))), none] [] μ) ∧
    (r = (μ 33 3) →
    ((¬ x7 = (μ 33 2) →
    jS g ad m_X1_search κ 131 [some (.ref 33), some (.ref 29), none, some (.int x3), some (.int x4), some (.int x5), some (.int x6), some (.int x7), some (.int (x8 + (-1))), none] [] μ) ∧
    (x7 = (μ 33 2) →
    (∀ μ4 : Nat → Nat → Int32, μ4 = jm_st μ 33 1 x8 →
    (∀ μ5 : Nat → Nat → Int32, μ5 = jm_st μ4 33 2 x7 →
    (∀ μ6 : Nat → Nat → Int32, μ6 = jm_st μ5 33 3 r →
    jS g ad m_X1_search κ 131 [some (.ref 33), some (.ref 29), none, some (.int x3), some (.int x4), some (.int x5), some (.int x6), some (.int x7), some (.int (x8 + (-1))), none] [] μ6)))))))))) :
    jS g ad m_X1_search κ 188 [some (.ref 33), some (.ref 29), none, some (.int x3), some (.int x4), some (.int x5), some (.int x6), some (.int x7), some (.int x8), none] [.int r] μ := by
  refine jr_istore [some (.ref 33), some (.ref 29), none, some (.int x3), some (.int x4), some (.int x5), some (.int x6), some (.int x7), some (.int x8), some (.int r)] dX1_search_188 rfl rfl rfl ?_
  refine jr_iload dX1_search_190 rfl ?_
  refine jr_aload_n dX1_search_192 rfl ?_
  refine jr_get 1 3 jf_RX1_15 dX1_search_193 ga_33 rfl (.int (μ 33 3)) rfl ?_
  obtain ⟨hA, hB⟩ := h
  refine jr_icmp_lt 217 dX1_search_196 rfl (fun c => ?_) (fun c => ?_)
  · have h := hA c
    refine jr_aload_n dX1_search_217 rfl ?_
    refine jr_iload dX1_search_218 rfl ?_
    refine jr_putI 1 1 jf_RX1_32 dX1_search_220 ga_33 rfl ?_
    obtain ⟨μ1, e1⟩ : ∃ x : Nat → Nat → Int32, x = jm_st μ 33 1 x8 := ⟨_, rfl⟩
    have h := h μ1 e1
    refine js_mem e1 ?_
    refine jr_aload_n dX1_search_223 rfl ?_
    refine jr_iload dX1_search_224 rfl ?_
    refine jr_putI 1 2 jf_RX1_19 dX1_search_226 ga_33 rfl ?_
    obtain ⟨μ2, e2⟩ : ∃ x : Nat → Nat → Int32, x = jm_st μ1 33 2 x7 := ⟨_, rfl⟩
    have h := h μ2 e2
    refine js_mem e2 ?_
    refine jr_aload_n dX1_search_229 rfl ?_
    refine jr_iload dX1_search_230 rfl ?_
    refine jr_putI 1 3 jf_RX1_15 dX1_search_232 ga_33 rfl ?_
    obtain ⟨μ3, e3⟩ : ∃ x : Nat → Nat → Int32, x = jm_st μ2 33 3 r := ⟨_, rfl⟩
    have h := h μ3 e3
    refine js_mem e3 ?_
    refine jr_iinc [some (.ref 33), some (.ref 29), none, some (.int x3), some (.int x4), some (.int x5), some (.int x6), some (.int x7), some (.int (x8 + (-1))), some (.int r)] dX1_search_235 rfl rfl rfl rfl rfl ?_
    refine jr_goto 131 dX1_search_238 rfl ?_
    refine js_drop 9 [some (.ref 33), some (.ref 29), none, some (.int x3), some (.int x4), some (.int x5), some (.int x6), some (.int x7), some (.int (x8 + (-1))), none] rfl ?_
    exact h
  · have h := hB c
    refine jr_iload dX1_search_199 rfl ?_
    refine jr_aload_n dX1_search_201 rfl ?_
    refine jr_get 1 3 jf_RX1_15 dX1_search_202 ga_33 rfl (.int (μ 33 3)) rfl ?_
    obtain ⟨hA, hB⟩ := h
    refine jr_icmp_ne 235 dX1_search_205 rfl (fun c => ?_) (fun c => ?_)
    · have h := hA c
      refine jr_iinc [some (.ref 33), some (.ref 29), none, some (.int x3), some (.int x4), some (.int x5), some (.int x6), some (.int x7), some (.int (x8 + (-1))), some (.int r)] dX1_search_235 rfl rfl rfl rfl rfl ?_
      refine jr_goto 131 dX1_search_238 rfl ?_
      refine js_drop 9 [some (.ref 33), some (.ref 29), none, some (.int x3), some (.int x4), some (.int x5), some (.int x6), some (.int x7), some (.int (x8 + (-1))), none] rfl ?_
      exact h
    · have h := hB c
      refine jr_iload dX1_search_208 rfl ?_
      refine jr_aload_n dX1_search_210 rfl ?_
      refine jr_get 1 2 jf_RX1_19 dX1_search_211 ga_33 rfl (.int (μ 33 2)) rfl ?_
      obtain ⟨hA, hB⟩ := h
      refine jr_icmp_ne 235 dX1_search_214 rfl (fun c => ?_) (fun c => ?_)
      · have h := hA c
        refine jr_iinc [some (.ref 33), some (.ref 29), none, some (.int x3), some (.int x4), some (.int x5), some (.int x6), some (.int x7), some (.int (x8 + (-1))), some (.int r)] dX1_search_235 rfl rfl rfl rfl rfl ?_
        refine jr_goto 131 dX1_search_238 rfl ?_
        refine js_drop 9 [some (.ref 33), some (.ref 29), none, some (.int x3), some (.int x4), some (.int x5), some (.int x6), some (.int x7), some (.int (x8 + (-1))), none] rfl ?_
        exact h
      · have h := hB c
        refine jr_aload_n dX1_search_217 rfl ?_
        refine jr_iload dX1_search_218 rfl ?_
        refine jr_putI 1 1 jf_RX1_32 dX1_search_220 ga_33 rfl ?_
        obtain ⟨μ4, e4⟩ : ∃ x : Nat → Nat → Int32, x = jm_st μ 33 1 x8 := ⟨_, rfl⟩
        have h := h μ4 e4
        refine js_mem e4 ?_
        refine jr_aload_n dX1_search_223 rfl ?_
        refine jr_iload dX1_search_224 rfl ?_
        refine jr_putI 1 2 jf_RX1_19 dX1_search_226 ga_33 rfl ?_
        obtain ⟨μ5, e5⟩ : ∃ x : Nat → Nat → Int32, x = jm_st μ4 33 2 x7 := ⟨_, rfl⟩
        have h := h μ5 e5
        refine js_mem e5 ?_
        refine jr_aload_n dX1_search_229 rfl ?_
        refine jr_iload dX1_search_230 rfl ?_
        refine jr_putI 1 3 jf_RX1_15 dX1_search_232 ga_33 rfl ?_
        obtain ⟨μ6, e6⟩ : ∃ x : Nat → Nat → Int32, x = jm_st μ5 33 3 r := ⟨_, rfl⟩
        have h := h μ6 e6
        refine js_mem e6 ?_
        refine jr_iinc [some (.ref 33), some (.ref 29), none, some (.int x3), some (.int x4), some (.int x5), some (.int x6), some (.int x7), some (.int (x8 + (-1))), some (.int r)] dX1_search_235 rfl rfl rfl rfl rfl ?_
        refine jr_goto 131 dX1_search_238 rfl ?_
        refine js_drop 9 [some (.ref 33), some (.ref 29), none, some (.int x3), some (.int x4), some (.int x5), some (.int x6), some (.int x7), some (.int (x8 + (-1))), none] rfl ?_
        exact h

set_option maxRecDepth 100000 in
set_option maxHeartbeats 4000000 in
theorem sX1_spreadAt_0 {g : jm_G} {ad : Nat → Nat} {κ : jm_K} {P : Option Value → (Nat → Nat → Int32) → Prop} (hE : jE g ad m_X1_spreadAt P κ) {μ : Nat → Nat → Int32}  (p2 : Int32) (p3 : Int32)
    (h : jD g ad m_X2_crackTime [.ref 29, .int p2, .int p3, .int (0 : Int32)] μ (fun v μ' => jS g ad m_X1_spreadAt κ 13 [some (.ref 33), some (.ref 29), some (.int p2), some (.int p3), none, none, none, none] (jm_ps v [.int (μ 34 0)]) μ')) :
    jS g ad m_X1_spreadAt κ 0 [some (.ref 33), some (.ref 29), some (.int p2), some (.int p3), none, none, none, none] [] μ := by
  refine jr_aload_n dX1_spreadAt_0 rfl ?_
  refine jr_get 1 0 jf_RX1_9 dX1_spreadAt_1 ga_33 rfl (.ref 34) rfl ?_
  refine jr_iconst (0 : Int32) dX1_spreadAt_4 (by decide) ?_
  refine jr_ialdn 0 dX1_spreadAt_5 ga_34 (jm_inD (by decide)) rfl ?_
  refine jr_aload_n dX1_spreadAt_6 rfl ?_
  refine jr_iload_n dX1_spreadAt_7 rfl ?_
  refine jr_iload_n dX1_spreadAt_8 rfl ?_
  refine jr_iconst (0 : Int32) dX1_spreadAt_9 (by decide) ?_
  refine js_callV (st := [.int (μ 34 0)]) [.int p2, .int p3, .int (0 : Int32)] jc_RX1_35 rfl dX1_spreadAt_10 ga_29 rfl rfl rfl rfl (kk := ?_)
  exact h

set_option maxRecDepth 100000 in
set_option maxHeartbeats 4000000 in
theorem sX1_spreadAt_13 {g : jm_G} {ad : Nat → Nat} {κ : jm_K} {P : Option Value → (Nat → Nat → Int32) → Prop} (hE : jE g ad m_X1_spreadAt P κ) {μ : Nat → Nat → Int32}  (x2 : Int32) (x3 : Int32) (r : Int32) (y1 : Int32)
    (h : jS g ad m_X1_spreadAt κ 23 [some (.ref 33), some (.ref 29), some (.int x2), some (.int x3), some (.int (y1 - r)), some (.int (y1 - r)), some (.int (1 : Int32)), none] [] μ) :
    jS g ad m_X1_spreadAt κ 13 [some (.ref 33), some (.ref 29), some (.int x2), some (.int x3), none, none, none, none] [.int r, .int y1] μ := by
  refine jr_isub dX1_spreadAt_13 ?_
  refine jr_istore [some (.ref 33), some (.ref 29), some (.int x2), some (.int x3), some (.int (y1 - r)), none, none, none] dX1_spreadAt_14 rfl rfl rfl ?_
  refine jr_iload dX1_spreadAt_16 rfl ?_
  refine jr_istore [some (.ref 33), some (.ref 29), some (.int x2), some (.int x3), some (.int (y1 - r)), some (.int (y1 - r)), none, none] dX1_spreadAt_18 rfl rfl rfl ?_
  refine jr_iconst (1 : Int32) dX1_spreadAt_20 (by decide) ?_
  refine jr_istore [some (.ref 33), some (.ref 29), some (.int x2), some (.int x3), some (.int (y1 - r)), some (.int (y1 - r)), some (.int (1 : Int32)), none] dX1_spreadAt_21 rfl rfl rfl ?_
  exact h

set_option maxRecDepth 100000 in
set_option maxHeartbeats 4000000 in
theorem sX1_spreadAt_23 {g : jm_G} {ad : Nat → Nat} {κ : jm_K} {P : Option Value → (Nat → Nat → Int32) → Prop} (hE : jE g ad m_X1_spreadAt P κ) {μ : Nat → Nat → Int32}  (x2 : Int32) (x3 : Int32) (x4 : Int32) (x5 : Int32) (x6 : Int32)
    (h : (((4 : Int32) ≤ x6 →
    P (some (.int (x5 - x4))) μ) ∧
    (¬ (4 : Int32) ≤ x6 →
    vp_in x6 4 ∧
    jD g ad m_X2_crackTime [.ref 29, .int x2, .int x3, .int x6] μ (fun v μ' => jS g ad m_X1_spreadAt κ 44 [some (.ref 33), some (.ref 29), some (.int x2), some (.int x3), some (.int x4), some (.int x5), some (.int x6), none] (jm_ps v [.int (μ 34 x6.toNatClampNeg)]) μ')))) :
    jS g ad m_X1_spreadAt κ 23 [some (.ref 33), some (.ref 29), some (.int x2), some (.int x3), some (.int x4), some (.int x5), some (.int x6), none] [] μ := by
  refine jr_iload dX1_spreadAt_23 rfl ?_
  refine jr_iconst (4 : Int32) dX1_spreadAt_25 (by decide) ?_
  obtain ⟨hA, hB⟩ := h
  refine jr_icmp_ge 71 dX1_spreadAt_26 rfl (fun c => ?_) (fun c => ?_)
  · have h := hA c
    refine jr_iload dX1_spreadAt_71 rfl ?_
    refine jr_iload dX1_spreadAt_73 rfl ?_
    refine jr_isub dX1_spreadAt_75 ?_
    exact js_iret hE rfl dX1_spreadAt_76 rfl h
  · have h := hB c
    refine jr_aload_n dX1_spreadAt_29 rfl ?_
    refine jr_get 1 0 jf_RX1_9 dX1_spreadAt_30 ga_33 rfl (.ref 34) rfl ?_
    refine jr_iload dX1_spreadAt_33 rfl ?_
    obtain ⟨o1, h⟩ := h
    refine jr_ialdn _ dX1_spreadAt_35 ga_34 o1 rfl ?_
    refine jr_aload_n dX1_spreadAt_36 rfl ?_
    refine jr_iload_n dX1_spreadAt_37 rfl ?_
    refine jr_iload_n dX1_spreadAt_38 rfl ?_
    refine jr_iload dX1_spreadAt_39 rfl ?_
    refine js_callV (st := [.int (μ 34 x6.toNatClampNeg)]) [.int x2, .int x3, .int x6] jc_RX1_35 rfl dX1_spreadAt_41 ga_29 rfl rfl rfl rfl (kk := ?_)
    exact h

set_option maxRecDepth 100000 in
set_option maxHeartbeats 4000000 in
theorem sX1_spreadAt_44 {g : jm_G} {ad : Nat → Nat} {κ : jm_K} {P : Option Value → (Nat → Nat → Int32) → Prop} (hE : jE g ad m_X1_spreadAt P κ) {μ : Nat → Nat → Int32}  (x2 : Int32) (x3 : Int32) (x4 : Int32) (x5 : Int32) (x6 : Int32) (r : Int32) (y1 : Int32)
    (h : jS g ad m_X1_spreadAt κ 23 [some (.ref 33), some (.ref 29), some (.int x2), some (.int x3), some (.int (if (y1 - r) < x4 then (y1 - r) else x4)), some (.int (if x5 < (y1 - r) then (y1 - r) else x5)), some (.int (x6 + 1)), none] [] μ) :
    jS g ad m_X1_spreadAt κ 44 [some (.ref 33), some (.ref 29), some (.int x2), some (.int x3), some (.int x4), some (.int x5), some (.int x6), none] [.int r, .int y1] μ := by
  refine jr_isub dX1_spreadAt_44 ?_
  refine jr_istore [some (.ref 33), some (.ref 29), some (.int x2), some (.int x3), some (.int x4), some (.int x5), some (.int x6), some (.int (y1 - r))] dX1_spreadAt_45 rfl rfl rfl ?_
  refine jr_iload dX1_spreadAt_47 rfl ?_
  refine jr_iload dX1_spreadAt_49 rfl ?_
  refine jr_min jc_RX1_39 dX1_spreadAt_51 rfl rfl rfl ?_
  refine jr_istore [some (.ref 33), some (.ref 29), some (.int x2), some (.int x3), some (.int (if (y1 - r) < x4 then (y1 - r) else x4)), some (.int x5), some (.int x6), some (.int (y1 - r))] dX1_spreadAt_54 rfl rfl rfl ?_
  refine jr_iload dX1_spreadAt_56 rfl ?_
  refine jr_iload dX1_spreadAt_58 rfl ?_
  refine jr_max jc_RX1_44 dX1_spreadAt_60 rfl rfl rfl ?_
  refine jr_istore [some (.ref 33), some (.ref 29), some (.int x2), some (.int x3), some (.int (if (y1 - r) < x4 then (y1 - r) else x4)), some (.int (if x5 < (y1 - r) then (y1 - r) else x5)), some (.int x6), some (.int (y1 - r))] dX1_spreadAt_63 rfl rfl rfl ?_
  refine jr_iinc [some (.ref 33), some (.ref 29), some (.int x2), some (.int x3), some (.int (if (y1 - r) < x4 then (y1 - r) else x4)), some (.int (if x5 < (y1 - r) then (y1 - r) else x5)), some (.int (x6 + 1)), some (.int (y1 - r))] dX1_spreadAt_65 rfl rfl rfl rfl rfl ?_
  refine jr_goto 23 dX1_spreadAt_68 rfl ?_
  refine js_drop 7 [some (.ref 33), some (.ref 29), some (.int x2), some (.int x3), some (.int (if (y1 - r) < x4 then (y1 - r) else x4)), some (.int (if x5 < (y1 - r) then (y1 - r) else x5)), some (.int (x6 + 1)), none] rfl ?_
  exact h

set_option maxRecDepth 100000 in
set_option maxHeartbeats 4000000 in
theorem sX1_leastStart_0 {g : jm_G} {ad : Nat → Nat} {κ : jm_K} {P : Option Value → (Nat → Nat → Int32) → Prop} (hE : jE g ad m_X1_leastStart P κ) {μ : Nat → Nat → Int32}  
    (h : jD g ad m_X2_crackTime [.ref 29, .int (μ 33 1), .int (μ 33 2), .int (0 : Int32)] μ (fun v μ' => jS g ad m_X1_leastStart κ 19 [some (.ref 33), some (.ref 29), none, none] (jm_ps v [.int (μ 34 0)]) μ')) :
    jS g ad m_X1_leastStart κ 0 [some (.ref 33), some (.ref 29), none, none] [] μ := by
  refine jr_aload_n dX1_leastStart_0 rfl ?_
  refine jr_get 1 0 jf_RX1_9 dX1_leastStart_1 ga_33 rfl (.ref 34) rfl ?_
  refine jr_iconst (0 : Int32) dX1_leastStart_4 (by decide) ?_
  refine jr_ialdn 0 dX1_leastStart_5 ga_34 (jm_inD (by decide)) rfl ?_
  refine jr_aload_n dX1_leastStart_6 rfl ?_
  refine jr_aload_n dX1_leastStart_7 rfl ?_
  refine jr_get 1 1 jf_RX1_32 dX1_leastStart_8 ga_33 rfl (.int (μ 33 1)) rfl ?_
  refine jr_aload_n dX1_leastStart_11 rfl ?_
  refine jr_get 1 2 jf_RX1_19 dX1_leastStart_12 ga_33 rfl (.int (μ 33 2)) rfl ?_
  refine jr_iconst (0 : Int32) dX1_leastStart_15 (by decide) ?_
  refine js_callV (st := [.int (μ 34 0)]) [.int (μ 33 1), .int (μ 33 2), .int (0 : Int32)] jc_RX1_35 rfl dX1_leastStart_16 ga_29 rfl rfl rfl rfl (kk := ?_)
  exact h

set_option maxRecDepth 100000 in
set_option maxHeartbeats 4000000 in
theorem sX1_leastStart_19 {g : jm_G} {ad : Nat → Nat} {κ : jm_K} {P : Option Value → (Nat → Nat → Int32) → Prop} (hE : jE g ad m_X1_leastStart P κ) {μ : Nat → Nat → Int32}  (r : Int32) (y1 : Int32)
    (h : jS g ad m_X1_leastStart κ 23 [some (.ref 33), some (.ref 29), some (.int (y1 - r)), some (.int (1 : Int32))] [] μ) :
    jS g ad m_X1_leastStart κ 19 [some (.ref 33), some (.ref 29), none, none] [.int r, .int y1] μ := by
  refine jr_isub dX1_leastStart_19 ?_
  refine jr_istore_n [some (.ref 33), some (.ref 29), some (.int (y1 - r)), none] dX1_leastStart_20 rfl rfl rfl ?_
  refine jr_iconst (1 : Int32) dX1_leastStart_21 (by decide) ?_
  refine jr_istore_n [some (.ref 33), some (.ref 29), some (.int (y1 - r)), some (.int (1 : Int32))] dX1_leastStart_22 rfl rfl rfl ?_
  exact h

set_option maxRecDepth 100000 in
set_option maxHeartbeats 4000000 in
theorem sX1_leastStart_23 {g : jm_G} {ad : Nat → Nat} {κ : jm_K} {P : Option Value → (Nat → Nat → Int32) → Prop} (hE : jE g ad m_X1_leastStart P κ) {μ : Nat → Nat → Int32}  (x2 : Int32) (x3 : Int32)
    (h : (((4 : Int32) ≤ x3 →
    P (some (.int x2)) μ) ∧
    (¬ (4 : Int32) ≤ x3 →
    vp_in x3 4 ∧
    jD g ad m_X2_crackTime [.ref 29, .int (μ 33 1), .int (μ 33 2), .int x3] μ (fun v μ' => jS g ad m_X1_leastStart κ 48 [some (.ref 33), some (.ref 29), none, some (.int x3)] (jm_ps v [.int (μ 34 x3.toNatClampNeg), .int x2]) μ')))) :
    jS g ad m_X1_leastStart κ 23 [some (.ref 33), some (.ref 29), some (.int x2), some (.int x3)] [] μ := by
  refine jr_iload_n dX1_leastStart_23 rfl ?_
  refine jr_iconst (4 : Int32) dX1_leastStart_24 (by decide) ?_
  obtain ⟨hA, hB⟩ := h
  refine jr_icmp_ge 59 dX1_leastStart_25 rfl (fun c => ?_) (fun c => ?_)
  · have h := hA c
    refine jr_iload_n dX1_leastStart_59 rfl ?_
    exact js_iret hE rfl dX1_leastStart_60 rfl h
  · have h := hB c
    refine jr_iload_n dX1_leastStart_28 rfl ?_
    refine jr_aload_n dX1_leastStart_29 rfl ?_
    refine jr_get 1 0 jf_RX1_9 dX1_leastStart_30 ga_33 rfl (.ref 34) rfl ?_
    refine jr_iload_n dX1_leastStart_33 rfl ?_
    obtain ⟨o1, h⟩ := h
    refine jr_ialdn _ dX1_leastStart_34 ga_34 o1 rfl ?_
    refine jr_aload_n dX1_leastStart_35 rfl ?_
    refine jr_aload_n dX1_leastStart_36 rfl ?_
    refine jr_get 1 1 jf_RX1_32 dX1_leastStart_37 ga_33 rfl (.int (μ 33 1)) rfl ?_
    refine jr_aload_n dX1_leastStart_40 rfl ?_
    refine jr_get 1 2 jf_RX1_19 dX1_leastStart_41 ga_33 rfl (.int (μ 33 2)) rfl ?_
    refine jr_iload_n dX1_leastStart_44 rfl ?_
    refine js_drop 2 [some (.ref 33), some (.ref 29), none, some (.int x3)] rfl ?_
    refine js_callV (st := [.int (μ 34 x3.toNatClampNeg), .int x2]) [.int (μ 33 1), .int (μ 33 2), .int x3] jc_RX1_35 rfl dX1_leastStart_45 ga_29 rfl rfl rfl rfl (kk := ?_)
    exact h

set_option maxRecDepth 100000 in
set_option maxHeartbeats 4000000 in
theorem sX1_leastStart_48 {g : jm_G} {ad : Nat → Nat} {κ : jm_K} {P : Option Value → (Nat → Nat → Int32) → Prop} (hE : jE g ad m_X1_leastStart P κ) {μ : Nat → Nat → Int32}  (x3 : Int32) (r : Int32) (y1 : Int32) (y2 : Int32)
    (h : jS g ad m_X1_leastStart κ 23 [some (.ref 33), some (.ref 29), some (.int (if (y1 - r) < y2 then (y1 - r) else y2)), some (.int (x3 + 1))] [] μ) :
    jS g ad m_X1_leastStart κ 48 [some (.ref 33), some (.ref 29), none, some (.int x3)] [.int r, .int y1, .int y2] μ := by
  refine jr_isub dX1_leastStart_48 ?_
  refine jr_min jc_RX1_39 dX1_leastStart_49 rfl rfl rfl ?_
  refine jr_istore_n [some (.ref 33), some (.ref 29), some (.int (if (y1 - r) < y2 then (y1 - r) else y2)), some (.int x3)] dX1_leastStart_52 rfl rfl rfl ?_
  refine jr_iinc [some (.ref 33), some (.ref 29), some (.int (if (y1 - r) < y2 then (y1 - r) else y2)), some (.int (x3 + 1))] dX1_leastStart_53 rfl rfl rfl rfl rfl ?_
  refine jr_goto 23 dX1_leastStart_56 rfl ?_
  exact h

end
