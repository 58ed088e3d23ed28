section
set_option maxRecDepth 100000 in
set_option maxHeartbeats 4000000 in
theorem sX4_record_0 {g : jm_G} {ad : Nat → Nat} {κ : jm_K} {P : Option Value → (Nat → Nat → Int32) → Prop} (hE : jE g ad m_X4_record P κ) {μ : Nat → Nat → Int32} (q : Nat) (hq : jm_Heard q) 
    (h : ((¬ (μ 4 2) = (6 : Int32) →
    vp_in (((μ 4 1) + (μ 4 2)) - ((μ 4 1) + (μ 4 2)) / (6 : Int32) * (6 : Int32)) 6 ∧
    jD g ad m_X3_become [.ref (6 + 3 * (((μ 4 1) + (μ 4 2)) - ((μ 4 1) + (μ 4 2)) / (6 : Int32) * (6 : Int32)).toNatClampNeg), .ref q] μ (fun v μ' => jS g ad m_X4_record κ 53 [some (.ref 4), none] (jm_ps v []) μ')) ∧
    ((μ 4 2) = (6 : Int32) →
    (∀ μ2 : Nat → Nat → Int32, μ2 = jm_st μ 4 1 (((μ 4 1) + (1 : Int32)) - ((μ 4 1) + (1 : Int32)) / (6 : Int32) * (6 : Int32)) →
    (∀ μ3 : Nat → Nat → Int32, μ3 = jm_st μ2 4 2 ((μ2 4 2) - (1 : Int32)) →
    vp_in (((μ3 4 1) + (μ3 4 2)) - ((μ3 4 1) + (μ3 4 2)) / (6 : Int32) * (6 : Int32)) 6 ∧
    jD g ad m_X3_become [.ref (6 + 3 * (((μ3 4 1) + (μ3 4 2)) - ((μ3 4 1) + (μ3 4 2)) / (6 : Int32) * (6 : Int32)).toNatClampNeg), .ref q] μ3 (fun v μ' => jS g ad m_X4_record κ 53 [some (.ref 4), none] (jm_ps v []) μ')))))) :
    jS g ad m_X4_record κ 0 [some (.ref 4), some (.ref q)] [] μ := by
  refine jr_aload_n dX4_record_0 rfl ?_
  refine jr_get 4 2 jf_RX4_16 dX4_record_1 ga_4 rfl (.int (μ 4 2)) rfl ?_
  refine jr_bipush (6 : Int32) dX4_record_4 (by decide) ?_
  obtain ⟨hA, hB⟩ := h
  refine jr_icmp_ne 32 dX4_record_6 rfl (fun c => ?_) (fun c => ?_)
  · have h := hA c
    refine jr_aload_n dX4_record_32 rfl ?_
    refine jr_get 4 0 jf_RX4_11 dX4_record_33 ga_4 rfl (.ref 5) rfl ?_
    refine jr_aload_n dX4_record_36 rfl ?_
    refine jr_get 4 1 jf_RX4_20 dX4_record_37 ga_4 rfl (.int (μ 4 1)) rfl ?_
    refine jr_aload_n dX4_record_40 rfl ?_
    refine jr_get 4 2 jf_RX4_16 dX4_record_41 ga_4 rfl (.int (μ 4 2)) rfl ?_
    refine jr_iadd dX4_record_44 ?_
    refine jr_bipush (6 : Int32) dX4_record_45 (by decide) ?_
    refine jr_irem dX4_record_47 (by decide) ?_
    obtain ⟨o1, h⟩ := h
    refine jr_aald dX4_record_48 ga_5 (by decide) o1 (6 + 3 * (((μ 4 1) + (μ 4 2)) - ((μ 4 1) + (μ 4 2)) / (6 : Int32) * (6 : Int32)).toNatClampNeg) (if_pos (jm_inlt o1)) ?_
    refine jr_aload_n dX4_record_49 rfl ?_
    refine js_drop 1 [some (.ref 4), none] rfl ?_
    refine js_callV (st := []) [.ref q] jc_RX4_23 rfl dX4_record_50 ((jm_states_heard (jm_inlt o1)).1) rfl rfl rfl rfl (kk := ?_)
    exact h
  · have h := hB c
    refine jr_aload_n dX4_record_9 rfl ?_
    refine jr_aload_n dX4_record_10 rfl ?_
    refine jr_get 4 1 jf_RX4_20 dX4_record_11 ga_4 rfl (.int (μ 4 1)) rfl ?_
    refine jr_iconst (1 : Int32) dX4_record_14 (by decide) ?_
    refine jr_iadd dX4_record_15 ?_
    refine jr_bipush (6 : Int32) dX4_record_16 (by decide) ?_
    refine jr_irem dX4_record_18 (by decide) ?_
    refine jr_putI 4 1 jf_RX4_20 dX4_record_19 ga_4 rfl ?_
    obtain ⟨μ2, e2⟩ : ∃ x : Nat → Nat → Int32, x = jm_st μ 4 1 (((μ 4 1) + (1 : Int32)) - ((μ 4 1) + (1 : Int32)) / (6 : Int32) * (6 : Int32)) := ⟨_, rfl⟩
    have h := h μ2 e2
    refine js_mem e2 ?_
    refine jr_aload_n dX4_record_22 rfl ?_
    refine jr_dup dX4_record_23 rfl ?_
    refine jr_get 4 2 jf_RX4_16 dX4_record_24 ga_4 rfl (.int (μ2 4 2)) rfl ?_
    refine jr_iconst (1 : Int32) dX4_record_27 (by decide) ?_
    refine jr_isub dX4_record_28 ?_
    refine jr_putI 4 2 jf_RX4_16 dX4_record_29 ga_4 rfl ?_
    obtain ⟨μ3, e3⟩ : ∃ x : Nat → Nat → Int32, x = jm_st μ2 4 2 ((μ2 4 2) - (1 : Int32)) := ⟨_, rfl⟩
    have h := h μ3 e3
    refine js_mem e3 ?_
    refine jr_aload_n dX4_record_32 rfl ?_
    refine jr_get 4 0 jf_RX4_11 dX4_record_33 ga_4 rfl (.ref 5) rfl ?_
    refine jr_aload_n dX4_record_36 rfl ?_
    refine jr_get 4 1 jf_RX4_20 dX4_record_37 ga_4 rfl (.int (μ3 4 1)) rfl ?_
    refine jr_aload_n dX4_record_40 rfl ?_
    refine jr_get 4 2 jf_RX4_16 dX4_record_41 ga_4 rfl (.int (μ3 4 2)) rfl ?_
    refine jr_iadd dX4_record_44 ?_
    refine jr_bipush (6 : Int32) dX4_record_45 (by decide) ?_
    refine jr_irem dX4_record_47 (by decide) ?_
    obtain ⟨o4, h⟩ := h
    refine jr_aald dX4_record_48 ga_5 (by decide) o4 (6 + 3 * (((μ3 4 1) + (μ3 4 2)) - ((μ3 4 1) + (μ3 4 2)) / (6 : Int32) * (6 : Int32)).toNatClampNeg) (if_pos (jm_inlt o4)) ?_
    refine jr_aload_n dX4_record_49 rfl ?_
    refine js_drop 1 [some (.ref 4), none] rfl ?_
    refine js_callV (st := []) [.ref q] jc_RX4_23 rfl dX4_record_50 ((jm_states_heard (jm_inlt o4)).1) rfl rfl rfl rfl (kk := ?_)
    exact h

set_option maxRecDepth 100000 in
set_option maxHeartbeats 4000000 in
theorem sX4_record_53 {g : jm_G} {ad : Nat → Nat} {κ : jm_K} {P : Option Value → (Nat → Nat → Int32) → Prop} (hE : jE g ad m_X4_record P κ) {μ : Nat → Nat → Int32} (q : Nat) (hq : jm_Heard q) 
    (h : (∀ μ1 : Nat → Nat → Int32, μ1 = jm_st μ 4 2 ((μ 4 2) + (1 : Int32)) →
    P none μ1)) :
    jS g ad m_X4_record κ 53 [some (.ref 4), none] [] μ := by
  refine jr_aload_n dX4_record_53 rfl ?_
  refine jr_dup dX4_record_54 rfl ?_
  refine jr_get 4 2 jf_RX4_16 dX4_record_55 ga_4 rfl (.int (μ 4 2)) rfl ?_
  refine jr_iconst (1 : Int32) dX4_record_58 (by decide) ?_
  refine jr_iadd dX4_record_59 ?_
  refine jr_putI 4 2 jf_RX4_16 dX4_record_60 ga_4 rfl ?_
  obtain ⟨μ1, e1⟩ : ∃ x : Nat → Nat → Int32, x = jm_st μ 4 2 ((μ 4 2) + (1 : Int32)) := ⟨_, rfl⟩
  have h := h μ1 e1
  refine js_mem e1 ?_
  exact js_vret hE rfl dX4_record_63 rfl h

set_option maxRecDepth 100000 in
set_option maxHeartbeats 4000000 in
theorem sX4_takeBack_0 {g : jm_G} {ad : Nat → Nat} {κ : jm_K} {P : Option Value → (Nat → Nat → Int32) → Prop} (hE : jE g ad m_X4_takeBack P κ) {μ : Nat → Nat → Int32} (q : Nat) (hq : jm_Heard q) 
    (h : (((μ 4 2) ≤ 0 →
    P none μ) ∧
    (¬ (μ 4 2) ≤ 0 →
    (∀ μ1 : Nat → Nat → Int32, μ1 = jm_st μ 4 2 ((μ 4 2) - (1 : Int32)) →
    vp_in (((μ1 4 1) + (μ1 4 2)) - ((μ1 4 1) + (μ1 4 2)) / (6 : Int32) * (6 : Int32)) 6 ∧
    jD g ad m_X3_become [.ref q, .ref (6 + 3 * (((μ1 4 1) + (μ1 4 2)) - ((μ1 4 1) + (μ1 4 2)) / (6 : Int32) * (6 : Int32)).toNatClampNeg)] μ1 (fun v μ' => jS g ad m_X4_takeBack κ 38 [none, none] (jm_ps v []) μ'))))) :
    jS g ad m_X4_takeBack κ 0 [some (.ref 4), some (.ref q)] [] μ := by
  refine jr_aload_n dX4_takeBack_0 rfl ?_
  refine jr_get 4 2 jf_RX4_16 dX4_takeBack_1 ga_4 rfl (.int (μ 4 2)) rfl ?_
  obtain ⟨hA, hB⟩ := h
  refine jr_if_le 38 dX4_takeBack_4 rfl (fun c => ?_) (fun c => ?_)
  · have h := hA c
    exact js_vret hE rfl dX4_takeBack_38 rfl h
  · have h := hB c
    refine jr_aload_n dX4_takeBack_7 rfl ?_
    refine jr_dup dX4_takeBack_8 rfl ?_
    refine jr_get 4 2 jf_RX4_16 dX4_takeBack_9 ga_4 rfl (.int (μ 4 2)) rfl ?_
    refine jr_iconst (1 : Int32) dX4_takeBack_12 (by decide) ?_
    refine jr_isub dX4_takeBack_13 ?_
    refine jr_putI 4 2 jf_RX4_16 dX4_takeBack_14 ga_4 rfl ?_
    obtain ⟨μ1, e1⟩ : ∃ x : Nat → Nat → Int32, x = jm_st μ 4 2 ((μ 4 2) - (1 : Int32)) := ⟨_, rfl⟩
    have h := h μ1 e1
    refine js_mem e1 ?_
    refine jr_aload_n dX4_takeBack_17 rfl ?_
    refine jr_aload_n dX4_takeBack_18 rfl ?_
    refine jr_get 4 0 jf_RX4_11 dX4_takeBack_19 ga_4 rfl (.ref 5) rfl ?_
    refine jr_aload_n dX4_takeBack_22 rfl ?_
    refine jr_get 4 1 jf_RX4_20 dX4_takeBack_23 ga_4 rfl (.int (μ1 4 1)) rfl ?_
    refine jr_aload_n dX4_takeBack_26 rfl ?_
    refine jr_get 4 2 jf_RX4_16 dX4_takeBack_27 ga_4 rfl (.int (μ1 4 2)) rfl ?_
    refine jr_iadd dX4_takeBack_30 ?_
    refine jr_bipush (6 : Int32) dX4_takeBack_31 (by decide) ?_
    refine jr_irem dX4_takeBack_33 (by decide) ?_
    obtain ⟨o2, h⟩ := h
    refine jr_aald dX4_takeBack_34 ga_5 (by decide) o2 (6 + 3 * (((μ1 4 1) + (μ1 4 2)) - ((μ1 4 1) + (μ1 4 2)) / (6 : Int32) * (6 : Int32)).toNatClampNeg) (if_pos (jm_inlt o2)) ?_
    refine js_drop 0 [none, some (.ref q)] rfl ?_
    refine js_drop 1 [none, none] rfl ?_
    refine js_callV (st := []) [.ref (6 + 3 * (((μ1 4 1) + (μ1 4 2)) - ((μ1 4 1) + (μ1 4 2)) / (6 : Int32) * (6 : Int32)).toNatClampNeg)] jc_RX4_23 rfl dX4_takeBack_35 hq.1 rfl rfl rfl rfl (kk := ?_)
    exact h

set_option maxRecDepth 100000 in
set_option maxHeartbeats 4000000 in
theorem sX4_takeBack_38 {g : jm_G} {ad : Nat → Nat} {κ : jm_K} {P : Option Value → (Nat → Nat → Int32) → Prop} (hE : jE g ad m_X4_takeBack P κ) {μ : Nat → Nat → Int32} (q : Nat) (hq : jm_Heard q) 
    (h : P none μ) :
    jS g ad m_X4_takeBack κ 38 [none, none] [] μ := by
  exact js_vret hE rfl dX4_takeBack_38 rfl h

set_option maxRecDepth 100000 in
set_option maxHeartbeats 4000000 in
theorem sX5_append_0 {g : jm_G} {ad : Nat → Nat} {κ : jm_K} {P : Option Value → (Nat → Nat → Int32) → Prop} (hE : jE g ad m_X5_append P κ) {μ : Nat → Nat → Int32}  (p1 : Int32)
    (h : (((80 : Int32) ≤ (μ 26 2) →
    P none μ) ∧
    (¬ (80 : Int32) ≤ (μ 26 2) →
    vp_in (μ 26 2) 80 ∧
    (∀ μ2 : Nat → Nat → Int32, μ2 = jm_st μ 27 (μ 26 2).toNatClampNeg (vp_nar .char p1) →
    (∀ μ3 : Nat → Nat → Int32, μ3 = jm_st μ2 26 2 ((μ2 26 2) + (1 : Int32)) →
    P none μ3))))) :
    jS g ad m_X5_append κ 0 [some (.ref 26), some (.int p1)] [] μ := by
  refine jr_aload_n dX5_append_0 rfl ?_
  refine jr_get 5 2 jf_RX5_19 dX5_append_1 ga_26 rfl (.int (μ 26 2)) rfl ?_
  refine jr_bipush (80 : Int32) dX5_append_4 (by decide) ?_
  obtain ⟨hA, hB⟩ := h
  refine jr_icmp_ge 29 dX5_append_6 rfl (fun c => ?_) (fun c => ?_)
  · have h := hA c
    exact js_vret hE rfl dX5_append_29 rfl h
  · have h := hB c
    refine jr_aload_n dX5_append_9 rfl ?_
    refine jr_get 5 0 jf_RX5_11 dX5_append_10 ga_26 rfl (.ref 27) rfl ?_
    refine jr_aload_n dX5_append_13 rfl ?_
    refine jr_get 5 2 jf_RX5_19 dX5_append_14 ga_26 rfl (.int (μ 26 2)) rfl ?_
    refine jr_iload_n dX5_append_17 rfl ?_
    obtain ⟨o1, h⟩ := h
    refine jr_castn _ dX5_append_18 ga_27 o1 rfl ?_
    obtain ⟨μ2, e2⟩ : ∃ x : Nat → Nat → Int32, x = jm_st μ 27 (μ 26 2).toNatClampNeg (vp_nar .char p1) := ⟨_, rfl⟩
    have h := h μ2 e2
    refine js_mem e2 ?_
    refine jr_aload_n dX5_append_19 rfl ?_
    refine jr_dup dX5_append_20 rfl ?_
    refine jr_get 5 2 jf_RX5_19 dX5_append_21 ga_26 rfl (.int (μ2 26 2)) rfl ?_
    refine jr_iconst (1 : Int32) dX5_append_24 (by decide) ?_
    refine jr_iadd dX5_append_25 ?_
    refine jr_putI 5 2 jf_RX5_19 dX5_append_26 ga_26 rfl ?_
    obtain ⟨μ3, e3⟩ : ∃ x : Nat → Nat → Int32, x = jm_st μ2 26 2 ((μ2 26 2) + (1 : Int32)) := ⟨_, rfl⟩
    have h := h μ3 e3
    refine js_mem e3 ?_
    exact js_vret hE rfl dX5_append_29 rfl h

set_option maxRecDepth 100000 in
set_option maxHeartbeats 4000000 in
theorem sX5_read_0 {g : jm_G} {ad : Nat → Nat} {κ : jm_K} {P : Option Value → (Nat → Nat → Int32) → Prop} (hE : jE g ad m_X5_read P κ) {μ : Nat → Nat → Int32}  
    (h : (∀ μ1 : Nat → Nat → Int32, μ1 = jm_st μ 26 3 (0 : Int32) →
    jS g ad m_X5_read κ 9 [some (.ref 26), some (.int (0 : Int32)), some (.int (0 : Int32))] [] μ1)) :
    jS g ad m_X5_read κ 0 [some (.ref 26), none, none] [] μ := by
  refine jr_aload_n dX5_read_0 rfl ?_
  refine jr_iconst (0 : Int32) dX5_read_1 (by decide) ?_
  refine jr_putI 5 3 jf_RX5_23 dX5_read_2 ga_26 rfl ?_
  obtain ⟨μ1, e1⟩ : ∃ x : Nat → Nat → Int32, x = jm_st μ 26 3 (0 : Int32) := ⟨_, rfl⟩
  have h := h μ1 e1
  refine js_mem e1 ?_
  refine jr_iconst (0 : Int32) dX5_read_5 (by decide) ?_
  refine jr_istore_n [some (.ref 26), some (.int (0 : Int32)), none] dX5_read_6 rfl rfl rfl ?_
  refine jr_iconst (0 : Int32) dX5_read_7 (by decide) ?_
  refine jr_istore_n [some (.ref 26), some (.int (0 : Int32)), some (.int (0 : Int32))] dX5_read_8 rfl rfl rfl ?_
  exact h

set_option maxRecDepth 100000 in
set_option maxHeartbeats 4000000 in
theorem sX5_read_9 {g : jm_G} {ad : Nat → Nat} {κ : jm_K} {P : Option Value → (Nat → Nat → Int32) → Prop} (hE : jE g ad m_X5_read P κ) {μ : Nat → Nat → Int32}  (x1 : Int32) (x2 : Int32)
    (h : (((μ 26 2) ≤ x2 →
    ((x1 = (3 : Int32) →
    jD g ad m_X5_note [.ref 26] μ (fun v μ' => jS g ad m_X5_read κ 56 [none, none, none] (jm_ps v []) μ')) ∧
    (¬ x1 = (3 : Int32) →
    P (some (.int (μ 26 2))) μ))) ∧
    (¬ (μ 26 2) ≤ x2 →
    vp_in x2 80 ∧
    jD g ad m_X5_step [.ref 26, .int x1, .int (μ 27 x2.toNatClampNeg)] μ (fun v μ' => jS g ad m_X5_read κ 28 [some (.ref 26), none, some (.int x2)] (jm_ps v []) μ')))) :
    jS g ad m_X5_read κ 9 [some (.ref 26), some (.int x1), some (.int x2)] [] μ := by
  refine jr_iload_n dX5_read_9 rfl ?_
  refine jr_aload_n dX5_read_10 rfl ?_
  refine jr_get 5 2 jf_RX5_19 dX5_read_11 ga_26 rfl (.int (μ 26 2)) rfl ?_
  obtain ⟨hA, hB⟩ := h
  refine jr_icmp_ge 42 dX5_read_14 rfl (fun c => ?_) (fun c => ?_)
  · have h := hA c
    refine jr_iload_n dX5_read_42 rfl ?_
    refine jr_iconst (3 : Int32) dX5_read_43 (by decide) ?_
    obtain ⟨hA, hB⟩ := h
    refine jr_icmp_eq 52 dX5_read_44 rfl (fun c => ?_) (fun c => ?_)
    · have h := hA c
      refine jr_aload_n dX5_read_52 rfl ?_
      refine js_drop 0 [none, some (.int x1), some (.int x2)] rfl ?_
      refine js_drop 1 [none, none, some (.int x2)] rfl ?_
      refine js_drop 2 [none, none, none] rfl ?_
      refine js_callV (st := []) [] jc_RX5_30 rfl dX5_read_53 ga_26 rfl rfl rfl rfl (kk := ?_)
      exact h
    · have h := hB c
      refine jr_aload_n dX5_read_47 rfl ?_
      refine jr_get 5 2 jf_RX5_19 dX5_read_48 ga_26 rfl (.int (μ 26 2)) rfl ?_
      exact js_iret hE rfl dX5_read_51 rfl h
  · have h := hB c
    refine jr_aload_n dX5_read_17 rfl ?_
    refine jr_iload_n dX5_read_18 rfl ?_
    refine jr_aload_n dX5_read_19 rfl ?_
    refine jr_get 5 0 jf_RX5_11 dX5_read_20 ga_26 rfl (.ref 27) rfl ?_
    refine jr_iload_n dX5_read_23 rfl ?_
    obtain ⟨o1, h⟩ := h
    refine jr_caldn _ dX5_read_24 ga_27 o1 rfl ?_
    refine js_drop 1 [some (.ref 26), none, some (.int x2)] rfl ?_
    refine js_callV (st := []) [.int x1, .int (μ 27 x2.toNatClampNeg)] jc_RX5_26 rfl dX5_read_25 ga_26 rfl rfl rfl rfl (kk := ?_)
    exact h

set_option maxRecDepth 100000 in
set_option maxHeartbeats 4000000 in
theorem sX5_read_56 {g : jm_G} {ad : Nat → Nat} {κ : jm_K} {P : Option Value → (Nat → Nat → Int32) → Prop} (hE : jE g ad m_X5_read P κ) {μ : Nat → Nat → Int32}  
    (h : P (some (.int (-6 : Int32))) μ) :
    jS g ad m_X5_read κ 56 [none, none, none] [] μ := by
  refine jr_bipush (-6 : Int32) dX5_read_56 (by decide) ?_
  exact js_iret hE rfl dX5_read_58 rfl h

set_option maxRecDepth 100000 in
set_option maxHeartbeats 4000000 in
theorem sX5_read_28 {g : jm_G} {ad : Nat → Nat} {κ : jm_K} {P : Option Value → (Nat → Nat → Int32) → Prop} (hE : jE g ad m_X5_read P κ) {μ : Nat → Nat → Int32}  (x2 : Int32) (r : Int32)
    (h : ((¬ r = (4 : Int32) →
    jS g ad m_X5_read κ 9 [some (.ref 26), some (.int r), some (.int (x2 + 1))] [] μ) ∧
    (r = (4 : Int32) →
    P (some (.int x2)) μ))) :
    jS g ad m_X5_read κ 28 [some (.ref 26), none, some (.int x2)] [.int r] μ := by
  refine jr_istore_n [some (.ref 26), some (.int r), some (.int x2)] dX5_read_28 rfl rfl rfl ?_
  refine jr_iload_n dX5_read_29 rfl ?_
  refine jr_iconst (4 : Int32) dX5_read_30 (by decide) ?_
  obtain ⟨hA, hB⟩ := h
  refine jr_icmp_ne 36 dX5_read_31 rfl (fun c => ?_) (fun c => ?_)
  · have h := hA c
    refine jr_iinc [some (.ref 26), some (.int r), some (.int (x2 + 1))] dX5_read_36 rfl rfl rfl rfl rfl ?_
    refine jr_goto 9 dX5_read_39 rfl ?_
    exact h
  · have h := hB c
    refine jr_iload_n dX5_read_34 rfl ?_
    exact js_iret hE rfl dX5_read_35 rfl h

set_option maxRecDepth 100000 in
set_option maxHeartbeats 4000000 in
theorem sX5_step_0 {g : jm_G} {ad : Nat → Nat} {κ : jm_K} {P : Option Value → (Nat → Nat → Int32) → Prop} (hE : jE g ad m_X5_step P κ) {μ : Nat → Nat → Int32}  (p1 : Int32) (p2 : Int32)
    (h : (((p2 - (48 : Int32)) < 0 →
    ((p1.toInt < 0 ∨ 2 < p1.toInt →
    ((¬ p2 = (59 : Int32) →
    (((0 : Int32) = 0 →
    P (some (.int (4 : Int32))) μ) ∧
    (¬ (0 : Int32) = 0 →
    ((¬ (μ 26 5) = 0 →
    (∀ μ1 : Nat → Nat → Int32, μ1 = jm_st μ 26 5 (((μ 26 5) * (10 : Int32)) + (p2 - (48 : Int32))) →
    (((99999 : Int32) < (μ1 26 5) →
    P (some (.int (4 : Int32))) μ1) ∧
    (¬ (99999 : Int32) < (μ1 26 5) →
    P (some (.int (3 : Int32))) μ1)))) ∧
    ((μ 26 5) = 0 →
    P (some (.int (4 : Int32))) μ))))) ∧
    (p2 = (59 : Int32) →
    jD g ad m_X5_note [.ref 26] μ (fun v μ' => jS g ad m_X5_step κ 104 [none, none, none, none, none] (jm_ps v []) μ')))) ∧
    (p1.toInt = 0 →
    (∀ μ2 : Nat → Nat → Int32, μ2 = jm_st μ 26 4 (p2 - (48 : Int32)) →
    jD g ad m_X8_isEar [.int (p2 - (48 : Int32))] μ2 (fun v μ' => jS g ad m_X5_step κ 57 [none, none, none, none, none] (jm_ps v []) μ'))) ∧
    (p1.toInt = 1 →
    ((¬ p2 = (58 : Int32) →
    P (some (.int (4 : Int32))) μ) ∧
    (p2 = (58 : Int32) →
    P (some (.int (2 : Int32))) μ))) ∧
    (p1.toInt = 2 →
    (∀ μ3 : Nat → Nat → Int32, μ3 = jm_st μ 26 5 (p2 - (48 : Int32)) →
    (((0 : Int32) = 0 →
    P (some (.int (4 : Int32))) μ3) ∧
    (¬ (0 : Int32) = 0 →
    P (some (.int (3 : Int32))) μ3)))))) ∧
    (¬ (p2 - (48 : Int32)) < 0 →
    (((9 : Int32) < (p2 - (48 : Int32)) →
    ((p1.toInt < 0 ∨ 2 < p1.toInt →
    ((¬ p2 = (59 : Int32) →
    (((0 : Int32) = 0 →
    P (some (.int (4 : Int32))) μ) ∧
    (¬ (0 : Int32) = 0 →
    ((¬ (μ 26 5) = 0 →
    (∀ μ4 : Nat → Nat → Int32, μ4 = jm_st μ 26 5 (((μ 26 5) * (10 : Int32)) + (p2 - (48 : Int32))) →
    (((99999 : Int32) < (μ4 26 5) →
    P (some (.int (4 : Int32))) μ4) ∧
    (¬ (99999 : Int32) < (μ4 26 5) →
    P (some (.int (3 : Int32))) μ4)))) ∧
    ((μ 26 5) = 0 →
    P (some (.int (4 : Int32))) μ))))) ∧
    (p2 = (59 : Int32) →
    jD g ad m_X5_note [.ref 26] μ (fun v μ' => jS g ad m_X5_step κ 104 [none, none, none, none, none] (jm_ps v []) μ')))) ∧
    (p1.toInt = 0 →
    (∀ μ5 : Nat → Nat → Int32, μ5 = jm_st μ 26 4 (p2 - (48 : Int32)) →
    jD g ad m_X8_isEar [.int (p2 - (48 : Int32))] μ5 (fun v μ' => jS g ad m_X5_step κ 57 [none, none, none, none, none] (jm_ps v []) μ'))) ∧
    (p1.toInt = 1 →
    ((¬ p2 = (58 : Int32) →
    P (some (.int (4 : Int32))) μ) ∧
    (p2 = (58 : Int32) →
    P (some (.int (2 : Int32))) μ))) ∧
    (p1.toInt = 2 →
    (∀ μ6 : Nat → Nat → Int32, μ6 = jm_st μ 26 5 (p2 - (48 : Int32)) →
    (((0 : Int32) = 0 →
    P (some (.int (4 : Int32))) μ6) ∧
    (¬ (0 : Int32) = 0 →
    P (some (.int (3 : Int32))) μ6)))))) ∧
    (¬ (9 : Int32) < (p2 - (48 : Int32)) →
    ((p1.toInt < 0 ∨ 2 < p1.toInt →
    ((¬ p2 = (59 : Int32) →
    (((1 : Int32) = 0 →
    P (some (.int (4 : Int32))) μ) ∧
    (¬ (1 : Int32) = 0 →
    ((¬ (μ 26 5) = 0 →
    (∀ μ7 : Nat → Nat → Int32, μ7 = jm_st μ 26 5 (((μ 26 5) * (10 : Int32)) + (p2 - (48 : Int32))) →
    (((99999 : Int32) < (μ7 26 5) →
    P (some (.int (4 : Int32))) μ7) ∧
    (¬ (99999 : Int32) < (μ7 26 5) →
    P (some (.int (3 : Int32))) μ7)))) ∧
    ((μ 26 5) = 0 →
    P (some (.int (4 : Int32))) μ))))) ∧
    (p2 = (59 : Int32) →
    jD g ad m_X5_note [.ref 26] μ (fun v μ' => jS g ad m_X5_step κ 104 [none, none, none, none, none] (jm_ps v []) μ')))) ∧
    (p1.toInt = 0 →
    (∀ μ8 : Nat → Nat → Int32, μ8 = jm_st μ 26 4 (p2 - (48 : Int32)) →
    jD g ad m_X8_isEar [.int (p2 - (48 : Int32))] μ8 (fun v μ' => jS g ad m_X5_step κ 57 [none, none, none, none, none] (jm_ps v []) μ'))) ∧
    (p1.toInt = 1 →
    ((¬ p2 = (58 : Int32) →
    P (some (.int (4 : Int32))) μ) ∧
    (p2 = (58 : Int32) →
    P (some (.int (2 : Int32))) μ))) ∧
    (p1.toInt = 2 →
    (∀ μ9 : Nat → Nat → Int32, μ9 = jm_st μ 26 5 (p2 - (48 : Int32)) →
    (((1 : Int32) = 0 →
    P (some (.int (4 : Int32))) μ9) ∧
    (¬ (1 : Int32) = 0 →
    P (some (.int (3 : Int32))) μ9)))))))))) :
    jS g ad m_X5_step κ 0 [some (.ref 26), some (.int p1), some (.int p2), none, none] [] μ := by
  refine jr_iload_n dX5_step_0 rfl ?_
  refine jr_bipush (48 : Int32) dX5_step_1 (by decide) ?_
  refine jr_isub dX5_step_3 ?_
  refine jr_istore_n [some (.ref 26), some (.int p1), some (.int p2), some (.int (p2 - (48 : Int32))), none] dX5_step_4 rfl rfl rfl ?_
  refine jr_iload_n dX5_step_5 rfl ?_
  obtain ⟨hA, hB⟩ := h
  refine jr_if_lt 19 dX5_step_6 rfl (fun c => ?_) (fun c => ?_)
  · have h := hA c
    refine jr_iconst (0 : Int32) dX5_step_19 (by decide) ?_
    refine jr_istore [some (.ref 26), some (.int p1), some (.int p2), some (.int (p2 - (48 : Int32))), some (.int (0 : Int32))] dX5_step_20 rfl rfl rfl ?_
    refine jr_iload_n dX5_step_22 rfl ?_
    obtain ⟨hD, h⟩ := h
    by_cases c : p1.toInt < 0 ∨ 2 < p1.toInt
    · have h := hD c
      refine jr_tableOut 94 dX5_step_23 c rfl ?_
      refine jr_iload_n dX5_step_94 rfl ?_
      refine jr_bipush (59 : Int32) dX5_step_95 (by decide) ?_
      obtain ⟨hA, hB⟩ := h
      refine jr_icmp_ne 106 dX5_step_97 rfl (fun c => ?_) (fun c => ?_)
      · have h := hA c
        refine jr_iload dX5_step_106 rfl ?_
        obtain ⟨hA, hB⟩ := h
        refine jr_if_eq 118 dX5_step_108 rfl (fun c => ?_) (fun c => ?_)
        · have h := hA c
          refine jr_iconst (4 : Int32) dX5_step_118 (by decide) ?_
          exact js_iret hE rfl dX5_step_119 rfl h
        · have h := hB c
          refine jr_aload_n dX5_step_111 rfl ?_
          refine jr_get 5 5 jf_RX5_40 dX5_step_112 ga_26 rfl (.int (μ 26 5)) rfl ?_
          obtain ⟨hA, hB⟩ := h
          refine jr_if_ne 120 dX5_step_115 rfl (fun c => ?_) (fun c => ?_)
          · have h := hA c
            refine jr_aload_n dX5_step_120 rfl ?_
            refine jr_aload_n dX5_step_121 rfl ?_
            refine jr_get 5 5 jf_RX5_40 dX5_step_122 ga_26 rfl (.int (μ 26 5)) rfl ?_
            refine jr_bipush (10 : Int32) dX5_step_125 (by decide) ?_
            refine jr_imul dX5_step_127 ?_
            refine jr_iload_n dX5_step_128 rfl ?_
            refine jr_iadd dX5_step_129 ?_
            refine jr_putI 5 5 jf_RX5_40 dX5_step_130 ga_26 rfl ?_
            obtain ⟨μ1, e1⟩ : ∃ x : Nat → Nat → Int32, x = jm_st μ 26 5 (((μ 26 5) * (10 : Int32)) + (p2 - (48 : Int32))) := ⟨_, rfl⟩
            have h := h μ1 e1
            refine js_mem e1 ?_
            refine jr_aload_n dX5_step_133 rfl ?_
            refine jr_get 5 5 jf_RX5_40 dX5_step_134 ga_26 rfl (.int (μ1 26 5)) rfl ?_
            refine jr_ldc (99999 : Int32) dX5_step_137 jk_RX5_43 ?_
            obtain ⟨hA, hB⟩ := h
            refine jr_icmp_gt 146 dX5_step_139 rfl (fun c => ?_) (fun c => ?_)
            · have h := hA c
              refine jr_iconst (4 : Int32) dX5_step_146 (by decide) ?_
              exact js_iret hE rfl dX5_step_147 rfl h
            · have h := hB c
              refine jr_iconst (3 : Int32) dX5_step_142 (by decide) ?_
              refine jr_goto 147 dX5_step_143 rfl ?_
              exact js_iret hE rfl dX5_step_147 rfl h
          · have h := hB c
            refine jr_iconst (4 : Int32) dX5_step_118 (by decide) ?_
            exact js_iret hE rfl dX5_step_119 rfl h
      · have h := hB c
        refine jr_aload_n dX5_step_100 rfl ?_
        refine js_drop 0 [none, some (.int p1), some (.int p2), some (.int (p2 - (48 : Int32))), some (.int (0 : Int32))] rfl ?_
        refine js_drop 1 [none, none, some (.int p2), some (.int (p2 - (48 : Int32))), some (.int (0 : Int32))] rfl ?_
        refine js_drop 2 [none, none, none, some (.int (p2 - (48 : Int32))), some (.int (0 : Int32))] rfl ?_
        refine js_drop 3 [none, none, none, none, some (.int (0 : Int32))] rfl ?_
        refine js_drop 4 [none, none, none, none, none] rfl ?_
        refine js_callV (st := []) [] jc_RX5_30 rfl dX5_step_101 ga_26 rfl rfl rfl rfl (kk := ?_)
        exact h
    rcases (show p1.toInt = 0 ∨ p1.toInt = 1 ∨ p1.toInt = 2 by omega) with c | c | c
    · have h := h.1 c
      refine jr_tableIn 0 25 48 dX5_step_23 c (by decide) rfl rfl ?_
      refine jr_aload_n dX5_step_48 rfl ?_
      refine jr_iload_n dX5_step_49 rfl ?_
      refine jr_putI 5 4 jf_RX5_33 dX5_step_50 ga_26 rfl ?_
      obtain ⟨μ2, e2⟩ : ∃ x : Nat → Nat → Int32, x = jm_st μ 26 4 (p2 - (48 : Int32)) := ⟨_, rfl⟩
      have h := h μ2 e2
      refine js_mem e2 ?_
      refine jr_iload_n dX5_step_53 rfl ?_
      refine js_drop 0 [none, some (.int p1), some (.int p2), some (.int (p2 - (48 : Int32))), some (.int (0 : Int32))] rfl ?_
      refine js_drop 1 [none, none, some (.int p2), some (.int (p2 - (48 : Int32))), some (.int (0 : Int32))] rfl ?_
      refine js_drop 2 [none, none, none, some (.int (p2 - (48 : Int32))), some (.int (0 : Int32))] rfl ?_
      refine js_drop 3 [none, none, none, none, some (.int (0 : Int32))] rfl ?_
      refine js_drop 4 [none, none, none, none, none] rfl ?_
      refine js_callNS (st := []) [.int (p2 - (48 : Int32))] jc_RX5_36 rfl dX5_step_54 rfl rfl rfl (kk := ?_)
      exact h
    · have h := h.2.1 c
      refine jr_tableIn 1 43 66 dX5_step_23 c (by decide) rfl rfl ?_
      refine jr_iload_n dX5_step_66 rfl ?_
      refine jr_bipush (58 : Int32) dX5_step_67 (by decide) ?_
      obtain ⟨hA, hB⟩ := h
      refine jr_icmp_ne 76 dX5_step_69 rfl (fun c => ?_) (fun c => ?_)
      · have h := hA c
        refine jr_iconst (4 : Int32) dX5_step_76 (by decide) ?_
        exact js_iret hE rfl dX5_step_77 rfl h
      · have h := hB c
        refine jr_iconst (2 : Int32) dX5_step_72 (by decide) ?_
        refine jr_goto 77 dX5_step_73 rfl ?_
        exact js_iret hE rfl dX5_step_77 rfl h
    · have h := h.2.2 c
      refine jr_tableIn 2 55 78 dX5_step_23 c (by decide) rfl rfl ?_
      refine jr_aload_n dX5_step_78 rfl ?_
      refine jr_iload_n dX5_step_79 rfl ?_
      refine jr_putI 5 5 jf_RX5_40 dX5_step_80 ga_26 rfl ?_
      obtain ⟨μ3, e3⟩ : ∃ x : Nat → Nat → Int32, x = jm_st μ 26 5 (p2 - (48 : Int32)) := ⟨_, rfl⟩
      have h := h μ3 e3
      refine js_mem e3 ?_
      refine jr_iload dX5_step_83 rfl ?_
      obtain ⟨hA, hB⟩ := h
      refine jr_if_eq 92 dX5_step_85 rfl (fun c => ?_) (fun c => ?_)
      · have h := hA c
        refine jr_iconst (4 : Int32) dX5_step_92 (by decide) ?_
        exact js_iret hE rfl dX5_step_93 rfl h
      · have h := hB c
        refine jr_iconst (3 : Int32) dX5_step_88 (by decide) ?_
        refine jr_goto 93 dX5_step_89 rfl ?_
        exact js_iret hE rfl dX5_step_93 rfl h
  · have h := hB c
    refine jr_iload_n dX5_step_9 rfl ?_
    refine jr_bipush (9 : Int32) dX5_step_10 (by decide) ?_
    obtain ⟨hA, hB⟩ := h
    refine jr_icmp_gt 19 dX5_step_12 rfl (fun c => ?_) (fun c => ?_)
    · have h := hA c
      refine jr_iconst (0 : Int32) dX5_step_19 (by decide) ?_
      refine jr_istore [some (.ref 26), some (.int p1), some (.int p2), some (.int (p2 - (48 : Int32))), some (.int (0 : Int32))] dX5_step_20 rfl rfl rfl ?_
      refine jr_iload_n dX5_step_22 rfl ?_
      obtain ⟨hD, h⟩ := h
      by_cases c : p1.toInt < 0 ∨ 2 < p1.toInt
      · have h := hD c
        refine jr_tableOut 94 dX5_step_23 c rfl ?_
        refine jr_iload_n dX5_step_94 rfl ?_
        refine jr_bipush (59 : Int32) dX5_step_95 (by decide) ?_
        obtain ⟨hA, hB⟩ := h
        refine jr_icmp_ne 106 dX5_step_97 rfl (fun c => ?_) (fun c => ?_)
        · have h := hA c
          refine jr_iload dX5_step_106 rfl ?_
          obtain ⟨hA, hB⟩ := h
          refine jr_if_eq 118 dX5_step_108 rfl (fun c => ?_) (fun c => ?_)
          · have h := hA c
            refine jr_iconst (4 : Int32) dX5_step_118 (by decide) ?_
            exact js_iret hE rfl dX5_step_119 rfl h
          · have h := hB c
            refine jr_aload_n dX5_step_111 rfl ?_
            refine jr_get 5 5 jf_RX5_40 dX5_step_112 ga_26 rfl (.int (μ 26 5)) rfl ?_
            obtain ⟨hA, hB⟩ := h
            refine jr_if_ne 120 dX5_step_115 rfl (fun c => ?_) (fun c => ?_)
            · have h := hA c
              refine jr_aload_n dX5_step_120 rfl ?_
              refine jr_aload_n dX5_step_121 rfl ?_
              refine jr_get 5 5 jf_RX5_40 dX5_step_122 ga_26 rfl (.int (μ 26 5)) rfl ?_
              refine jr_bipush (10 : Int32) dX5_step_125 (by decide) ?_
              refine jr_imul dX5_step_127 ?_
              refine jr_iload_n dX5_step_128 rfl ?_
              refine jr_iadd dX5_step_129 ?_
              refine jr_putI 5 5 jf_RX5_40 dX5_step_130 ga_26 rfl ?_
              obtain ⟨μ4, e4⟩ : ∃ x : Nat → Nat → Int32, x = jm_st μ 26 5 (((μ 26 5) * (10 : Int32)) + (p2 - (48 : Int32))) := ⟨_, rfl⟩
              have h := h μ4 e4
              refine js_mem e4 ?_
              refine jr_aload_n dX5_step_133 rfl ?_
              refine jr_get 5 5 jf_RX5_40 dX5_step_134 ga_26 rfl (.int (μ4 26 5)) rfl ?_
              refine jr_ldc (99999 : Int32) dX5_step_137 jk_RX5_43 ?_
              obtain ⟨hA, hB⟩ := h
              refine jr_icmp_gt 146 dX5_step_139 rfl (fun c => ?_) (fun c => ?_)
              · have h := hA c
                refine jr_iconst (4 : Int32) dX5_step_146 (by decide) ?_
                exact js_iret hE rfl dX5_step_147 rfl h
              · have h := hB c
                refine jr_iconst (3 : Int32) dX5_step_142 (by decide) ?_
                refine jr_goto 147 dX5_step_143 rfl ?_
                exact js_iret hE rfl dX5_step_147 rfl h
            · have h := hB c
              refine jr_iconst (4 : Int32) dX5_step_118 (by decide) ?_
              exact js_iret hE rfl dX5_step_119 rfl h
        · have h := hB c
          refine jr_aload_n dX5_step_100 rfl ?_
          refine js_drop 0 [none, some (.int p1), some (.int p2), some (.int (p2 - (48 : Int32))), some (.int (0 : Int32))] rfl ?_
          refine js_drop 1 [none, none, some (.int p2), some (.int (p2 - (48 : Int32))), some (.int (0 : Int32))] rfl ?_
          refine js_drop 2 [none, none, none, some (.int (p2 - (48 : Int32))), some (.int (0 : Int32))] rfl ?_
          refine js_drop 3 [none, none, none, none, some (.int (0 : Int32))] rfl ?_
          refine js_drop 4 [none, none, none, none, none] rfl ?_
          refine js_callV (st := []) [] jc_RX5_30 rfl dX5_step_101 ga_26 rfl rfl rfl rfl (kk := ?_)
          exact h
      rcases (show p1.toInt = 0 ∨ p1.toInt = 1 ∨ p1.toInt = 2 by omega) with c | c | c
      · have h := h.1 c
        refine jr_tableIn 0 25 48 dX5_step_23 c (by decide) rfl rfl ?_
        refine jr_aload_n dX5_step_48 rfl ?_
        refine jr_iload_n dX5_step_49 rfl ?_
        refine jr_putI 5 4 jf_RX5_33 dX5_step_50 ga_26 rfl ?_
        obtain ⟨μ5, e5⟩ : ∃ x : Nat → Nat → Int32, x = jm_st μ 26 4 (p2 - (48 : Int32)) := ⟨_, rfl⟩
        have h := h μ5 e5
        refine js_mem e5 ?_
        refine jr_iload_n dX5_step_53 rfl ?_
        refine js_drop 0 [none, some (.int p1), some (.int p2), some (.int (p2 - (48 : Int32))), some (.int (0 : Int32))] rfl ?_
        refine js_drop 1 [none, none, some (.int p2), some (.int (p2 - (48 : Int32))), some (.int (0 : Int32))] rfl ?_
        refine js_drop 2 [none, none, none, some (.int (p2 - (48 : Int32))), some (.int (0 : Int32))] rfl ?_
        refine js_drop 3 [none, none, none, none, some (.int (0 : Int32))] rfl ?_
        refine js_drop 4 [none, none, none, none, none] rfl ?_
        refine js_callNS (st := []) [.int (p2 - (48 : Int32))] jc_RX5_36 rfl dX5_step_54 rfl rfl rfl (kk := ?_)
        exact h
      · have h := h.2.1 c
        refine jr_tableIn 1 43 66 dX5_step_23 c (by decide) rfl rfl ?_
        refine jr_iload_n dX5_step_66 rfl ?_
        refine jr_bipush (58 : Int32) dX5_step_67 (by decide) ?_
        obtain ⟨hA, hB⟩ := h
        refine jr_icmp_ne 76 dX5_step_69 rfl (fun c => ?_) (fun c => ?_)
        · have h := hA c
          refine jr_iconst (4 : Int32) dX5_step_76 (by decide) ?_
          exact js_iret hE rfl dX5_step_77 rfl h
        · have h := hB c
          refine jr_iconst (2 : Int32) dX5_step_72 (by decide) ?_
          refine jr_goto 77 dX5_step_73 rfl ?_
          exact js_iret hE rfl dX5_step_77 rfl h
      · have h := h.2.2 c
        refine jr_tableIn 2 55 78 dX5_step_23 c (by decide) rfl rfl ?_
        refine jr_aload_n dX5_step_78 rfl ?_
        refine jr_iload_n dX5_step_79 rfl ?_
        refine jr_putI 5 5 jf_RX5_40 dX5_step_80 ga_26 rfl ?_
        obtain ⟨μ6, e6⟩ : ∃ x : Nat → Nat → Int32, x = jm_st μ 26 5 (p2 - (48 : Int32)) := ⟨_, rfl⟩
        have h := h μ6 e6
        refine js_mem e6 ?_
        refine jr_iload dX5_step_83 rfl ?_
        obtain ⟨hA, hB⟩ := h
        refine jr_if_eq 92 dX5_step_85 rfl (fun c => ?_) (fun c => ?_)
        · have h := hA c
          refine jr_iconst (4 : Int32) dX5_step_92 (by decide) ?_
          exact js_iret hE rfl dX5_step_93 rfl h
        · have h := hB c
          refine jr_iconst (3 : Int32) dX5_step_88 (by decide) ?_
          refine jr_goto 93 dX5_step_89 rfl ?_
          exact js_iret hE rfl dX5_step_93 rfl h
    · have h := hB c
      refine jr_iconst (1 : Int32) dX5_step_15 (by decide) ?_
      refine jr_goto 20 dX5_step_16 rfl ?_
      refine jr_istore [some (.ref 26), some (.int p1), some (.int p2), some (.int (p2 - (48 : Int32))), some (.int (1 : Int32))] dX5_step_20 rfl rfl rfl ?_
      refine jr_iload_n dX5_step_22 rfl ?_
      obtain ⟨hD, h⟩ := h
      by_cases c : p1.toInt < 0 ∨ 2 < p1.toInt
      · have h := hD c
        refine jr_tableOut 94 dX5_step_23 c rfl ?_
        refine jr_iload_n dX5_step_94 rfl ?_
        refine jr_bipush (59 : Int32) dX5_step_95 (by decide) ?_
        obtain ⟨hA, hB⟩ := h
        refine jr_icmp_ne 106 dX5_step_97 rfl (fun c => ?_) (fun c => ?_)
        · have h := hA c
          refine jr_iload dX5_step_106 rfl ?_
          obtain ⟨hA, hB⟩ := h
          refine jr_if_eq 118 dX5_step_108 rfl (fun c => ?_) (fun c => ?_)
          · have h := hA c
            refine jr_iconst (4 : Int32) dX5_step_118 (by decide) ?_
            exact js_iret hE rfl dX5_step_119 rfl h
          · have h := hB c
            refine jr_aload_n dX5_step_111 rfl ?_
            refine jr_get 5 5 jf_RX5_40 dX5_step_112 ga_26 rfl (.int (μ 26 5)) rfl ?_
            obtain ⟨hA, hB⟩ := h
            refine jr_if_ne 120 dX5_step_115 rfl (fun c => ?_) (fun c => ?_)
            · have h := hA c
              refine jr_aload_n dX5_step_120 rfl ?_
              refine jr_aload_n dX5_step_121 rfl ?_
              refine jr_get 5 5 jf_RX5_40 dX5_step_122 ga_26 rfl (.int (μ 26 5)) rfl ?_
              refine jr_bipush (10 : Int32) dX5_step_125 (by decide) ?_
              refine jr_imul dX5_step_127 ?_
              refine jr_iload_n dX5_step_128 rfl ?_
              refine jr_iadd dX5_step_129 ?_
              refine jr_putI 5 5 jf_RX5_40 dX5_step_130 ga_26 rfl ?_
              obtain ⟨μ7, e7⟩ : ∃ x : Nat → Nat → Int32, x = jm_st μ 26 5 (((μ 26 5) * (10 : Int32)) + (p2 - (48 : Int32))) := ⟨_, rfl⟩
              have h := h μ7 e7
              refine js_mem e7 ?_
              refine jr_aload_n dX5_step_133 rfl ?_
              refine jr_get 5 5 jf_RX5_40 dX5_step_134 ga_26 rfl (.int (μ7 26 5)) rfl ?_
              refine jr_ldc (99999 : Int32) dX5_step_137 jk_RX5_43 ?_
              obtain ⟨hA, hB⟩ := h
              refine jr_icmp_gt 146 dX5_step_139 rfl (fun c => ?_) (fun c => ?_)
              · have h := hA c
                refine jr_iconst (4 : Int32) dX5_step_146 (by decide) ?_
                exact js_iret hE rfl dX5_step_147 rfl h
              · have h := hB c
                refine jr_iconst (3 : Int32) dX5_step_142 (by decide) ?_
                refine jr_goto 147 dX5_step_143 rfl ?_
                exact js_iret hE rfl dX5_step_147 rfl h
            · have h := hB c
              refine jr_iconst (4 : Int32) dX5_step_118 (by decide) ?_
              exact js_iret hE rfl dX5_step_119 rfl h
        · have h := hB c
          refine jr_aload_n dX5_step_100 rfl ?_
          refine js_drop 0 [none, some (.int p1), some (.int p2), some (.int (p2 - (48 : Int32))), some (.int (1 : Int32))] rfl ?_
          refine js_drop 1 [none, none, some (.int p2), some (.int (p2 - (48 : Int32))), some (.int (1 : Int32))] rfl ?_
          refine js_drop 2 [none, none, none, some (.int (p2 - (48 : Int32))), some (.int (1 : Int32))] rfl ?_
          refine js_drop 3 [none, none, none, none, some (.int (1 : Int32))] rfl ?_
          refine js_drop 4 [none, none, none, none, none] rfl ?_
          refine js_callV (st := []) [] jc_RX5_30 rfl dX5_step_101 ga_26 rfl rfl rfl rfl (kk := ?_)
          exact h
      rcases (show p1.toInt = 0 ∨ p1.toInt = 1 ∨ p1.toInt = 2 by omega) with c | c | c
      · have h := h.1 c
        refine jr_tableIn 0 25 48 dX5_step_23 c (by decide) rfl rfl ?_
        refine jr_aload_n dX5_step_48 rfl ?_
        refine jr_iload_n dX5_step_49 rfl ?_
        refine jr_putI 5 4 jf_RX5_33 dX5_step_50 ga_26 rfl ?_
        obtain ⟨μ8, e8⟩ : ∃ x : Nat → Nat → Int32, x = jm_st μ 26 4 (p2 - (48 : Int32)) := ⟨_, rfl⟩
        have h := h μ8 e8
        refine js_mem e8 ?_
        refine jr_iload_n dX5_step_53 rfl ?_
        refine js_drop 0 [none, some (.int p1), some (.int p2), some (.int (p2 - (48 : Int32))), some (.int (1 : Int32))] rfl ?_
        refine js_drop 1 [none, none, some (.int p2), some (.int (p2 - (48 : Int32))), some (.int (1 : Int32))] rfl ?_
        refine js_drop 2 [none, none, none, some (.int (p2 - (48 : Int32))), some (.int (1 : Int32))] rfl ?_
        refine js_drop 3 [none, none, none, none, some (.int (1 : Int32))] rfl ?_
        refine js_drop 4 [none, none, none, none, none] rfl ?_
        refine js_callNS (st := []) [.int (p2 - (48 : Int32))] jc_RX5_36 rfl dX5_step_54 rfl rfl rfl (kk := ?_)
        exact h
      · have h := h.2.1 c
        refine jr_tableIn 1 43 66 dX5_step_23 c (by decide) rfl rfl ?_
        refine jr_iload_n dX5_step_66 rfl ?_
        refine jr_bipush (58 : Int32) dX5_step_67 (by decide) ?_
        obtain ⟨hA, hB⟩ := h
        refine jr_icmp_ne 76 dX5_step_69 rfl (fun c => ?_) (fun c => ?_)
        · have h := hA c
          refine jr_iconst (4 : Int32) dX5_step_76 (by decide) ?_
          exact js_iret hE rfl dX5_step_77 rfl h
        · have h := hB c
          refine jr_iconst (2 : Int32) dX5_step_72 (by decide) ?_
          refine jr_goto 77 dX5_step_73 rfl ?_
          exact js_iret hE rfl dX5_step_77 rfl h
      · have h := h.2.2 c
        refine jr_tableIn 2 55 78 dX5_step_23 c (by decide) rfl rfl ?_
        refine jr_aload_n dX5_step_78 rfl ?_
        refine jr_iload_n dX5_step_79 rfl ?_
        refine jr_putI 5 5 jf_RX5_40 dX5_step_80 ga_26 rfl ?_
        obtain ⟨μ9, e9⟩ : ∃ x : Nat → Nat → Int32, x = jm_st μ 26 5 (p2 - (48 : Int32)) := ⟨_, rfl⟩
        have h := h μ9 e9
        refine js_mem e9 ?_
        refine jr_iload dX5_step_83 rfl ?_
        obtain ⟨hA, hB⟩ := h
        refine jr_if_eq 92 dX5_step_85 rfl (fun c => ?_) (fun c => ?_)
        · have h := hA c
          refine jr_iconst (4 : Int32) dX5_step_92 (by decide) ?_
          exact js_iret hE rfl dX5_step_93 rfl h
        · have h := hB c
          refine jr_iconst (3 : Int32) dX5_step_88 (by decide) ?_
          refine jr_goto 93 dX5_step_89 rfl ?_
          exact js_iret hE rfl dX5_step_93 rfl h

set_option maxRecDepth 100000 in
set_option maxHeartbeats 4000000 in
theorem sX5_step_104 {g : jm_G} {ad : Nat → Nat} {κ : jm_K} {P : Option Value → (Nat → Nat → Int32) → Prop} (hE : jE g ad m_X5_step P κ) {μ : Nat → Nat → Int32}  
    (h : P (some (.int (0 : Int32))) μ) :
    jS g ad m_X5_step κ 104 [none, none, none, none, none] [] μ := by
  refine jr_iconst (0 : Int32) dX5_step_104 (by decide) ?_
  exact js_iret hE rfl dX5_step_105 rfl h

set_option maxRecDepth 100000 in
set_option maxHeartbeats 4000000 in
theorem sX5_step_57 {g : jm_G} {ad : Nat → Nat} {κ : jm_K} {P : Option Value → (Nat → Nat → Int32) → Prop} (hE : jE g ad m_X5_step P κ) {μ : Nat → Nat → Int32}  (r : Int32)
    (h : ((r = 0 →
    P (some (.int (4 : Int32))) μ) ∧
    (¬ r = 0 →
    P (some (.int (1 : Int32))) μ))) :
    jS g ad m_X5_step κ 57 [none, none, none, none, none] [.int r] μ := by
  obtain ⟨hA, hB⟩ := h
  refine jr_if_eq 64 dX5_step_57 rfl (fun c => ?_) (fun c => ?_)
  · have h := hA c
    refine jr_iconst (4 : Int32) dX5_step_64 (by decide) ?_
    exact js_iret hE rfl dX5_step_65 rfl h
  · have h := hB c
    refine jr_iconst (1 : Int32) dX5_step_60 (by decide) ?_
    refine jr_goto 65 dX5_step_61 rfl ?_
    exact js_iret hE rfl dX5_step_65 rfl h

set_option maxRecDepth 100000 in
set_option maxHeartbeats 4000000 in
theorem sX5_note_0 {g : jm_G} {ad : Nat → Nat} {κ : jm_K} {P : Option Value → (Nat → Nat → Int32) → Prop} (hE : jE g ad m_X5_note P κ) {μ : Nat → Nat → Int32}  
    (h : (((20 : Int32) ≤ (μ 26 3) →
    P none μ) ∧
    (¬ (20 : Int32) ≤ (μ 26 3) →
    jD g ad m_X8_markOf [.int (μ 26 4), .int (μ 26 5)] μ (fun v μ' => jS g ad m_X5_note κ 31 [some (.ref 26)] (jm_ps v [.int (μ 26 3), .ref 28]) μ')))) :
    jS g ad m_X5_note κ 0 [some (.ref 26)] [] μ := by
  refine jr_aload_n dX5_note_0 rfl ?_
  refine jr_get 5 3 jf_RX5_23 dX5_note_1 ga_26 rfl (.int (μ 26 3)) rfl ?_
  refine jr_aload_n dX5_note_4 rfl ?_
  refine jr_get 5 1 jf_RX5_15 dX5_note_5 ga_26 rfl (.ref 28) rfl ?_
  refine jr_alen dX5_note_8 ga_28 (by decide) (20 : Int32) (by decide) ?_
  obtain ⟨hA, hB⟩ := h
  refine jr_icmp_ge 42 dX5_note_9 rfl (fun c => ?_) (fun c => ?_)
  · have h := hA c
    exact js_vret hE rfl dX5_note_42 rfl h
  · have h := hB c
    refine jr_aload_n dX5_note_12 rfl ?_
    refine jr_get 5 1 jf_RX5_15 dX5_note_13 ga_26 rfl (.ref 28) rfl ?_
    refine jr_aload_n dX5_note_16 rfl ?_
    refine jr_get 5 3 jf_RX5_23 dX5_note_17 ga_26 rfl (.int (μ 26 3)) rfl ?_
    refine jr_aload_n dX5_note_20 rfl ?_
    refine jr_get 5 4 jf_RX5_33 dX5_note_21 ga_26 rfl (.int (μ 26 4)) rfl ?_
    refine jr_aload_n dX5_note_24 rfl ?_
    refine jr_get 5 5 jf_RX5_40 dX5_note_25 ga_26 rfl (.int (μ 26 5)) rfl ?_
    refine js_callNS (st := [.int (μ 26 3), .ref 28]) [.int (μ 26 4), .int (μ 26 5)] jc_RX5_44 rfl dX5_note_28 rfl rfl rfl (kk := ?_)
    exact h

set_option maxRecDepth 100000 in
set_option maxHeartbeats 4000000 in
theorem sX5_note_31 {g : jm_G} {ad : Nat → Nat} {κ : jm_K} {P : Option Value → (Nat → Nat → Int32) → Prop} (hE : jE g ad m_X5_note P κ) {μ : Nat → Nat → Int32}  (r : Int32) (y1 : Int32)
    (h : vp_in y1 20 ∧
    (∀ μ2 : Nat → Nat → Int32, μ2 = jm_st μ 28 y1.toNatClampNeg r →
    (∀ μ3 : Nat → Nat → Int32, μ3 = jm_st μ2 26 3 ((μ2 26 3) + (1 : Int32)) →
    P none μ3))) :
    jS g ad m_X5_note κ 31 [some (.ref 26)] [.int r, .int y1, .ref 28] μ := by
  obtain ⟨o1, h⟩ := h
  refine jr_iastn _ dX5_note_31 ga_28 o1 rfl ?_
  obtain ⟨μ2, e2⟩ : ∃ x : Nat → Nat → Int32, x = jm_st μ 28 y1.toNatClampNeg r := ⟨_, rfl⟩
  have h := h μ2 e2
  refine js_mem e2 ?_
  refine jr_aload_n dX5_note_32 rfl ?_
  refine jr_dup dX5_note_33 rfl ?_
  refine jr_get 5 3 jf_RX5_23 dX5_note_34 ga_26 rfl (.int (μ2 26 3)) rfl ?_
  refine jr_iconst (1 : Int32) dX5_note_37 (by decide) ?_
  refine jr_iadd dX5_note_38 ?_
  refine jr_putI 5 3 jf_RX5_23 dX5_note_39 ga_26 rfl ?_
  obtain ⟨μ3, e3⟩ : ∃ x : Nat → Nat → Int32, x = jm_st μ2 26 3 ((μ2 26 3) + (1 : Int32)) := ⟨_, rfl⟩
  have h := h μ3 e3
  refine js_mem e3 ?_
  exact js_vret hE rfl dX5_note_42 rfl h

set_option maxRecDepth 100000 in
set_option maxHeartbeats 4000000 in
theorem sX6_become_0 {g : jm_G} {ad : Nat → Nat} {κ : jm_K} {P : Option Value → (Nat → Nat → Int32) → Prop} (hE : jE g ad m_X6_become P κ) {μ : Nat → Nat → Int32} (t : Nat) (ht : jm_Shot t) 
    (h : ¬ (0 : Int32) < 0 ∧ ¬ (0 : Int32) < 0 ∧ ¬ (4 : Int32) < 0 ∧ (0 : Int32).toNatClampNeg + (4 : Int32).toNatClampNeg ≤ 4 ∧ (0 : Int32).toNatClampNeg + (4 : Int32).toNatClampNeg ≤ 4 ∧
    (∀ μ6 : Nat → Nat → Int32, μ6 = jm_up μ (t + 1) (va_cpy (μ 37) (μ (t + 1)) (0 : Int32).toNatClampNeg (0 : Int32).toNatClampNeg (4 : Int32).toNatClampNeg) →
    (∀ μ7 : Nat → Nat → Int32, μ7 = jm_st μ6 t 1 (μ6 33 1) →
    (∀ μ8 : Nat → Nat → Int32, μ8 = jm_st μ7 t 2 (μ7 33 2) →
    (∀ μ9 : Nat → Nat → Int32, μ9 = jm_st μ8 t 3 (μ8 33 3) →
    jD g ad m_X1_leastStart [.ref 33, .ref 29] μ9 (fun v μ' => jS g ad m_X6_become κ 41 [some (.ref t), some (.ref 29), none, none] (jm_ps v [.ref t]) μ')))))) :
    jS g ad m_X6_become κ 0 [some (.ref t), some (.ref 29), some (.ref 33), some (.ref 37)] [] μ := by
  refine jr_aload_n dX6_become_0 rfl ?_
  refine jr_iconst (0 : Int32) dX6_become_1 (by decide) ?_
  refine jr_aload_n dX6_become_2 rfl ?_
  refine jr_get 6 0 jf_RX6_9 dX6_become_3 ht.1 rfl (.ref (t + 1)) rfl ?_
  refine jr_iconst (0 : Int32) dX6_become_6 (by decide) ?_
  refine jr_iconst (4 : Int32) dX6_become_7 (by decide) ?_
  obtain ⟨o1, o2, o3, o4, o5, h⟩ := h
  refine jr_copy jc_RX6_15 dX6_become_8 rfl rfl ga_37 ht.2 o1 o2 o3 o4 o5 ?_
  obtain ⟨μ6, e6⟩ : ∃ x : Nat → Nat → Int32, x = jm_up μ (t + 1) (va_cpy (μ 37) (μ (t + 1)) (0 : Int32).toNatClampNeg (0 : Int32).toNatClampNeg (4 : Int32).toNatClampNeg) := ⟨_, rfl⟩
  have h := h μ6 e6
  refine js_mem e6 ?_
  refine jr_aload_n dX6_become_11 rfl ?_
  refine jr_aload_n dX6_become_12 rfl ?_
  refine jr_get 1 1 jf_RX6_21 dX6_become_13 ga_33 rfl (.int (μ6 33 1)) rfl ?_
  refine jr_putI 6 1 jf_RX6_27 dX6_become_16 ht.1 rfl ?_
  obtain ⟨μ7, e7⟩ : ∃ x : Nat → Nat → Int32, x = jm_st μ6 t 1 (μ6 33 1) := ⟨_, rfl⟩
  have h := h μ7 e7
  refine js_mem e7 ?_
  refine jr_aload_n dX6_become_19 rfl ?_
  refine jr_aload_n dX6_become_20 rfl ?_
  refine jr_get 1 2 jf_RX6_28 dX6_become_21 ga_33 rfl (.int (μ7 33 2)) rfl ?_
  refine jr_putI 6 2 jf_RX6_31 dX6_become_24 ht.1 rfl ?_
  obtain ⟨μ8, e8⟩ : ∃ x : Nat → Nat → Int32, x = jm_st μ7 t 2 (μ7 33 2) := ⟨_, rfl⟩
  have h := h μ8 e8
  refine js_mem e8 ?_
  refine jr_aload_n dX6_become_27 rfl ?_
  refine jr_aload_n dX6_become_28 rfl ?_
  refine jr_get 1 3 jf_RX6_32 dX6_become_29 ga_33 rfl (.int (μ8 33 3)) rfl ?_
  refine jr_putI 6 3 jf_RX6_35 dX6_become_32 ht.1 rfl ?_
  obtain ⟨μ9, e9⟩ : ∃ x : Nat → Nat → Int32, x = jm_st μ8 t 3 (μ8 33 3) := ⟨_, rfl⟩
  have h := h μ9 e9
  refine js_mem e9 ?_
  refine jr_aload_n dX6_become_35 rfl ?_
  refine jr_aload_n dX6_become_36 rfl ?_
  refine jr_aload_n dX6_become_37 rfl ?_
  refine js_drop 2 [some (.ref t), some (.ref 29), none, some (.ref 37)] rfl ?_
  refine js_drop 3 [some (.ref t), some (.ref 29), none, none] rfl ?_
  refine js_callV (st := [.ref t]) [.ref 29] jc_RX6_36 rfl dX6_become_38 ga_33 rfl rfl rfl rfl (kk := ?_)
  exact h

set_option maxRecDepth 100000 in
set_option maxHeartbeats 4000000 in
theorem sX6_become_41 {g : jm_G} {ad : Nat → Nat} {κ : jm_K} {P : Option Value → (Nat → Nat → Int32) → Prop} (hE : jE g ad m_X6_become P κ) {μ : Nat → Nat → Int32} (t : Nat) (ht : jm_Shot t) (r : Int32)
    (h : (∀ μ1 : Nat → Nat → Int32, μ1 = jm_st μ t 4 r →
    jD g ad m_X2_distance [.ref 29, .int (μ1 t 1), .int (μ1 t 2), .int (20 : Int32), .int (20 : Int32)] μ1 (fun v μ' => jS g ad m_X6_become κ 64 [none, none, none, none] (jm_ps v [.int (10 : Int32), .int (0 : Int32), .ref t]) μ'))) :
    jS g ad m_X6_become κ 41 [some (.ref t), some (.ref 29), none, none] [.int r, .ref t] μ := by
  refine jr_putI 6 4 jf_RX6_40 dX6_become_41 ht.1 rfl ?_
  obtain ⟨μ1, e1⟩ : ∃ x : Nat → Nat → Int32, x = jm_st μ t 4 r := ⟨_, rfl⟩
  have h := h μ1 e1
  refine js_mem e1 ?_
  refine jr_aload_n dX6_become_44 rfl ?_
  refine jr_iconst (0 : Int32) dX6_become_45 (by decide) ?_
  refine jr_bipush (10 : Int32) dX6_become_46 (by decide) ?_
  refine jr_aload_n dX6_become_48 rfl ?_
  refine jr_aload_n dX6_become_49 rfl ?_
  refine jr_get 6 1 jf_RX6_27 dX6_become_50 ht.1 rfl (.int (μ1 t 1)) rfl ?_
  refine jr_aload_n dX6_become_53 rfl ?_
  refine jr_get 6 2 jf_RX6_31 dX6_become_54 ht.1 rfl (.int (μ1 t 2)) rfl ?_
  refine jr_bipush (20 : Int32) dX6_become_57 (by decide) ?_
  refine jr_bipush (20 : Int32) dX6_become_59 (by decide) ?_
  refine js_drop 0 [none, some (.ref 29), none, none] rfl ?_
  refine js_drop 1 [none, none, none, none] rfl ?_
  refine js_callV (st := [.int (10 : Int32), .int (0 : Int32), .ref t]) [.int (μ1 t 1), .int (μ1 t 2), .int (20 : Int32), .int (20 : Int32)] jc_RX6_43 rfl dX6_become_61 ga_29 rfl rfl rfl rfl (kk := ?_)
  exact h

set_option maxRecDepth 100000 in
set_option maxHeartbeats 4000000 in
theorem sX6_become_64 {g : jm_G} {ad : Nat → Nat} {κ : jm_K} {P : Option Value → (Nat → Nat → Int32) → Prop} (hE : jE g ad m_X6_become P κ) {μ : Nat → Nat → Int32} (t : Nat) (ht : jm_Shot t) (r : Int32) (y1 : Int32) (y2 : Int32)
    (h : (∀ μ1 : Nat → Nat → Int32, μ1 = jm_st μ t 5 (if y2 < (y1 - (r / (200 : Int32))) then (y1 - (r / (200 : Int32))) else y2) →
    P none μ1)) :
    jS g ad m_X6_become κ 64 [none, none, none, none] [.int r, .int y1, .int y2, .ref t] μ := by
  refine jr_sipush (200 : Int32) dX6_become_64 (by decide) ?_
  refine jr_idiv dX6_become_67 (by decide) ?_
  refine jr_isub dX6_become_68 ?_
  refine jr_max jc_RX6_49 dX6_become_69 rfl rfl rfl ?_
  refine jr_putI 6 5 jf_RX6_55 dX6_become_72 ht.1 rfl ?_
  obtain ⟨μ1, e1⟩ : ∃ x : Nat → Nat → Int32, x = jm_st μ t 5 (if y2 < (y1 - (r / (200 : Int32))) then (y1 - (r / (200 : Int32))) else y2) := ⟨_, rfl⟩
  have h := h μ1 e1
  refine js_mem e1 ?_
  exact js_vret hE rfl dX6_become_75 rfl h

set_option maxRecDepth 100000 in
set_option maxHeartbeats 4000000 in
theorem sX6_tell_0 {g : jm_G} {ad : Nat → Nat} {κ : jm_K} {P : Option Value → (Nat → Nat → Int32) → Prop} (hE : jE g ad m_X6_tell P κ) {μ : Nat → Nat → Int32} (t : Nat) (ht : jm_Shot t) (p1 : Int32)
    (h : ((p1.toInt < 0 ∨ 8 < p1.toInt →
    P (some (.int (-2 : Int32))) μ) ∧
    (p1.toInt = 0 →
    P (some (.int (μ t 1))) μ) ∧
    (p1.toInt = 1 →
    P (some (.int (μ t 2))) μ) ∧
    (p1.toInt = 2 →
    P (some (.int (μ t 3))) μ) ∧
    (p1.toInt = 3 →
    P (some (.int ((μ t 4) + (10000 : Int32)))) μ) ∧
    (p1.toInt = 4 →
    P (some (.int (μ t 5))) μ) ∧
    (p1.toInt = 5 →
    P (some (.int (μ (t + 1) 0))) μ) ∧
    (p1.toInt = 6 →
    P (some (.int (μ (t + 1) 1))) μ) ∧
    (p1.toInt = 7 →
    P (some (.int (μ (t + 1) 2))) μ) ∧
    (p1.toInt = 8 →
    P (some (.int (μ (t + 1) 3))) μ))) :
    jS g ad m_X6_tell κ 0 [some (.ref t), some (.int p1)] [] μ := by
  refine jr_iload_n dX6_tell_0 rfl ?_
  obtain ⟨hD, h⟩ := h
  by_cases c : p1.toInt < 0 ∨ 8 < p1.toInt
  · have h := hD c
    refine jr_tableOut 109 dX6_tell_1 c rfl ?_
    refine jr_bipush (-2 : Int32) dX6_tell_109 (by decide) ?_
    exact js_iret hE rfl dX6_tell_111 rfl h
  rcases (show p1.toInt = 0 ∨ p1.toInt = 1 ∨ p1.toInt = 2 ∨ p1.toInt = 3 ∨ p1.toInt = 4 ∨ p1.toInt = 5 ∨ p1.toInt = 6 ∨ p1.toInt = 7 ∨ p1.toInt = 8 by omega) with c | c | c | c | c | c | c | c | c
  · have h := h.1 c
    refine jr_tableIn 0 51 52 dX6_tell_1 c (by decide) rfl rfl ?_
    refine jr_aload_n dX6_tell_52 rfl ?_
    refine jr_get 6 1 jf_RX6_27 dX6_tell_53 ht.1 rfl (.int (μ t 1)) rfl ?_
    exact js_iret hE rfl dX6_tell_56 rfl h
  · have h := h.2.1 c
    refine jr_tableIn 1 56 57 dX6_tell_1 c (by decide) rfl rfl ?_
    refine jr_aload_n dX6_tell_57 rfl ?_
    refine jr_get 6 2 jf_RX6_31 dX6_tell_58 ht.1 rfl (.int (μ t 2)) rfl ?_
    exact js_iret hE rfl dX6_tell_61 rfl h
  · have h := h.2.2.1 c
    refine jr_tableIn 2 61 62 dX6_tell_1 c (by decide) rfl rfl ?_
    refine jr_aload_n dX6_tell_62 rfl ?_
    refine jr_get 6 3 jf_RX6_35 dX6_tell_63 ht.1 rfl (.int (μ t 3)) rfl ?_
    exact js_iret hE rfl dX6_tell_66 rfl h
  · have h := h.2.2.2.1 c
    refine jr_tableIn 3 66 67 dX6_tell_1 c (by decide) rfl rfl ?_
    refine jr_aload_n dX6_tell_67 rfl ?_
    refine jr_get 6 4 jf_RX6_40 dX6_tell_68 ht.1 rfl (.int (μ t 4)) rfl ?_
    refine jr_sipush (10000 : Int32) dX6_tell_71 (by decide) ?_
    refine jr_iadd dX6_tell_74 ?_
    exact js_iret hE rfl dX6_tell_75 rfl h
  · have h := h.2.2.2.2.1 c
    refine jr_tableIn 4 75 76 dX6_tell_1 c (by decide) rfl rfl ?_
    refine jr_aload_n dX6_tell_76 rfl ?_
    refine jr_get 6 5 jf_RX6_55 dX6_tell_77 ht.1 rfl (.int (μ t 5)) rfl ?_
    exact js_iret hE rfl dX6_tell_80 rfl h
  · have h := h.2.2.2.2.2.1 c
    refine jr_tableIn 5 80 81 dX6_tell_1 c (by decide) rfl rfl ?_
    refine jr_aload_n dX6_tell_81 rfl ?_
    refine jr_get 6 0 jf_RX6_9 dX6_tell_82 ht.1 rfl (.ref (t + 1)) rfl ?_
    refine jr_iconst (0 : Int32) dX6_tell_85 (by decide) ?_
    refine jr_ialdn 0 dX6_tell_86 ht.2 (jm_inD (by decide)) rfl ?_
    exact js_iret hE rfl dX6_tell_87 rfl h
  · have h := h.2.2.2.2.2.2.1 c
    refine jr_tableIn 6 87 88 dX6_tell_1 c (by decide) rfl rfl ?_
    refine jr_aload_n dX6_tell_88 rfl ?_
    refine jr_get 6 0 jf_RX6_9 dX6_tell_89 ht.1 rfl (.ref (t + 1)) rfl ?_
    refine jr_iconst (1 : Int32) dX6_tell_92 (by decide) ?_
    refine jr_ialdn 1 dX6_tell_93 ht.2 (jm_inD (by decide)) rfl ?_
    exact js_iret hE rfl dX6_tell_94 rfl h
  · have h := h.2.2.2.2.2.2.2.1 c
    refine jr_tableIn 7 94 95 dX6_tell_1 c (by decide) rfl rfl ?_
    refine jr_aload_n dX6_tell_95 rfl ?_
    refine jr_get 6 0 jf_RX6_9 dX6_tell_96 ht.1 rfl (.ref (t + 1)) rfl ?_
    refine jr_iconst (2 : Int32) dX6_tell_99 (by decide) ?_
    refine jr_ialdn 2 dX6_tell_100 ht.2 (jm_inD (by decide)) rfl ?_
    exact js_iret hE rfl dX6_tell_101 rfl h
  · have h := h.2.2.2.2.2.2.2.2 c
    refine jr_tableIn 8 101 102 dX6_tell_1 c (by decide) rfl rfl ?_
    refine jr_aload_n dX6_tell_102 rfl ?_
    refine jr_get 6 0 jf_RX6_9 dX6_tell_103 ht.1 rfl (.ref (t + 1)) rfl ?_
    refine jr_iconst (3 : Int32) dX6_tell_106 (by decide) ?_
    refine jr_ialdn 3 dX6_tell_107 ht.2 (jm_inD (by decide)) rfl ?_
    exact js_iret hE rfl dX6_tell_108 rfl h

set_option maxRecDepth 100000 in
set_option maxHeartbeats 4000000 in
theorem sX7_reset_0 {g : jm_G} {ad : Nat → Nat} {κ : jm_K} {P : Option Value → (Nat → Nat → Int32) → Prop} (hE : jE g ad m_X7_reset P κ) {μ : Nat → Nat → Int32} (u : Nat) (hu : jm_Shots u) 
    (h : (∀ μ1 : Nat → Nat → Int32, μ1 = jm_st μ u 2 (0 : Int32) →
    jS g ad m_X7_reset κ 7 [some (.ref u), some (.int (0 : Int32))] [] μ1)) :
    jS g ad m_X7_reset κ 0 [some (.ref u), none] [] μ := by
  refine jr_aload_n dX7_reset_0 rfl ?_
  refine jr_iconst (0 : Int32) dX7_reset_1 (by decide) ?_
  refine jr_putI 7 2 jf_RX7_22 dX7_reset_2 hu.1 rfl ?_
  obtain ⟨μ1, e1⟩ : ∃ x : Nat → Nat → Int32, x = jm_st μ u 2 (0 : Int32) := ⟨_, rfl⟩
  have h := h μ1 e1
  refine js_mem e1 ?_
  refine jr_iconst (0 : Int32) dX7_reset_5 (by decide) ?_
  refine jr_istore_n [some (.ref u), some (.int (0 : Int32))] dX7_reset_6 rfl rfl rfl ?_
  exact h

set_option maxRecDepth 100000 in
set_option maxHeartbeats 4000000 in
theorem sX7_reset_7 {g : jm_G} {ad : Nat → Nat} {κ : jm_K} {P : Option Value → (Nat → Nat → Int32) → Prop} (hE : jE g ad m_X7_reset P κ) {μ : Nat → Nat → Int32} (u : Nat) (hu : jm_Shots u) (x1 : Int32)
    (h : (((32 : Int32) ≤ x1 →
    P none μ) ∧
    (¬ (32 : Int32) ≤ x1 →
    vp_in x1 32 ∧
    (∀ μ2 : Nat → Nat → Int32, μ2 = jm_st μ (u + 2) x1.toNatClampNeg (-1 : Int32) →
    jS g ad m_X7_reset κ 7 [some (.ref u), some (.int (x1 + 1))] [] μ2)))) :
    jS g ad m_X7_reset κ 7 [some (.ref u), some (.int x1)] [] μ := by
  refine jr_iload_n dX7_reset_7 rfl ?_
  refine jr_bipush (32 : Int32) dX7_reset_8 (by decide) ?_
  obtain ⟨hA, hB⟩ := h
  refine jr_icmp_ge 26 dX7_reset_10 rfl (fun c => ?_) (fun c => ?_)
  · have h := hA c
    exact js_vret hE rfl dX7_reset_26 rfl h
  · have h := hB c
    refine jr_aload_n dX7_reset_13 rfl ?_
    refine jr_get 7 1 jf_RX7_17 dX7_reset_14 hu.1 rfl (.ref (u + 2)) rfl ?_
    refine jr_iload_n dX7_reset_17 rfl ?_
    refine jr_iconst (-1 : Int32) dX7_reset_18 (by decide) ?_
    obtain ⟨o1, h⟩ := h
    refine jr_iastn _ dX7_reset_19 hu.2.2.1 o1 rfl ?_
    obtain ⟨μ2, e2⟩ : ∃ x : Nat → Nat → Int32, x = jm_st μ (u + 2) x1.toNatClampNeg (-1 : Int32) := ⟨_, rfl⟩
    have h := h μ2 e2
    refine js_mem e2 ?_
    refine jr_iinc [some (.ref u), some (.int (x1 + 1))] dX7_reset_20 rfl rfl rfl rfl rfl ?_
    refine jr_goto 7 dX7_reset_23 rfl ?_
    exact h

set_option maxRecDepth 100000 in
set_option maxHeartbeats 4000000 in
theorem sX7_isShot_0 {g : jm_G} {ad : Nat → Nat} {κ : jm_K} {P : Option Value → (Nat → Nat → Int32) → Prop} (hE : jE g ad m_X7_isShot P κ) {μ : Nat → Nat → Int32} (u : Nat) (hu : jm_Shots u) (p1 : Int32)
    (h : ((p1 < 0 →
    P (some (.int (0 : Int32))) μ) ∧
    (¬ p1 < 0 →
    (((μ u 2) ≤ p1 →
    P (some (.int (0 : Int32))) μ) ∧
    (¬ (μ u 2) ≤ p1 →
    P (some (.int (1 : Int32))) μ))))) :
    jS g ad m_X7_isShot κ 0 [some (.ref u), some (.int p1)] [] μ := by
  refine jr_iload_n dX7_isShot_0 rfl ?_
  obtain ⟨hA, hB⟩ := h
  refine jr_if_lt 16 dX7_isShot_1 rfl (fun c => ?_) (fun c => ?_)
  · have h := hA c
    refine jr_iconst (0 : Int32) dX7_isShot_16 (by decide) ?_
    exact js_zret hE rfl dX7_isShot_17 rfl (by decide) h
  · have h := hB c
    refine jr_iload_n dX7_isShot_4 rfl ?_
    refine jr_aload_n dX7_isShot_5 rfl ?_
    refine jr_get 7 2 jf_RX7_22 dX7_isShot_6 hu.1 rfl (.int (μ u 2)) rfl ?_
    obtain ⟨hA, hB⟩ := h
    refine jr_icmp_ge 16 dX7_isShot_9 rfl (fun c => ?_) (fun c => ?_)
    · have h := hA c
      refine jr_iconst (0 : Int32) dX7_isShot_16 (by decide) ?_
      exact js_zret hE rfl dX7_isShot_17 rfl (by decide) h
    · have h := hB c
      refine jr_iconst (1 : Int32) dX7_isShot_12 (by decide) ?_
      refine jr_goto 17 dX7_isShot_13 rfl ?_
      exact js_zret hE rfl dX7_isShot_17 rfl (by decide) h

set_option maxRecDepth 100000 in
set_option maxHeartbeats 4000000 in
theorem sX7_draft_0 {g : jm_G} {ad : Nat → Nat} {κ : jm_K} {P : Option Value → (Nat → Nat → Int32) → Prop} (hE : jE g ad m_X7_draft P κ) {μ : Nat → Nat → Int32} (u : Nat) (hu : jm_Shots u) 
    (h : (((8 : Int32) ≤ (μ u 2) →
    P none μ) ∧
    (¬ (8 : Int32) ≤ (μ u 2) →
    vp_in (μ u 2) 8 ∧
    jD g ad m_X6_become [.ref (u + 3 + 2 * (μ u 2).toNatClampNeg), .ref 29, .ref 33, .ref 37] μ (fun v μ' => jS g ad m_X7_draft κ 24 [none, none, none, none] (jm_ps v []) μ')))) :
    jS g ad m_X7_draft κ 0 [some (.ref u), some (.ref 29), some (.ref 33), some (.ref 37)] [] μ := by
  refine jr_aload_n dX7_draft_0 rfl ?_
  refine jr_get 7 2 jf_RX7_22 dX7_draft_1 hu.1 rfl (.int (μ u 2)) rfl ?_
  refine jr_bipush (8 : Int32) dX7_draft_4 (by decide) ?_
  obtain ⟨hA, hB⟩ := h
  refine jr_icmp_ge 24 dX7_draft_6 rfl (fun c => ?_) (fun c => ?_)
  · have h := hA c
    exact js_vret hE rfl dX7_draft_24 rfl h
  · have h := hB c
    refine jr_aload_n dX7_draft_9 rfl ?_
    refine jr_get 7 0 jf_RX7_11 dX7_draft_10 hu.1 rfl (.ref (u + 1)) rfl ?_
    refine jr_aload_n dX7_draft_13 rfl ?_
    refine jr_get 7 2 jf_RX7_22 dX7_draft_14 hu.1 rfl (.int (μ u 2)) rfl ?_
    obtain ⟨o1, h⟩ := h
    refine jr_aald dX7_draft_17 hu.2.1 (by decide) o1 (u + 3 + 2 * (μ u 2).toNatClampNeg) (if_pos (jm_inlt o1)) ?_
    refine jr_aload_n dX7_draft_18 rfl ?_
    refine jr_aload_n dX7_draft_19 rfl ?_
    refine jr_aload_n dX7_draft_20 rfl ?_
    refine js_drop 0 [none, some (.ref 29), some (.ref 33), some (.ref 37)] rfl ?_
    refine js_drop 1 [none, none, some (.ref 33), some (.ref 37)] rfl ?_
    refine js_drop 2 [none, none, none, some (.ref 37)] rfl ?_
    refine js_drop 3 [none, none, none, none] rfl ?_
    refine js_callV (st := []) [.ref 29, .ref 33, .ref 37] jc_RX7_26 rfl dX7_draft_21 ((hu.2.2.2 _ (jm_inlt o1)).1) rfl rfl rfl rfl (kk := ?_)
    exact h

set_option maxRecDepth 100000 in
set_option maxHeartbeats 4000000 in
theorem sX7_draft_24 {g : jm_G} {ad : Nat → Nat} {κ : jm_K} {P : Option Value → (Nat → Nat → Int32) → Prop} (hE : jE g ad m_X7_draft P κ) {μ : Nat → Nat → Int32} (u : Nat) (hu : jm_Shots u) 
    (h : P none μ) :
    jS g ad m_X7_draft κ 24 [none, none, none, none] [] μ := by
  exact js_vret hE rfl dX7_draft_24 rfl h

set_option maxRecDepth 100000 in
set_option maxHeartbeats 4000000 in
theorem sX7_accept_0 {g : jm_G} {ad : Nat → Nat} {κ : jm_K} {P : Option Value → (Nat → Nat → Int32) → Prop} (hE : jE g ad m_X7_accept P κ) {μ : Nat → Nat → Int32} (u : Nat) (hu : jm_Shots u) 
    (h : (((8 : Int32) ≤ (μ u 2) →
    P none μ) ∧
    (¬ (8 : Int32) ≤ (μ u 2) →
    jS g ad m_X7_accept κ 11 [some (.ref u), some (.int (0 : Int32))] [] μ))) :
    jS g ad m_X7_accept κ 0 [some (.ref u), none] [] μ := by
  refine jr_aload_n dX7_accept_0 rfl ?_
  refine jr_get 7 2 jf_RX7_22 dX7_accept_1 hu.1 rfl (.int (μ u 2)) rfl ?_
  refine jr_bipush (8 : Int32) dX7_accept_4 (by decide) ?_
  obtain ⟨hA, hB⟩ := h
  refine jr_icmp_ge 55 dX7_accept_6 rfl (fun c => ?_) (fun c => ?_)
  · have h := hA c
    exact js_vret hE rfl dX7_accept_55 rfl h
  · have h := hB c
    refine jr_iconst (0 : Int32) dX7_accept_9 (by decide) ?_
    refine jr_istore_n [some (.ref u), some (.int (0 : Int32))] dX7_accept_10 rfl rfl rfl ?_
    exact h

set_option maxRecDepth 100000 in
set_option maxHeartbeats 4000000 in
theorem sX7_accept_11 {g : jm_G} {ad : Nat → Nat} {κ : jm_K} {P : Option Value → (Nat → Nat → Int32) → Prop} (hE : jE g ad m_X7_accept P κ) {μ : Nat → Nat → Int32} (u : Nat) (hu : jm_Shots u) (x1 : Int32)
    (h : (((4 : Int32) ≤ x1 →
    (∀ μ1 : Nat → Nat → Int32, μ1 = jm_st μ u 2 ((μ u 2) + (1 : Int32)) →
    P none μ1)) ∧
    (¬ (4 : Int32) ≤ x1 →
    vp_in (μ u 2) 8 ∧
    vp_in x1 4 ∧
    vp_in (μ (u + 3 + 2 * (μ u 2).toNatClampNeg + 1) x1.toNatClampNeg) 32 ∧
    (∀ μ5 : Nat → Nat → Int32, μ5 = jm_st μ (u + 2) (μ (u + 3 + 2 * (μ u 2).toNatClampNeg + 1) x1.toNatClampNeg).toNatClampNeg (μ u 2) →
    jS g ad m_X7_accept κ 11 [some (.ref u), some (.int (x1 + 1))] [] μ5)))) :
    jS g ad m_X7_accept κ 11 [some (.ref u), some (.int x1)] [] μ := by
  refine jr_iload_n dX7_accept_11 rfl ?_
  refine jr_iconst (4 : Int32) dX7_accept_12 (by decide) ?_
  obtain ⟨hA, hB⟩ := h
  refine jr_icmp_ge 45 dX7_accept_13 rfl (fun c => ?_) (fun c => ?_)
  · have h := hA c
    refine jr_aload_n dX7_accept_45 rfl ?_
    refine jr_dup dX7_accept_46 rfl ?_
    refine jr_get 7 2 jf_RX7_22 dX7_accept_47 hu.1 rfl (.int (μ u 2)) rfl ?_
    refine jr_iconst (1 : Int32) dX7_accept_50 (by decide) ?_
    refine jr_iadd dX7_accept_51 ?_
    refine jr_putI 7 2 jf_RX7_22 dX7_accept_52 hu.1 rfl ?_
    obtain ⟨μ1, e1⟩ : ∃ x : Nat → Nat → Int32, x = jm_st μ u 2 ((μ u 2) + (1 : Int32)) := ⟨_, rfl⟩
    have h := h μ1 e1
    refine js_mem e1 ?_
    exact js_vret hE rfl dX7_accept_55 rfl h
  · have h := hB c
    refine jr_aload_n dX7_accept_16 rfl ?_
    refine jr_get 7 1 jf_RX7_17 dX7_accept_17 hu.1 rfl (.ref (u + 2)) rfl ?_
    refine jr_aload_n dX7_accept_20 rfl ?_
    refine jr_get 7 0 jf_RX7_11 dX7_accept_21 hu.1 rfl (.ref (u + 1)) rfl ?_
    refine jr_aload_n dX7_accept_24 rfl ?_
    refine jr_get 7 2 jf_RX7_22 dX7_accept_25 hu.1 rfl (.int (μ u 2)) rfl ?_
    obtain ⟨o2, h⟩ := h
    refine jr_aald dX7_accept_28 hu.2.1 (by decide) o2 (u + 3 + 2 * (μ u 2).toNatClampNeg) (if_pos (jm_inlt o2)) ?_
    refine jr_get 6 0 jf_RX7_30 dX7_accept_29 ((hu.2.2.2 _ (jm_inlt o2)).1) rfl (.ref (u + 3 + 2 * (μ u 2).toNatClampNeg + 1)) rfl ?_
    refine jr_iload_n dX7_accept_32 rfl ?_
    obtain ⟨o3, h⟩ := h
    refine jr_ialdn _ dX7_accept_33 ((hu.2.2.2 _ (jm_inlt o2)).2) o3 rfl ?_
    refine jr_aload_n dX7_accept_34 rfl ?_
    refine jr_get 7 2 jf_RX7_22 dX7_accept_35 hu.1 rfl (.int (μ u 2)) rfl ?_
    obtain ⟨o4, h⟩ := h
    refine jr_iastn _ dX7_accept_38 hu.2.2.1 o4 rfl ?_
    obtain ⟨μ5, e5⟩ : ∃ x : Nat → Nat → Int32, x = jm_st μ (u + 2) (μ (u + 3 + 2 * (μ u 2).toNatClampNeg + 1) x1.toNatClampNeg).toNatClampNeg (μ u 2) := ⟨_, rfl⟩
    have h := h μ5 e5
    refine js_mem e5 ?_
    refine jr_iinc [some (.ref u), some (.int (x1 + 1))] dX7_accept_39 rfl rfl rfl rfl rfl ?_
    refine jr_goto 11 dX7_accept_42 rfl ?_
    exact h

set_option maxRecDepth 100000 in
set_option maxHeartbeats 4000000 in
theorem sX7_sumOfRings_0 {g : jm_G} {ad : Nat → Nat} {κ : jm_K} {P : Option Value → (Nat → Nat → Int32) → Prop} (hE : jE g ad m_X7_sumOfRings P κ) {μ : Nat → Nat → Int32} (u : Nat) (hu : jm_Shots u) 
    (h : jS g ad m_X7_sumOfRings κ 4 [some (.ref u), some (.int (0 : Int32)), some (.int (0 : Int32))] [] μ) :
    jS g ad m_X7_sumOfRings κ 0 [some (.ref u), none, none] [] μ := by
  refine jr_iconst (0 : Int32) dX7_sumOfRings_0 (by decide) ?_
  refine jr_istore_n [some (.ref u), some (.int (0 : Int32)), none] dX7_sumOfRings_1 rfl rfl rfl ?_
  refine jr_iconst (0 : Int32) dX7_sumOfRings_2 (by decide) ?_
  refine jr_istore_n [some (.ref u), some (.int (0 : Int32)), some (.int (0 : Int32))] dX7_sumOfRings_3 rfl rfl rfl ?_
  exact h

set_option maxRecDepth 100000 in
set_option maxHeartbeats 4000000 in
theorem sX7_sumOfRings_4 {g : jm_G} {ad : Nat → Nat} {κ : jm_K} {P : Option Value → (Nat → Nat → Int32) → Prop} (hE : jE g ad m_X7_sumOfRings P κ) {μ : Nat → Nat → Int32} (u : Nat) (hu : jm_Shots u) (x1 : Int32) (x2 : Int32)
    (h : (((μ u 2) ≤ x2 →
    P (some (.int x1)) μ) ∧
    (¬ (μ u 2) ≤ x2 →
    vp_in x2 8 ∧
    jS g ad m_X7_sumOfRings κ 4 [some (.ref u), some (.int (x1 + (μ (u + 3 + 2 * x2.toNatClampNeg) 5))), some (.int (x2 + 1))] [] μ))) :
    jS g ad m_X7_sumOfRings κ 4 [some (.ref u), some (.int x1), some (.int x2)] [] μ := by
  refine jr_iload_n dX7_sumOfRings_4 rfl ?_
  refine jr_aload_n dX7_sumOfRings_5 rfl ?_
  refine jr_get 7 2 jf_RX7_22 dX7_sumOfRings_6 hu.1 rfl (.int (μ u 2)) rfl ?_
  obtain ⟨hA, hB⟩ := h
  refine jr_icmp_ge 30 dX7_sumOfRings_9 rfl (fun c => ?_) (fun c => ?_)
  · have h := hA c
    refine jr_iload_n dX7_sumOfRings_30 rfl ?_
    exact js_iret hE rfl dX7_sumOfRings_31 rfl h
  · have h := hB c
    refine jr_iload_n dX7_sumOfRings_12 rfl ?_
    refine jr_aload_n dX7_sumOfRings_13 rfl ?_
    refine jr_get 7 0 jf_RX7_11 dX7_sumOfRings_14 hu.1 rfl (.ref (u + 1)) rfl ?_
    refine jr_iload_n dX7_sumOfRings_17 rfl ?_
    obtain ⟨o1, h⟩ := h
    refine jr_aald dX7_sumOfRings_18 hu.2.1 (by decide) o1 (u + 3 + 2 * x2.toNatClampNeg) (if_pos (jm_inlt o1)) ?_
    refine jr_get 6 5 jf_RX7_33 dX7_sumOfRings_19 ((hu.2.2.2 _ (jm_inlt o1)).1) rfl (.int (μ (u + 3 + 2 * x2.toNatClampNeg) 5)) rfl ?_
    refine jr_iadd dX7_sumOfRings_22 ?_
    refine jr_istore_n [some (.ref u), some (.int (x1 + (μ (u + 3 + 2 * x2.toNatClampNeg) 5))), some (.int x2)] dX7_sumOfRings_23 rfl rfl rfl ?_
    refine jr_iinc [some (.ref u), some (.int (x1 + (μ (u + 3 + 2 * x2.toNatClampNeg) 5))), some (.int (x2 + 1))] dX7_sumOfRings_24 rfl rfl rfl rfl rfl ?_
    refine jr_goto 4 dX7_sumOfRings_27 rfl ?_
    exact h

set_option maxRecDepth 100000 in
set_option maxHeartbeats 4000000 in
theorem sX7_sumOfSpreads_0 {g : jm_G} {ad : Nat → Nat} {κ : jm_K} {P : Option Value → (Nat → Nat → Int32) → Prop} (hE : jE g ad m_X7_sumOfSpreads P κ) {μ : Nat → Nat → Int32} (u : Nat) (hu : jm_Shots u) 
    (h : jS g ad m_X7_sumOfSpreads κ 4 [some (.ref u), some (.int (0 : Int32)), some (.int (0 : Int32))] [] μ) :
    jS g ad m_X7_sumOfSpreads κ 0 [some (.ref u), none, none] [] μ := by
  refine jr_iconst (0 : Int32) dX7_sumOfSpreads_0 (by decide) ?_
  refine jr_istore_n [some (.ref u), some (.int (0 : Int32)), none] dX7_sumOfSpreads_1 rfl rfl rfl ?_
  refine jr_iconst (0 : Int32) dX7_sumOfSpreads_2 (by decide) ?_
  refine jr_istore_n [some (.ref u), some (.int (0 : Int32)), some (.int (0 : Int32))] dX7_sumOfSpreads_3 rfl rfl rfl ?_
  exact h

set_option maxRecDepth 100000 in
set_option maxHeartbeats 4000000 in
theorem sX7_sumOfSpreads_4 {g : jm_G} {ad : Nat → Nat} {κ : jm_K} {P : Option Value → (Nat → Nat → Int32) → Prop} (hE : jE g ad m_X7_sumOfSpreads P κ) {μ : Nat → Nat → Int32} (u : Nat) (hu : jm_Shots u) (x1 : Int32) (x2 : Int32)
    (h : (((μ u 2) ≤ x2 →
    P (some (.int x1)) μ) ∧
    (¬ (μ u 2) ≤ x2 →
    vp_in x2 8 ∧
    jS g ad m_X7_sumOfSpreads κ 4 [some (.ref u), some (.int (x1 + (μ (u + 3 + 2 * x2.toNatClampNeg) 3))), some (.int (x2 + 1))] [] μ))) :
    jS g ad m_X7_sumOfSpreads κ 4 [some (.ref u), some (.int x1), some (.int x2)] [] μ := by
  refine jr_iload_n dX7_sumOfSpreads_4 rfl ?_
  refine jr_aload_n dX7_sumOfSpreads_5 rfl ?_
  refine jr_get 7 2 jf_RX7_22 dX7_sumOfSpreads_6 hu.1 rfl (.int (μ u 2)) rfl ?_
  obtain ⟨hA, hB⟩ := h
  refine jr_icmp_ge 30 dX7_sumOfSpreads_9 rfl (fun c => ?_) (fun c => ?_)
  · have h := hA c
    refine jr_iload_n dX7_sumOfSpreads_30 rfl ?_
    exact js_iret hE rfl dX7_sumOfSpreads_31 rfl h
  · have h := hB c
    refine jr_iload_n dX7_sumOfSpreads_12 rfl ?_
    refine jr_aload_n dX7_sumOfSpreads_13 rfl ?_
    refine jr_get 7 0 jf_RX7_11 dX7_sumOfSpreads_14 hu.1 rfl (.ref (u + 1)) rfl ?_
    refine jr_iload_n dX7_sumOfSpreads_17 rfl ?_
    obtain ⟨o1, h⟩ := h
    refine jr_aald dX7_sumOfSpreads_18 hu.2.1 (by decide) o1 (u + 3 + 2 * x2.toNatClampNeg) (if_pos (jm_inlt o1)) ?_
    refine jr_get 6 3 jf_RX7_36 dX7_sumOfSpreads_19 ((hu.2.2.2 _ (jm_inlt o1)).1) rfl (.int (μ (u + 3 + 2 * x2.toNatClampNeg) 3)) rfl ?_
    refine jr_iadd dX7_sumOfSpreads_22 ?_
    refine jr_istore_n [some (.ref u), some (.int (x1 + (μ (u + 3 + 2 * x2.toNatClampNeg) 3))), some (.int x2)] dX7_sumOfSpreads_23 rfl rfl rfl ?_
    refine jr_iinc [some (.ref u), some (.int (x1 + (μ (u + 3 + 2 * x2.toNatClampNeg) 3))), some (.int (x2 + 1))] dX7_sumOfSpreads_24 rfl rfl rfl rfl rfl ?_
    refine jr_goto 4 dX7_sumOfSpreads_27 rfl ?_
    exact h

set_option maxRecDepth 100000 in
set_option maxHeartbeats 4000000 in
theorem sX7_sumOfX_0 {g : jm_G} {ad : Nat → Nat} {κ : jm_K} {P : Option Value → (Nat → Nat → Int32) → Prop} (hE : jE g ad m_X7_sumOfX P κ) {μ : Nat → Nat → Int32} (u : Nat) (hu : jm_Shots u) 
    (h : jS g ad m_X7_sumOfX κ 4 [some (.ref u), some (.int (0 : Int32)), some (.int (0 : Int32))] [] μ) :
    jS g ad m_X7_sumOfX κ 0 [some (.ref u), none, none] [] μ := by
  refine jr_iconst (0 : Int32) dX7_sumOfX_0 (by decide) ?_
  refine jr_istore_n [some (.ref u), some (.int (0 : Int32)), none] dX7_sumOfX_1 rfl rfl rfl ?_
  refine jr_iconst (0 : Int32) dX7_sumOfX_2 (by decide) ?_
  refine jr_istore_n [some (.ref u), some (.int (0 : Int32)), some (.int (0 : Int32))] dX7_sumOfX_3 rfl rfl rfl ?_
  exact h

set_option maxRecDepth 100000 in
set_option maxHeartbeats 4000000 in
theorem sX7_sumOfX_4 {g : jm_G} {ad : Nat → Nat} {κ : jm_K} {P : Option Value → (Nat → Nat → Int32) → Prop} (hE : jE g ad m_X7_sumOfX P κ) {μ : Nat → Nat → Int32} (u : Nat) (hu : jm_Shots u) (x1 : Int32) (x2 : Int32)
    (h : (((μ u 2) ≤ x2 →
    P (some (.int x1)) μ) ∧
    (¬ (μ u 2) ≤ x2 →
    vp_in x2 8 ∧
    jS g ad m_X7_sumOfX κ 4 [some (.ref u), some (.int (x1 + (μ (u + 3 + 2 * x2.toNatClampNeg) 1))), some (.int (x2 + 1))] [] μ))) :
    jS g ad m_X7_sumOfX κ 4 [some (.ref u), some (.int x1), some (.int x2)] [] μ := by
  refine jr_iload_n dX7_sumOfX_4 rfl ?_
  refine jr_aload_n dX7_sumOfX_5 rfl ?_
  refine jr_get 7 2 jf_RX7_22 dX7_sumOfX_6 hu.1 rfl (.int (μ u 2)) rfl ?_
  obtain ⟨hA, hB⟩ := h
  refine jr_icmp_ge 30 dX7_sumOfX_9 rfl (fun c => ?_) (fun c => ?_)
  · have h := hA c
    refine jr_iload_n dX7_sumOfX_30 rfl ?_
    exact js_iret hE rfl dX7_sumOfX_31 rfl h
  · have h := hB c
    refine jr_iload_n dX7_sumOfX_12 rfl ?_
    refine jr_aload_n dX7_sumOfX_13 rfl ?_
    refine jr_get 7 0 jf_RX7_11 dX7_sumOfX_14 hu.1 rfl (.ref (u + 1)) rfl ?_
    refine jr_iload_n dX7_sumOfX_17 rfl ?_
    obtain ⟨o1, h⟩ := h
    refine jr_aald dX7_sumOfX_18 hu.2.1 (by decide) o1 (u + 3 + 2 * x2.toNatClampNeg) (if_pos (jm_inlt o1)) ?_
    refine jr_get 6 1 jf_RX7_39 dX7_sumOfX_19 ((hu.2.2.2 _ (jm_inlt o1)).1) rfl (.int (μ (u + 3 + 2 * x2.toNatClampNeg) 1)) rfl ?_
    refine jr_iadd dX7_sumOfX_22 ?_
    refine jr_istore_n [some (.ref u), some (.int (x1 + (μ (u + 3 + 2 * x2.toNatClampNeg) 1))), some (.int x2)] dX7_sumOfX_23 rfl rfl rfl ?_
    refine jr_iinc [some (.ref u), some (.int (x1 + (μ (u + 3 + 2 * x2.toNatClampNeg) 1))), some (.int (x2 + 1))] dX7_sumOfX_24 rfl rfl rfl rfl rfl ?_
    refine jr_goto 4 dX7_sumOfX_27 rfl ?_
    exact h

set_option maxRecDepth 100000 in
set_option maxHeartbeats 4000000 in
theorem sX7_sumOfY_0 {g : jm_G} {ad : Nat → Nat} {κ : jm_K} {P : Option Value → (Nat → Nat → Int32) → Prop} (hE : jE g ad m_X7_sumOfY P κ) {μ : Nat → Nat → Int32} (u : Nat) (hu : jm_Shots u) 
    (h : jS g ad m_X7_sumOfY κ 4 [some (.ref u), some (.int (0 : Int32)), some (.int (0 : Int32))] [] μ) :
    jS g ad m_X7_sumOfY κ 0 [some (.ref u), none, none] [] μ := by
  refine jr_iconst (0 : Int32) dX7_sumOfY_0 (by decide) ?_
  refine jr_istore_n [some (.ref u), some (.int (0 : Int32)), none] dX7_sumOfY_1 rfl rfl rfl ?_
  refine jr_iconst (0 : Int32) dX7_sumOfY_2 (by decide) ?_
  refine jr_istore_n [some (.ref u), some (.int (0 : Int32)), some (.int (0 : Int32))] dX7_sumOfY_3 rfl rfl rfl ?_
  exact h

set_option maxRecDepth 100000 in
set_option maxHeartbeats 4000000 in
theorem sX7_sumOfY_4 {g : jm_G} {ad : Nat → Nat} {κ : jm_K} {P : Option Value → (Nat → Nat → Int32) → Prop} (hE : jE g ad m_X7_sumOfY P κ) {μ : Nat → Nat → Int32} (u : Nat) (hu : jm_Shots u) (x1 : Int32) (x2 : Int32)
    (h : (((μ u 2) ≤ x2 →
    P (some (.int x1)) μ) ∧
    (¬ (μ u 2) ≤ x2 →
    vp_in x2 8 ∧
    jS g ad m_X7_sumOfY κ 4 [some (.ref u), some (.int (x1 + (μ (u + 3 + 2 * x2.toNatClampNeg) 2))), some (.int (x2 + 1))] [] μ))) :
    jS g ad m_X7_sumOfY κ 4 [some (.ref u), some (.int x1), some (.int x2)] [] μ := by
  refine jr_iload_n dX7_sumOfY_4 rfl ?_
  refine jr_aload_n dX7_sumOfY_5 rfl ?_
  refine jr_get 7 2 jf_RX7_22 dX7_sumOfY_6 hu.1 rfl (.int (μ u 2)) rfl ?_
  obtain ⟨hA, hB⟩ := h
  refine jr_icmp_ge 30 dX7_sumOfY_9 rfl (fun c => ?_) (fun c => ?_)
  · have h := hA c
    refine jr_iload_n dX7_sumOfY_30 rfl ?_
    exact js_iret hE rfl dX7_sumOfY_31 rfl h
  · have h := hB c
    refine jr_iload_n dX7_sumOfY_12 rfl ?_
    refine jr_aload_n dX7_sumOfY_13 rfl ?_
    refine jr_get 7 0 jf_RX7_11 dX7_sumOfY_14 hu.1 rfl (.ref (u + 1)) rfl ?_
    refine jr_iload_n dX7_sumOfY_17 rfl ?_
    obtain ⟨o1, h⟩ := h
    refine jr_aald dX7_sumOfY_18 hu.2.1 (by decide) o1 (u + 3 + 2 * x2.toNatClampNeg) (if_pos (jm_inlt o1)) ?_
    refine jr_get 6 2 jf_RX7_42 dX7_sumOfY_19 ((hu.2.2.2 _ (jm_inlt o1)).1) rfl (.int (μ (u + 3 + 2 * x2.toNatClampNeg) 2)) rfl ?_
    refine jr_iadd dX7_sumOfY_22 ?_
    refine jr_istore_n [some (.ref u), some (.int (x1 + (μ (u + 3 + 2 * x2.toNatClampNeg) 2))), some (.int x2)] dX7_sumOfY_23 rfl rfl rfl ?_
    refine jr_iinc [some (.ref u), some (.int (x1 + (μ (u + 3 + 2 * x2.toNatClampNeg) 2))), some (.int (x2 + 1))] dX7_sumOfY_24 rfl rfl rfl rfl rfl ?_
    refine jr_goto 4 dX7_sumOfY_27 rfl ?_
    exact h

set_option maxRecDepth 100000 in
set_option maxHeartbeats 4000000 in
theorem sX7_withGreatestRing_0 {g : jm_G} {ad : Nat → Nat} {κ : jm_K} {P : Option Value → (Nat → Nat → Int32) → Prop} (hE : jE g ad m_X7_withGreatestRing P κ) {μ : Nat → Nat → Int32} (u : Nat) (hu : jm_Shots u) 
    (h : jS g ad m_X7_withGreatestRing κ 7 [some (.ref u), some (.int (-6 : Int32)), some (.int (-1 : Int32)), some (.int (0 : Int32))] [] μ) :
    jS g ad m_X7_withGreatestRing κ 0 [some (.ref u), none, none, none] [] μ := by
  refine jr_bipush (-6 : Int32) dX7_withGreatestRing_0 (by decide) ?_
  refine jr_istore_n [some (.ref u), some (.int (-6 : Int32)), none, none] dX7_withGreatestRing_2 rfl rfl rfl ?_
  refine jr_iconst (-1 : Int32) dX7_withGreatestRing_3 (by decide) ?_
  refine jr_istore_n [some (.ref u), some (.int (-6 : Int32)), some (.int (-1 : Int32)), none] dX7_withGreatestRing_4 rfl rfl rfl ?_
  refine jr_iconst (0 : Int32) dX7_withGreatestRing_5 (by decide) ?_
  refine jr_istore_n [some (.ref u), some (.int (-6 : Int32)), some (.int (-1 : Int32)), some (.int (0 : Int32))] dX7_withGreatestRing_6 rfl rfl rfl ?_
  exact h

set_option maxRecDepth 100000 in
set_option maxHeartbeats 4000000 in
theorem sX7_withGreatestRing_7 {g : jm_G} {ad : Nat → Nat} {κ : jm_K} {P : Option Value → (Nat → Nat → Int32) → Prop} (hE : jE g ad m_X7_withGreatestRing P κ) {μ : Nat → Nat → Int32} (u : Nat) (hu : jm_Shots u) (x1 : Int32) (x2 : Int32) (x3 : Int32)
    (h : (((μ u 2) ≤ x3 →
    P (some (.int x1)) μ) ∧
    (¬ (μ u 2) ≤ x3 →
    vp_in x3 8 ∧
    (((μ (u + 3 + 2 * x3.toNatClampNeg) 5) ≤ x2 →
    jS g ad m_X7_withGreatestRing κ 7 [some (.ref u), some (.int x1), some (.int x2), some (.int (x3 + 1))] [] μ) ∧
    (¬ (μ (u + 3 + 2 * x3.toNatClampNeg) 5) ≤ x2 →
    vp_in x3 8 ∧
    jS g ad m_X7_withGreatestRing κ 7 [some (.ref u), some (.int x3), some (.int (μ (u + 3 + 2 * x3.toNatClampNeg) 5)), some (.int (x3 + 1))] [] μ))))) :
    jS g ad m_X7_withGreatestRing κ 7 [some (.ref u), some (.int x1), some (.int x2), some (.int x3)] [] μ := by
  refine jr_iload_n dX7_withGreatestRing_7 rfl ?_
  refine jr_aload_n dX7_withGreatestRing_8 rfl ?_
  refine jr_get 7 2 jf_RX7_22 dX7_withGreatestRing_9 hu.1 rfl (.int (μ u 2)) rfl ?_
  obtain ⟨hA, hB⟩ := h
  refine jr_icmp_ge 46 dX7_withGreatestRing_12 rfl (fun c => ?_) (fun c => ?_)
  · have h := hA c
    refine jr_iload_n dX7_withGreatestRing_46 rfl ?_
    exact js_iret hE rfl dX7_withGreatestRing_47 rfl h
  · have h := hB c
    refine jr_aload_n dX7_withGreatestRing_15 rfl ?_
    refine jr_get 7 0 jf_RX7_11 dX7_withGreatestRing_16 hu.1 rfl (.ref (u + 1)) rfl ?_
    refine jr_iload_n dX7_withGreatestRing_19 rfl ?_
    obtain ⟨o1, h⟩ := h
    refine jr_aald dX7_withGreatestRing_20 hu.2.1 (by decide) o1 (u + 3 + 2 * x3.toNatClampNeg) (if_pos (jm_inlt o1)) ?_
    refine jr_get 6 5 jf_RX7_33 dX7_withGreatestRing_21 ((hu.2.2.2 _ (jm_inlt o1)).1) rfl (.int (μ (u + 3 + 2 * x3.toNatClampNeg) 5)) rfl ?_
    refine jr_iload_n dX7_withGreatestRing_24 rfl ?_
    obtain ⟨hA, hB⟩ := h
    refine jr_icmp_le 40 dX7_withGreatestRing_25 rfl (fun c => ?_) (fun c => ?_)
    · have h := hA c
      refine jr_iinc [some (.ref u), some (.int x1), some (.int x2), some (.int (x3 + 1))] dX7_withGreatestRing_40 rfl rfl rfl rfl rfl ?_
      refine jr_goto 7 dX7_withGreatestRing_43 rfl ?_
      exact h
    · have h := hB c
      refine jr_iload_n dX7_withGreatestRing_28 rfl ?_
      refine jr_istore_n [some (.ref u), some (.int x3), some (.int x2), some (.int x3)] dX7_withGreatestRing_29 rfl rfl rfl ?_
      refine jr_aload_n dX7_withGreatestRing_30 rfl ?_
      refine jr_get 7 0 jf_RX7_11 dX7_withGreatestRing_31 hu.1 rfl (.ref (u + 1)) rfl ?_
      refine jr_iload_n dX7_withGreatestRing_34 rfl ?_
      obtain ⟨o2, h⟩ := h
      refine jr_aald dX7_withGreatestRing_35 hu.2.1 (by decide) o2 (u + 3 + 2 * x3.toNatClampNeg) (if_pos (jm_inlt o2)) ?_
      refine jr_get 6 5 jf_RX7_33 dX7_withGreatestRing_36 ((hu.2.2.2 _ (jm_inlt o2)).1) rfl (.int (μ (u + 3 + 2 * x3.toNatClampNeg) 5)) rfl ?_
      refine jr_istore_n [some (.ref u), some (.int x3), some (.int (μ (u + 3 + 2 * x3.toNatClampNeg) 5)), some (.int x3)] dX7_withGreatestRing_39 rfl rfl rfl ?_
      refine jr_iinc [some (.ref u), some (.int x3), some (.int (μ (u + 3 + 2 * x3.toNatClampNeg) 5)), some (.int (x3 + 1))] dX7_withGreatestRing_40 rfl rfl rfl rfl rfl ?_
      refine jr_goto 7 dX7_withGreatestRing_43 rfl ?_
      exact h

set_option maxRecDepth 100000 in
set_option maxHeartbeats 4000000 in
theorem sX7_widest_0 {g : jm_G} {ad : Nat → Nat} {κ : jm_K} {P : Option Value → (Nat → Nat → Int32) → Prop} (hE : jE g ad m_X7_widest P κ) {μ : Nat → Nat → Int32} (u : Nat) (hu : jm_Shots u) 
    (h : jS g ad m_X7_widest κ 4 [some (.ref u), some (.ref 29), some (.int (0 : Int32)), some (.int (0 : Int32)), none] [] μ) :
    jS g ad m_X7_widest κ 0 [some (.ref u), some (.ref 29), none, none, none] [] μ := by
  refine jr_iconst (0 : Int32) dX7_widest_0 (by decide) ?_
  refine jr_istore_n [some (.ref u), some (.ref 29), some (.int (0 : Int32)), none, none] dX7_widest_1 rfl rfl rfl ?_
  refine jr_iconst (0 : Int32) dX7_widest_2 (by decide) ?_
  refine jr_istore_n [some (.ref u), some (.ref 29), some (.int (0 : Int32)), some (.int (0 : Int32)), none] dX7_widest_3 rfl rfl rfl ?_
  exact h

set_option maxRecDepth 100000 in
set_option maxHeartbeats 4000000 in
theorem sX7_widest_4 {g : jm_G} {ad : Nat → Nat} {κ : jm_K} {P : Option Value → (Nat → Nat → Int32) → Prop} (hE : jE g ad m_X7_widest P κ) {μ : Nat → Nat → Int32} (u : Nat) (hu : jm_Shots u) (x2 : Int32) (x3 : Int32)
    (h : (((μ u 2) ≤ x3 →
    P (some (.int x2)) μ) ∧
    (¬ (μ u 2) ≤ x3 →
    jS g ad m_X7_widest κ 15 [some (.ref u), some (.ref 29), some (.int x2), some (.int x3), some (.int (0 : Int32))] [] μ))) :
    jS g ad m_X7_widest κ 4 [some (.ref u), some (.ref 29), some (.int x2), some (.int x3), none] [] μ := by
  refine jr_iload_n dX7_widest_4 rfl ?_
  refine jr_aload_n dX7_widest_5 rfl ?_
  refine jr_get 7 2 jf_RX7_22 dX7_widest_6 hu.1 rfl (.int (μ u 2)) rfl ?_
  obtain ⟨hA, hB⟩ := h
  refine jr_icmp_ge 80 dX7_widest_9 rfl (fun c => ?_) (fun c => ?_)
  · have h := hA c
    refine jr_iload_n dX7_widest_80 rfl ?_
    exact js_iret hE rfl dX7_widest_81 rfl h
  · have h := hB c
    refine jr_iconst (0 : Int32) dX7_widest_12 (by decide) ?_
    refine jr_istore [some (.ref u), some (.ref 29), some (.int x2), some (.int x3), some (.int (0 : Int32))] dX7_widest_13 rfl rfl rfl ?_
    exact h

set_option maxRecDepth 100000 in
set_option maxHeartbeats 4000000 in
theorem sX7_widest_15 {g : jm_G} {ad : Nat → Nat} {κ : jm_K} {P : Option Value → (Nat → Nat → Int32) → Prop} (hE : jE g ad m_X7_widest P κ) {μ : Nat → Nat → Int32} (u : Nat) (hu : jm_Shots u) (x2 : Int32) (x3 : Int32) (x4 : Int32)
    (h : ((x3 ≤ x4 →
    jS g ad m_X7_widest κ 4 [some (.ref u), some (.ref 29), some (.int x2), some (.int (x3 + 1)), none] [] μ) ∧
    (¬ x3 ≤ x4 →
    vp_in x3 8 ∧
    vp_in x3 8 ∧
    vp_in x4 8 ∧
    vp_in x4 8 ∧
    jD g ad m_X2_distance [.ref 29, .int (μ (u + 3 + 2 * x3.toNatClampNeg) 1), .int (μ (u + 3 + 2 * x3.toNatClampNeg) 2), .int (μ (u + 3 + 2 * x4.toNatClampNeg) 1), .int (μ (u + 3 + 2 * x4.toNatClampNeg) 2)] μ (fun v μ' => jS g ad m_X7_widest κ 64 [some (.ref u), some (.ref 29), none, some (.int x3), some (.int x4)] (jm_ps v [.int x2]) μ')))) :
    jS g ad m_X7_widest κ 15 [some (.ref u), some (.ref 29), some (.int x2), some (.int x3), some (.int x4)] [] μ := by
  refine jr_iload dX7_widest_15 rfl ?_
  refine jr_iload_n dX7_widest_17 rfl ?_
  obtain ⟨hA, hB⟩ := h
  refine jr_icmp_ge 74 dX7_widest_18 rfl (fun c => ?_) (fun c => ?_)
  · have h := hA c
    refine jr_iinc [some (.ref u), some (.ref 29), some (.int x2), some (.int (x3 + 1)), some (.int x4)] dX7_widest_74 rfl rfl rfl rfl rfl ?_
    refine jr_goto 4 dX7_widest_77 rfl ?_
    refine js_drop 4 [some (.ref u), some (.ref 29), some (.int x2), some (.int (x3 + 1)), none] rfl ?_
    exact h
  · have h := hB c
    refine jr_iload_n dX7_widest_21 rfl ?_
    refine jr_aload_n dX7_widest_22 rfl ?_
    refine jr_aload_n dX7_widest_23 rfl ?_
    refine jr_get 7 0 jf_RX7_11 dX7_widest_24 hu.1 rfl (.ref (u + 1)) rfl ?_
    refine jr_iload_n dX7_widest_27 rfl ?_
    obtain ⟨o1, h⟩ := h
    refine jr_aald dX7_widest_28 hu.2.1 (by decide) o1 (u + 3 + 2 * x3.toNatClampNeg) (if_pos (jm_inlt o1)) ?_
    refine jr_get 6 1 jf_RX7_39 dX7_widest_29 ((hu.2.2.2 _ (jm_inlt o1)).1) rfl (.int (μ (u + 3 + 2 * x3.toNatClampNeg) 1)) rfl ?_
    refine jr_aload_n dX7_widest_32 rfl ?_
    refine jr_get 7 0 jf_RX7_11 dX7_widest_33 hu.1 rfl (.ref (u + 1)) rfl ?_
    refine jr_iload_n dX7_widest_36 rfl ?_
    obtain ⟨o2, h⟩ := h
    refine jr_aald dX7_widest_37 hu.2.1 (by decide) o2 (u + 3 + 2 * x3.toNatClampNeg) (if_pos (jm_inlt o2)) ?_
    refine jr_get 6 2 jf_RX7_42 dX7_widest_38 ((hu.2.2.2 _ (jm_inlt o2)).1) rfl (.int (μ (u + 3 + 2 * x3.toNatClampNeg) 2)) rfl ?_
    refine jr_aload_n dX7_widest_41 rfl ?_
    refine jr_get 7 0 jf_RX7_11 dX7_widest_42 hu.1 rfl (.ref (u + 1)) rfl ?_
    refine jr_iload dX7_widest_45 rfl ?_
    obtain ⟨o3, h⟩ := h
    refine jr_aald dX7_widest_47 hu.2.1 (by decide) o3 (u + 3 + 2 * x4.toNatClampNeg) (if_pos (jm_inlt o3)) ?_
    refine jr_get 6 1 jf_RX7_39 dX7_widest_48 ((hu.2.2.2 _ (jm_inlt o3)).1) rfl (.int (μ (u + 3 + 2 * x4.toNatClampNeg) 1)) rfl ?_
    refine jr_aload_n dX7_widest_51 rfl ?_
    refine jr_get 7 0 jf_RX7_11 dX7_widest_52 hu.1 rfl (.ref (u + 1)) rfl ?_
    refine jr_iload dX7_widest_55 rfl ?_
    obtain ⟨o4, h⟩ := h
    refine jr_aald dX7_widest_57 hu.2.1 (by decide) o4 (u + 3 + 2 * x4.toNatClampNeg) (if_pos (jm_inlt o4)) ?_
    refine jr_get 6 2 jf_RX7_42 dX7_widest_58 ((hu.2.2.2 _ (jm_inlt o4)).1) rfl (.int (μ (u + 3 + 2 * x4.toNatClampNeg) 2)) rfl ?_
    refine js_drop 2 [some (.ref u), some (.ref 29), none, some (.int x3), some (.int x4)] rfl ?_
    refine js_callV (st := [.int x2]) [.int (μ (u + 3 + 2 * x3.toNatClampNeg) 1), .int (μ (u + 3 + 2 * x3.toNatClampNeg) 2), .int (μ (u + 3 + 2 * x4.toNatClampNeg) 1), .int (μ (u + 3 + 2 * x4.toNatClampNeg) 2)] jc_RX7_45 rfl dX7_widest_61 ga_29 rfl rfl rfl rfl (kk := ?_)
    exact h

set_option maxRecDepth 100000 in
set_option maxHeartbeats 4000000 in
theorem sX7_widest_64 {g : jm_G} {ad : Nat → Nat} {κ : jm_K} {P : Option Value → (Nat → Nat → Int32) → Prop} (hE : jE g ad m_X7_widest P κ) {μ : Nat → Nat → Int32} (u : Nat) (hu : jm_Shots u) (x3 : Int32) (x4 : Int32) (r : Int32) (y1 : Int32)
    (h : jS g ad m_X7_widest κ 15 [some (.ref u), some (.ref 29), some (.int (if y1 < r then r else y1)), some (.int x3), some (.int (x4 + 1))] [] μ) :
    jS g ad m_X7_widest κ 64 [some (.ref u), some (.ref 29), none, some (.int x3), some (.int x4)] [.int r, .int y1] μ := by
  refine jr_max jc_RX7_51 dX7_widest_64 rfl rfl rfl ?_
  refine jr_istore_n [some (.ref u), some (.ref 29), some (.int (if y1 < r then r else y1)), some (.int x3), some (.int x4)] dX7_widest_67 rfl rfl rfl ?_
  refine jr_iinc [some (.ref u), some (.ref 29), some (.int (if y1 < r then r else y1)), some (.int x3), some (.int (x4 + 1))] dX7_widest_68 rfl rfl rfl rfl rfl ?_
  refine jr_goto 15 dX7_widest_71 rfl ?_
  exact h

end
