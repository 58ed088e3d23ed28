section
set_option maxRecDepth 100000 in
set_option maxHeartbeats 4000000 in
theorem sX3_isPulse_0 {g : jm_G} {ad : Nat → Nat} {κ : jm_K} {P : Option Value → (Nat → Nat → Int32) → Prop} (hE : jE g ad m_X3_isPulse P κ) {μ : Nat → Nat → Int32} (q : Nat) (hq : jm_Heard q) (p1 : Int32)
    (h : ((p1 < 0 →
    P (some (.int (0 : Int32))) μ) ∧
    (¬ p1 < 0 →
    (((μ q 2) ≤ p1 →
    P (some (.int (0 : Int32))) μ) ∧
    (¬ (μ q 2) ≤ p1 →
    P (some (.int (1 : Int32))) μ))))) :
    jS g ad m_X3_isPulse κ 0 [some (.ref q), some (.int p1)] [] μ := by
  refine jr_iload_n dX3_isPulse_0 rfl ?_
  obtain ⟨hA, hB⟩ := h
  refine jr_if_lt 16 dX3_isPulse_1 rfl (fun c => ?_) (fun c => ?_)
  · have h := hA c
    refine jr_iconst (0 : Int32) dX3_isPulse_16 (by decide) ?_
    exact js_zret hE rfl dX3_isPulse_17 rfl (by decide) h
  · have h := hB c
    refine jr_iload_n dX3_isPulse_4 rfl ?_
    refine jr_aload_n dX3_isPulse_5 rfl ?_
    refine jr_get 3 2 jf_RX3_18 dX3_isPulse_6 hq.1 rfl (.int (μ q 2)) rfl ?_
    obtain ⟨hA, hB⟩ := h
    refine jr_icmp_ge 16 dX3_isPulse_9 rfl (fun c => ?_) (fun c => ?_)
    · have h := hA c
      refine jr_iconst (0 : Int32) dX3_isPulse_16 (by decide) ?_
      exact js_zret hE rfl dX3_isPulse_17 rfl (by decide) h
    · have h := hB c
      refine jr_iconst (1 : Int32) dX3_isPulse_12 (by decide) ?_
      refine jr_goto 17 dX3_isPulse_13 rfl ?_
      exact js_zret hE rfl dX3_isPulse_17 rfl (by decide) h

set_option maxRecDepth 100000 in
set_option maxHeartbeats 4000000 in
theorem sX3_earOf_0 {g : jm_G} {ad : Nat → Nat} {κ : jm_K} {P : Option Value → (Nat → Nat → Int32) → Prop} (hE : jE g ad m_X3_earOf P κ) {μ : Nat → Nat → Int32} (q : Nat) (hq : jm_Heard q) (p1 : Int32)
    (h : vp_in p1 32 ∧
    P (some (.int ((μ (q + 2) p1.toNatClampNeg) - (μ (q + 2) p1.toNatClampNeg) / (4 : Int32) * (4 : Int32)))) μ) :
    jS g ad m_X3_earOf κ 0 [some (.ref q), some (.int p1)] [] μ := by
  refine jr_aload_n dX3_earOf_0 rfl ?_
  refine jr_get 3 1 jf_RX3_15 dX3_earOf_1 hq.1 rfl (.ref (q + 2)) rfl ?_
  refine jr_iload_n dX3_earOf_4 rfl ?_
  obtain ⟨o1, h⟩ := h
  refine jr_ialdn _ dX3_earOf_5 hq.2.2 o1 rfl ?_
  refine jr_iconst (4 : Int32) dX3_earOf_6 (by decide) ?_
  refine jr_irem dX3_earOf_7 (by decide) ?_
  exact js_iret hE rfl dX3_earOf_8 rfl h

set_option maxRecDepth 100000 in
set_option maxHeartbeats 4000000 in
theorem sX3_timeOf_0 {g : jm_G} {ad : Nat → Nat} {κ : jm_K} {P : Option Value → (Nat → Nat → Int32) → Prop} (hE : jE g ad m_X3_timeOf P κ) {μ : Nat → Nat → Int32} (q : Nat) (hq : jm_Heard q) (p1 : Int32)
    (h : vp_in p1 32 ∧
    P (some (.int ((μ (q + 2) p1.toNatClampNeg) / (4 : Int32)))) μ) :
    jS g ad m_X3_timeOf κ 0 [some (.ref q), some (.int p1)] [] μ := by
  refine jr_aload_n dX3_timeOf_0 rfl ?_
  refine jr_get 3 1 jf_RX3_15 dX3_timeOf_1 hq.1 rfl (.ref (q + 2)) rfl ?_
  refine jr_iload_n dX3_timeOf_4 rfl ?_
  obtain ⟨o1, h⟩ := h
  refine jr_ialdn _ dX3_timeOf_5 hq.2.2 o1 rfl ?_
  refine jr_iconst (4 : Int32) dX3_timeOf_6 (by decide) ?_
  refine jr_idiv dX3_timeOf_7 (by decide) ?_
  exact js_iret hE rfl dX3_timeOf_8 rfl h

set_option maxRecDepth 100000 in
set_option maxHeartbeats 4000000 in
theorem sX3_has_0 {g : jm_G} {ad : Nat → Nat} {κ : jm_K} {P : Option Value → (Nat → Nat → Int32) → Prop} (hE : jE g ad m_X3_has P κ) {μ : Nat → Nat → Int32} (q : Nat) (hq : jm_Heard q) (p1 : Int32)
    (h : jD g ad m_X3_placeOf [.ref q, .int p1] μ (fun v μ' => jS g ad m_X3_has κ 5 [some (.ref q), some (.int p1), none] (jm_ps v []) μ')) :
    jS g ad m_X3_has κ 0 [some (.ref q), some (.int p1), none] [] μ := by
  refine jr_aload_n dX3_has_0 rfl ?_
  refine jr_iload_n dX3_has_1 rfl ?_
  refine js_callV (st := []) [.int p1] jc_RX3_22 rfl dX3_has_2 hq.1 rfl rfl rfl rfl (kk := ?_)
  exact h

set_option maxRecDepth 100000 in
set_option maxHeartbeats 4000000 in
theorem sX3_has_5 {g : jm_G} {ad : Nat → Nat} {κ : jm_K} {P : Option Value → (Nat → Nat → Int32) → Prop} (hE : jE g ad m_X3_has P κ) {μ : Nat → Nat → Int32} (q : Nat) (hq : jm_Heard q) (x1 : Int32) (r : Int32)
    (h : (((μ q 2) ≤ r →
    P (some (.int (0 : Int32))) μ) ∧
    (¬ (μ q 2) ≤ r →
    vp_in r 32 ∧
    ((¬ (μ (q + 2) r.toNatClampNeg) = x1 →
    P (some (.int (0 : Int32))) μ) ∧
    ((μ (q + 2) r.toNatClampNeg) = x1 →
    P (some (.int (1 : Int32))) μ))))) :
    jS g ad m_X3_has κ 5 [some (.ref q), some (.int x1), none] [.int r] μ := by
  refine jr_istore_n [some (.ref q), some (.int x1), some (.int r)] dX3_has_5 rfl rfl rfl ?_
  refine jr_iload_n dX3_has_6 rfl ?_
  refine jr_aload_n dX3_has_7 rfl ?_
  refine jr_get 3 2 jf_RX3_18 dX3_has_8 hq.1 rfl (.int (μ q 2)) rfl ?_
  obtain ⟨hA, hB⟩ := h
  refine jr_icmp_ge 28 dX3_has_11 rfl (fun c => ?_) (fun c => ?_)
  · have h := hA c
    refine jr_iconst (0 : Int32) dX3_has_28 (by decide) ?_
    exact js_zret hE rfl dX3_has_29 rfl (by decide) h
  · have h := hB c
    refine jr_aload_n dX3_has_14 rfl ?_
    refine jr_get 3 1 jf_RX3_15 dX3_has_15 hq.1 rfl (.ref (q + 2)) rfl ?_
    refine jr_iload_n dX3_has_18 rfl ?_
    obtain ⟨o1, h⟩ := h
    refine jr_ialdn _ dX3_has_19 hq.2.2 o1 rfl ?_
    refine jr_iload_n dX3_has_20 rfl ?_
    obtain ⟨hA, hB⟩ := h
    refine jr_icmp_ne 28 dX3_has_21 rfl (fun c => ?_) (fun c => ?_)
    · have h := hA c
      refine jr_iconst (0 : Int32) dX3_has_28 (by decide) ?_
      exact js_zret hE rfl dX3_has_29 rfl (by decide) h
    · have h := hB c
      refine jr_iconst (1 : Int32) dX3_has_24 (by decide) ?_
      refine jr_goto 29 dX3_has_25 rfl ?_
      exact js_zret hE rfl dX3_has_29 rfl (by decide) h

set_option maxRecDepth 100000 in
set_option maxHeartbeats 4000000 in
theorem sX3_refusalOf_0 {g : jm_G} {ad : Nat → Nat} {κ : jm_K} {P : Option Value → (Nat → Nat → Int32) → Prop} (hE : jE g ad m_X3_refusalOf P κ) {μ : Nat → Nat → Int32} (q : Nat) (hq : jm_Heard q) (p1 : Int32)
    (h : jD g ad m_X3_has [.ref q, .int p1] μ (fun v μ' => jS g ad m_X3_refusalOf κ 5 [some (.ref q), none] (jm_ps v []) μ')) :
    jS g ad m_X3_refusalOf κ 0 [some (.ref q), some (.int p1)] [] μ := by
  refine jr_aload_n dX3_refusalOf_0 rfl ?_
  refine jr_iload_n dX3_refusalOf_1 rfl ?_
  refine js_drop 1 [some (.ref q), none] rfl ?_
  refine js_callV (st := []) [.int p1] jc_RX3_26 rfl dX3_refusalOf_2 hq.1 rfl rfl rfl rfl (kk := ?_)
  exact h

set_option maxRecDepth 100000 in
set_option maxHeartbeats 4000000 in
theorem sX3_refusalOf_5 {g : jm_G} {ad : Nat → Nat} {κ : jm_K} {P : Option Value → (Nat → Nat → Int32) → Prop} (hE : jE g ad m_X3_refusalOf P κ) {μ : Nat → Nat → Int32} (q : Nat) (hq : jm_Heard q) (r : Int32)
    (h : ((r = 0 →
    (((32 : Int32) ≤ (μ q 2) →
    P (some (.int (-4 : Int32))) μ) ∧
    (¬ (32 : Int32) ≤ (μ q 2) →
    P (some (.int (0 : Int32))) μ))) ∧
    (¬ r = 0 →
    P (some (.int (-5 : Int32))) μ))) :
    jS g ad m_X3_refusalOf κ 5 [some (.ref q), none] [.int r] μ := by
  obtain ⟨hA, hB⟩ := h
  refine jr_if_eq 11 dX3_refusalOf_5 rfl (fun c => ?_) (fun c => ?_)
  · have h := hA c
    refine jr_aload_n dX3_refusalOf_11 rfl ?_
    refine jr_get 3 2 jf_RX3_18 dX3_refusalOf_12 hq.1 rfl (.int (μ q 2)) rfl ?_
    refine jr_bipush (32 : Int32) dX3_refusalOf_15 (by decide) ?_
    obtain ⟨hA, hB⟩ := h
    refine jr_icmp_ge 24 dX3_refusalOf_17 rfl (fun c => ?_) (fun c => ?_)
    · have h := hA c
      refine jr_bipush (-4 : Int32) dX3_refusalOf_24 (by decide) ?_
      exact js_iret hE rfl dX3_refusalOf_26 rfl h
    · have h := hB c
      refine jr_iconst (0 : Int32) dX3_refusalOf_20 (by decide) ?_
      refine jr_goto 26 dX3_refusalOf_21 rfl ?_
      exact js_iret hE rfl dX3_refusalOf_26 rfl h
  · have h := hB c
    refine jr_bipush (-5 : Int32) dX3_refusalOf_8 (by decide) ?_
    exact js_iret hE rfl dX3_refusalOf_10 rfl h

set_option maxRecDepth 100000 in
set_option maxHeartbeats 4000000 in
theorem sX3_add_0 {g : jm_G} {ad : Nat → Nat} {κ : jm_K} {P : Option Value → (Nat → Nat → Int32) → Prop} (hE : jE g ad m_X3_add P κ) {μ : Nat → Nat → Int32} (q : Nat) (hq : jm_Heard q) (p1 : Int32)
    (h : (((μ q 2) < (32 : Int32) →
    jD g ad m_X3_placeOf [.ref q, .int p1] μ (fun v μ' => jS g ad m_X3_add κ 17 [some (.ref q), some (.int p1), none] (jm_ps v []) μ')) ∧
    (¬ (μ q 2) < (32 : Int32) →
    P (some (.int (-4 : Int32))) μ))) :
    jS g ad m_X3_add κ 0 [some (.ref q), some (.int p1), none] [] μ := by
  refine jr_aload_n dX3_add_0 rfl ?_
  refine jr_get 3 2 jf_RX3_18 dX3_add_1 hq.1 rfl (.int (μ q 2)) rfl ?_
  refine jr_bipush (32 : Int32) dX3_add_4 (by decide) ?_
  obtain ⟨hA, hB⟩ := h
  refine jr_icmp_lt 12 dX3_add_6 rfl (fun c => ?_) (fun c => ?_)
  · have h := hA c
    refine jr_aload_n dX3_add_12 rfl ?_
    refine jr_iload_n dX3_add_13 rfl ?_
    refine js_callV (st := []) [.int p1] jc_RX3_22 rfl dX3_add_14 hq.1 rfl rfl rfl rfl (kk := ?_)
    exact h
  · have h := hB c
    refine jr_bipush (-4 : Int32) dX3_add_9 (by decide) ?_
    exact js_iret hE rfl dX3_add_11 rfl h

set_option maxRecDepth 100000 in
set_option maxHeartbeats 4000000 in
theorem sX3_add_17 {g : jm_G} {ad : Nat → Nat} {κ : jm_K} {P : Option Value → (Nat → Nat → Int32) → Prop} (hE : jE g ad m_X3_add P κ) {μ : Nat → Nat → Int32} (q : Nat) (hq : jm_Heard q) (x1 : Int32) (r : Int32)
    (h : ¬ r < 0 ∧ ¬ (r + (1 : Int32)) < 0 ∧ ¬ ((μ q 2) - r) < 0 ∧ r.toNatClampNeg + ((μ q 2) - r).toNatClampNeg ≤ 32 ∧ (r + (1 : Int32)).toNatClampNeg + ((μ q 2) - r).toNatClampNeg ≤ 32 ∧
    (∀ μ6 : Nat → Nat → Int32, μ6 = jm_up μ (q + 2) (va_cpy (μ (q + 2)) (μ (q + 2)) r.toNatClampNeg (r + (1 : Int32)).toNatClampNeg ((μ q 2) - r).toNatClampNeg) →
    vp_in r 32 ∧
    (∀ μ8 : Nat → Nat → Int32, μ8 = jm_st μ6 (q + 2) r.toNatClampNeg x1 →
    (∀ μ9 : Nat → Nat → Int32, μ9 = jm_st μ8 q 2 ((μ8 q 2) + (1 : Int32)) →
    P (some (.int r)) μ9)))) :
    jS g ad m_X3_add κ 17 [some (.ref q), some (.int x1), none] [.int r] μ := by
  refine jr_istore_n [some (.ref q), some (.int x1), some (.int r)] dX3_add_17 rfl rfl rfl ?_
  refine jr_aload_n dX3_add_18 rfl ?_
  refine jr_get 3 1 jf_RX3_15 dX3_add_19 hq.1 rfl (.ref (q + 2)) rfl ?_
  refine jr_iload_n dX3_add_22 rfl ?_
  refine jr_aload_n dX3_add_23 rfl ?_
  refine jr_get 3 1 jf_RX3_15 dX3_add_24 hq.1 rfl (.ref (q + 2)) rfl ?_
  refine jr_iload_n dX3_add_27 rfl ?_
  refine jr_iconst (1 : Int32) dX3_add_28 (by decide) ?_
  refine jr_iadd dX3_add_29 ?_
  refine jr_aload_n dX3_add_30 rfl ?_
  refine jr_get 3 2 jf_RX3_18 dX3_add_31 hq.1 rfl (.int (μ q 2)) rfl ?_
  refine jr_iload_n dX3_add_34 rfl ?_
  refine jr_isub dX3_add_35 ?_
  obtain ⟨o1, o2, o3, o4, o5, h⟩ := h
  refine jr_copy jc_RX3_30 dX3_add_36 rfl rfl hq.2.2 hq.2.2 o1 o2 o3 o4 o5 ?_
  obtain ⟨μ6, e6⟩ : ∃ x : Nat → Nat → Int32, x = jm_up μ (q + 2) (va_cpy (μ (q + 2)) (μ (q + 2)) r.toNatClampNeg (r + (1 : Int32)).toNatClampNeg ((μ q 2) - r).toNatClampNeg) := ⟨_, rfl⟩
  have h := h μ6 e6
  refine js_mem e6 ?_
  refine jr_aload_n dX3_add_39 rfl ?_
  refine jr_get 3 1 jf_RX3_15 dX3_add_40 hq.1 rfl (.ref (q + 2)) rfl ?_
  refine jr_iload_n dX3_add_43 rfl ?_
  refine jr_iload_n dX3_add_44 rfl ?_
  obtain ⟨o7, h⟩ := h
  refine jr_iastn _ dX3_add_45 hq.2.2 o7 rfl ?_
  obtain ⟨μ8, e8⟩ : ∃ x : Nat → Nat → Int32, x = jm_st μ6 (q + 2) r.toNatClampNeg x1 := ⟨_, rfl⟩
  have h := h μ8 e8
  refine js_mem e8 ?_
  refine jr_aload_n dX3_add_46 rfl ?_
  refine jr_dup dX3_add_47 rfl ?_
  refine jr_get 3 2 jf_RX3_18 dX3_add_48 hq.1 rfl (.int (μ8 q 2)) rfl ?_
  refine jr_iconst (1 : Int32) dX3_add_51 (by decide) ?_
  refine jr_iadd dX3_add_52 ?_
  refine jr_putI 3 2 jf_RX3_18 dX3_add_53 hq.1 rfl ?_
  obtain ⟨μ9, e9⟩ : ∃ x : Nat → Nat → Int32, x = jm_st μ8 q 2 ((μ8 q 2) + (1 : Int32)) := ⟨_, rfl⟩
  have h := h μ9 e9
  refine js_mem e9 ?_
  refine jr_iload_n dX3_add_56 rfl ?_
  exact js_iret hE rfl dX3_add_57 rfl h

set_option maxRecDepth 100000 in
set_option maxHeartbeats 4000000 in
theorem sX3_remove_0 {g : jm_G} {ad : Nat → Nat} {κ : jm_K} {P : Option Value → (Nat → Nat → Int32) → Prop} (hE : jE g ad m_X3_remove P κ) {μ : Nat → Nat → Int32} (q : Nat) (hq : jm_Heard q) (p1 : Int32)
    (h : jD g ad m_X3_isPulse [.ref q, .int p1] μ (fun v μ' => jS g ad m_X3_remove κ 5 [some (.ref q), some (.int p1)] (jm_ps v []) μ')) :
    jS g ad m_X3_remove κ 0 [some (.ref q), some (.int p1)] [] μ := by
  refine jr_aload_n dX3_remove_0 rfl ?_
  refine jr_iload_n dX3_remove_1 rfl ?_
  refine js_callV (st := []) [.int p1] jc_RX3_36 rfl dX3_remove_2 hq.1 rfl rfl rfl rfl (kk := ?_)
  exact h

set_option maxRecDepth 100000 in
set_option maxHeartbeats 4000000 in
theorem sX3_remove_5 {g : jm_G} {ad : Nat → Nat} {κ : jm_K} {P : Option Value → (Nat → Nat → Int32) → Prop} (hE : jE g ad m_X3_remove P κ) {μ : Nat → Nat → Int32} (q : Nat) (hq : jm_Heard q) (x1 : Int32) (r : Int32)
    (h : ((r = 0 →
    P none μ) ∧
    (¬ r = 0 →
    (∀ μ1 : Nat → Nat → Int32, μ1 = jm_st μ q 2 ((μ q 2) - (1 : Int32)) →
    ¬ (x1 + (1 : Int32)) < 0 ∧ ¬ x1 < 0 ∧ ¬ ((μ1 q 2) - x1) < 0 ∧ (x1 + (1 : Int32)).toNatClampNeg + ((μ1 q 2) - x1).toNatClampNeg ≤ 32 ∧ x1.toNatClampNeg + ((μ1 q 2) - x1).toNatClampNeg ≤ 32 ∧
    (∀ μ7 : Nat → Nat → Int32, μ7 = jm_up μ1 (q + 2) (va_cpy (μ1 (q + 2)) (μ1 (q + 2)) (x1 + (1 : Int32)).toNatClampNeg x1.toNatClampNeg ((μ1 q 2) - x1).toNatClampNeg) →
    P none μ7))))) :
    jS g ad m_X3_remove κ 5 [some (.ref q), some (.int x1)] [.int r] μ := by
  obtain ⟨hA, hB⟩ := h
  refine jr_if_eq 39 dX3_remove_5 rfl (fun c => ?_) (fun c => ?_)
  · have h := hA c
    exact js_vret hE rfl dX3_remove_39 rfl h
  · have h := hB c
    refine jr_aload_n dX3_remove_8 rfl ?_
    refine jr_dup dX3_remove_9 rfl ?_
    refine jr_get 3 2 jf_RX3_18 dX3_remove_10 hq.1 rfl (.int (μ q 2)) rfl ?_
    refine jr_iconst (1 : Int32) dX3_remove_13 (by decide) ?_
    refine jr_isub dX3_remove_14 ?_
    refine jr_putI 3 2 jf_RX3_18 dX3_remove_15 hq.1 rfl ?_
    obtain ⟨μ1, e1⟩ : ∃ x : Nat → Nat → Int32, x = jm_st μ q 2 ((μ q 2) - (1 : Int32)) := ⟨_, rfl⟩
    have h := h μ1 e1
    refine js_mem e1 ?_
    refine jr_aload_n dX3_remove_18 rfl ?_
    refine jr_get 3 1 jf_RX3_15 dX3_remove_19 hq.1 rfl (.ref (q + 2)) rfl ?_
    refine jr_iload_n dX3_remove_22 rfl ?_
    refine jr_iconst (1 : Int32) dX3_remove_23 (by decide) ?_
    refine jr_iadd dX3_remove_24 ?_
    refine jr_aload_n dX3_remove_25 rfl ?_
    refine jr_get 3 1 jf_RX3_15 dX3_remove_26 hq.1 rfl (.ref (q + 2)) rfl ?_
    refine jr_iload_n dX3_remove_29 rfl ?_
    refine jr_aload_n dX3_remove_30 rfl ?_
    refine jr_get 3 2 jf_RX3_18 dX3_remove_31 hq.1 rfl (.int (μ1 q 2)) rfl ?_
    refine jr_iload_n dX3_remove_34 rfl ?_
    refine jr_isub dX3_remove_35 ?_
    obtain ⟨o2, o3, o4, o5, o6, h⟩ := h
    refine jr_copy jc_RX3_30 dX3_remove_36 rfl rfl hq.2.2 hq.2.2 o2 o3 o4 o5 o6 ?_
    obtain ⟨μ7, e7⟩ : ∃ x : Nat → Nat → Int32, x = jm_up μ1 (q + 2) (va_cpy (μ1 (q + 2)) (μ1 (q + 2)) (x1 + (1 : Int32)).toNatClampNeg x1.toNatClampNeg ((μ1 q 2) - x1).toNatClampNeg) := ⟨_, rfl⟩
    have h := h μ7 e7
    refine js_mem e7 ?_
    exact js_vret hE rfl dX3_remove_39 rfl h

set_option maxRecDepth 100000 in
set_option maxHeartbeats 4000000 in
theorem sX3_become_0 {g : jm_G} {ad : Nat → Nat} {κ : jm_K} {P : Option Value → (Nat → Nat → Int32) → Prop} (hE : jE g ad m_X3_become P κ) {μ : Nat → Nat → Int32} (q : Nat) (hq : jm_Heard q) (q2 : Nat) (hq2 : jm_Heard q2) 
    (h : ¬ (0 : Int32) < 0 ∧ ¬ (0 : Int32) < 0 ∧ ¬ (3 : Int32) < 0 ∧ (0 : Int32).toNatClampNeg + (3 : Int32).toNatClampNeg ≤ 3 ∧ (0 : Int32).toNatClampNeg + (3 : Int32).toNatClampNeg ≤ 3 ∧
    (∀ μ6 : Nat → Nat → Int32, μ6 = jm_up μ (q + 1) (va_cpy (μ (q2 + 1)) (μ (q + 1)) (0 : Int32).toNatClampNeg (0 : Int32).toNatClampNeg (3 : Int32).toNatClampNeg) →
    ¬ (0 : Int32) < 0 ∧ ¬ (0 : Int32) < 0 ∧ ¬ (μ6 q2 2) < 0 ∧ (0 : Int32).toNatClampNeg + (μ6 q2 2).toNatClampNeg ≤ 32 ∧ (0 : Int32).toNatClampNeg + (μ6 q2 2).toNatClampNeg ≤ 32 ∧
    (∀ μ12 : Nat → Nat → Int32, μ12 = jm_up μ6 (q + 2) (va_cpy (μ6 (q2 + 2)) (μ6 (q + 2)) (0 : Int32).toNatClampNeg (0 : Int32).toNatClampNeg (μ6 q2 2).toNatClampNeg) →
    (∀ μ13 : Nat → Nat → Int32, μ13 = jm_st μ12 q 2 (μ12 q2 2) →
    P none μ13)))) :
    jS g ad m_X3_become κ 0 [some (.ref q), some (.ref q2)] [] μ := by
  refine jr_aload_n dX3_become_0 rfl ?_
  refine jr_get 3 0 jf_RX3_9 dX3_become_1 hq2.1 rfl (.ref (q2 + 1)) rfl ?_
  refine jr_iconst (0 : Int32) dX3_become_4 (by decide) ?_
  refine jr_aload_n dX3_become_5 rfl ?_
  refine jr_get 3 0 jf_RX3_9 dX3_become_6 hq.1 rfl (.ref (q + 1)) rfl ?_
  refine jr_iconst (0 : Int32) dX3_become_9 (by decide) ?_
  refine jr_aload_n dX3_become_10 rfl ?_
  refine jr_get 3 0 jf_RX3_9 dX3_become_11 hq.1 rfl (.ref (q + 1)) rfl ?_
  refine jr_alen dX3_become_14 hq.2.1 (by decide) (3 : Int32) (by decide) ?_
  obtain ⟨o1, o2, o3, o4, o5, h⟩ := h
  refine jr_copy jc_RX3_30 dX3_become_15 rfl rfl hq2.2.1 hq.2.1 o1 o2 o3 o4 o5 ?_
  obtain ⟨μ6, e6⟩ : ∃ x : Nat → Nat → Int32, x = jm_up μ (q + 1) (va_cpy (μ (q2 + 1)) (μ (q + 1)) (0 : Int32).toNatClampNeg (0 : Int32).toNatClampNeg (3 : Int32).toNatClampNeg) := ⟨_, rfl⟩
  have h := h μ6 e6
  refine js_mem e6 ?_
  refine jr_aload_n dX3_become_18 rfl ?_
  refine jr_get 3 1 jf_RX3_15 dX3_become_19 hq2.1 rfl (.ref (q2 + 2)) rfl ?_
  refine jr_iconst (0 : Int32) dX3_become_22 (by decide) ?_
  refine jr_aload_n dX3_become_23 rfl ?_
  refine jr_get 3 1 jf_RX3_15 dX3_become_24 hq.1 rfl (.ref (q + 2)) rfl ?_
  refine jr_iconst (0 : Int32) dX3_become_27 (by decide) ?_
  refine jr_aload_n dX3_become_28 rfl ?_
  refine jr_get 3 2 jf_RX3_18 dX3_become_29 hq2.1 rfl (.int (μ6 q2 2)) rfl ?_
  obtain ⟨o7, o8, o9, o10, o11, h⟩ := h
  refine jr_copy jc_RX3_30 dX3_become_32 rfl rfl hq2.2.2 hq.2.2 o7 o8 o9 o10 o11 ?_
  obtain ⟨μ12, e12⟩ : ∃ x : Nat → Nat → Int32, x = jm_up μ6 (q + 2) (va_cpy (μ6 (q2 + 2)) (μ6 (q + 2)) (0 : Int32).toNatClampNeg (0 : Int32).toNatClampNeg (μ6 q2 2).toNatClampNeg) := ⟨_, rfl⟩
  have h := h μ12 e12
  refine js_mem e12 ?_
  refine jr_aload_n dX3_become_35 rfl ?_
  refine jr_aload_n dX3_become_36 rfl ?_
  refine jr_get 3 2 jf_RX3_18 dX3_become_37 hq2.1 rfl (.int (μ12 q2 2)) rfl ?_
  refine jr_putI 3 2 jf_RX3_18 dX3_become_40 hq.1 rfl ?_
  obtain ⟨μ13, e13⟩ : ∃ x : Nat → Nat → Int32, x = jm_st μ12 q 2 (μ12 q2 2) := ⟨_, rfl⟩
  have h := h μ13 e13
  refine js_mem e13 ?_
  exact js_vret hE rfl dX3_become_43 rfl h

set_option maxRecDepth 100000 in
set_option maxHeartbeats 4000000 in
theorem sX3_placeOf_0 {g : jm_G} {ad : Nat → Nat} {κ : jm_K} {P : Option Value → (Nat → Nat → Int32) → Prop} (hE : jE g ad m_X3_placeOf P κ) {μ : Nat → Nat → Int32} (q : Nat) (hq : jm_Heard q) (p1 : Int32)
    (h : jS g ad m_X3_placeOf κ 2 [some (.ref q), some (.int p1), some (.int (0 : Int32))] [] μ) :
    jS g ad m_X3_placeOf κ 0 [some (.ref q), some (.int p1), none] [] μ := by
  refine jr_iconst (0 : Int32) dX3_placeOf_0 (by decide) ?_
  refine jr_istore_n [some (.ref q), some (.int p1), some (.int (0 : Int32))] dX3_placeOf_1 rfl rfl rfl ?_
  exact h

set_option maxRecDepth 100000 in
set_option maxHeartbeats 4000000 in
theorem sX3_placeOf_2 {g : jm_G} {ad : Nat → Nat} {κ : jm_K} {P : Option Value → (Nat → Nat → Int32) → Prop} (hE : jE g ad m_X3_placeOf P κ) {μ : Nat → Nat → Int32} (q : Nat) (hq : jm_Heard q) (x1 : Int32) (x2 : Int32)
    (h : (((μ q 2) ≤ x2 →
    P (some (.int x2)) μ) ∧
    (¬ (μ q 2) ≤ x2 →
    vp_in x2 32 ∧
    ((x1 ≤ (μ (q + 2) x2.toNatClampNeg) →
    P (some (.int x2)) μ) ∧
    (¬ x1 ≤ (μ (q + 2) x2.toNatClampNeg) →
    jS g ad m_X3_placeOf κ 2 [some (.ref q), some (.int x1), some (.int (x2 + 1))] [] μ))))) :
    jS g ad m_X3_placeOf κ 2 [some (.ref q), some (.int x1), some (.int x2)] [] μ := by
  refine jr_iload_n dX3_placeOf_2 rfl ?_
  refine jr_aload_n dX3_placeOf_3 rfl ?_
  refine jr_get 3 2 jf_RX3_18 dX3_placeOf_4 hq.1 rfl (.int (μ q 2)) rfl ?_
  obtain ⟨hA, hB⟩ := h
  refine jr_icmp_ge 26 dX3_placeOf_7 rfl (fun c => ?_) (fun c => ?_)
  · have h := hA c
    refine jr_iload_n dX3_placeOf_26 rfl ?_
    exact js_iret hE rfl dX3_placeOf_27 rfl h
  · have h := hB c
    refine jr_aload_n dX3_placeOf_10 rfl ?_
    refine jr_get 3 1 jf_RX3_15 dX3_placeOf_11 hq.1 rfl (.ref (q + 2)) rfl ?_
    refine jr_iload_n dX3_placeOf_14 rfl ?_
    obtain ⟨o1, h⟩ := h
    refine jr_ialdn _ dX3_placeOf_15 hq.2.2 o1 rfl ?_
    refine jr_iload_n dX3_placeOf_16 rfl ?_
    obtain ⟨hA, hB⟩ := h
    refine jr_icmp_ge 26 dX3_placeOf_17 rfl (fun c => ?_) (fun c => ?_)
    · have h := hA c
      refine jr_iload_n dX3_placeOf_26 rfl ?_
      exact js_iret hE rfl dX3_placeOf_27 rfl h
    · have h := hB c
      refine jr_iinc [some (.ref q), some (.int x1), some (.int (x2 + 1))] dX3_placeOf_20 rfl rfl rfl rfl rfl ?_
      refine jr_goto 2 dX3_placeOf_23 rfl ?_
      exact h

end
