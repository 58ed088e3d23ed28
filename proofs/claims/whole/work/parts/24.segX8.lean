section
set_option maxRecDepth 100000 in
set_option maxHeartbeats 4000000 in
theorem sX8_set_0 {g : jm_G} {ad : Nat → Nat} {κ : jm_K} {P : Option Value → (Nat → Nat → Int32) → Prop} (hE : jE g ad m_X8_set P κ) {μ : Nat → Nat → Int32}  (p1 : Int32) (p2 : Int32)
    (h : ((p1 < 0 →
    P (some (.int (-2 : Int32))) μ) ∧
    (¬ p1 < 0 →
    ((p1 ≤ (2 : Int32) →
    vp_in p1 (g.2.2.2.2.1 0) ∧
    ((p2 < (g.2.2.2.2.2 0 p1.toNatClampNeg) →
    P (some (.int (-2 : Int32))) μ) ∧
    (¬ p2 < (g.2.2.2.2.2 0 p1.toNatClampNeg) →
    vp_in p1 (g.2.2.2.2.1 1) ∧
    ((p2 ≤ (g.2.2.2.2.2 1 p1.toNatClampNeg) →
    vp_in p1 3 ∧
    jD g ad m_X8_beginChange [.ref 0] μ (fun v μ' => jS g ad m_X8_set κ 47 [some (.ref 0), some (.int p1), some (.int p2), some (.int (μ 2 p1.toNatClampNeg))] (jm_ps v []) μ')) ∧
    (¬ p2 ≤ (g.2.2.2.2.2 1 p1.toNatClampNeg) →
    P (some (.int (-2 : Int32))) μ))))) ∧
    (¬ p1 ≤ (2 : Int32) →
    P (some (.int (-2 : Int32))) μ))))) :
    jS g ad m_X8_set κ 0 [some (.ref 0), some (.int p1), some (.int p2), none] [] μ := by
  refine jr_iload_n dX8_set_0 rfl ?_
  obtain ⟨hA, hB⟩ := h
  refine jr_if_lt 9 dX8_set_1 rfl (fun c => ?_) (fun c => ?_)
  · have h := hA c
    refine jr_bipush (-2 : Int32) dX8_set_9 (by decide) ?_
    exact js_iret hE rfl dX8_set_11 rfl h
  · have h := hB c
    refine jr_iload_n dX8_set_4 rfl ?_
    refine jr_iconst (2 : Int32) dX8_set_5 (by decide) ?_
    obtain ⟨hA, hB⟩ := h
    refine jr_icmp_le 12 dX8_set_6 rfl (fun c => ?_) (fun c => ?_)
    · have h := hA c
      refine jr_iload_n dX8_set_12 rfl ?_
      refine jr_lowest dX8_set_13 jw_RX8_66 ?_
      refine jr_iload_n dX8_set_16 rfl ?_
      obtain ⟨o1, h⟩ := h
      refine jr_rald (r := 0) (by decide) dX8_set_17 o1 ?_
      obtain ⟨hA, hB⟩ := h
      refine jr_icmp_lt 30 dX8_set_18 rfl (fun c => ?_) (fun c => ?_)
      · have h := hA c
        refine jr_bipush (-2 : Int32) dX8_set_30 (by decide) ?_
        exact js_iret hE rfl dX8_set_32 rfl h
      · have h := hB c
        refine jr_iload_n dX8_set_21 rfl ?_
        refine jr_highest dX8_set_22 jw_RX8_70 ?_
        refine jr_iload_n dX8_set_25 rfl ?_
        obtain ⟨o2, h⟩ := h
        refine jr_rald (r := 1) (by decide) dX8_set_26 o2 ?_
        obtain ⟨hA, hB⟩ := h
        refine jr_icmp_le 33 dX8_set_27 rfl (fun c => ?_) (fun c => ?_)
        · have h := hA c
          refine jr_aload_n dX8_set_33 rfl ?_
          refine jr_get 8 0 jf_RX8_12 dX8_set_34 ga_0 rfl (.ref 1) rfl ?_
          refine jr_get 3 0 jf_RX8_73 dX8_set_37 jm_heard1.1 rfl (.ref 2) rfl ?_
          refine jr_iload_n dX8_set_40 rfl ?_
          obtain ⟨o3, h⟩ := h
          refine jr_ialdn _ dX8_set_41 ga_2 o3 rfl ?_
          refine jr_istore_n [some (.ref 0), some (.int p1), some (.int p2), some (.int (μ 2 p1.toNatClampNeg))] dX8_set_42 rfl rfl rfl ?_
          refine jr_aload_n dX8_set_43 rfl ?_
          refine js_callV (st := []) [] jc_RX8_76 rfl dX8_set_44 ga_0 rfl rfl rfl rfl (kk := ?_)
          exact h
        · have h := hB c
          refine jr_bipush (-2 : Int32) dX8_set_30 (by decide) ?_
          exact js_iret hE rfl dX8_set_32 rfl h
    · have h := hB c
      refine jr_bipush (-2 : Int32) dX8_set_9 (by decide) ?_
      exact js_iret hE rfl dX8_set_11 rfl h

set_option maxRecDepth 100000 in
set_option maxHeartbeats 4000000 in
theorem sX8_set_47 {g : jm_G} {ad : Nat → Nat} {κ : jm_K} {P : Option Value → (Nat → Nat → Int32) → Prop} (hE : jE g ad m_X8_set P κ) {μ : Nat → Nat → Int32}  (x1 : Int32) (x2 : Int32) (x3 : Int32)
    (h : vp_in x1 3 ∧
    (∀ μ2 : Nat → Nat → Int32, μ2 = jm_st μ 2 x1.toNatClampNeg x2 →
    P (some (.int (x3 + (100 : Int32)))) μ2)) :
    jS g ad m_X8_set κ 47 [some (.ref 0), some (.int x1), some (.int x2), some (.int x3)] [] μ := by
  refine jr_aload_n dX8_set_47 rfl ?_
  refine jr_get 8 0 jf_RX8_12 dX8_set_48 ga_0 rfl (.ref 1) rfl ?_
  refine jr_get 3 0 jf_RX8_73 dX8_set_51 jm_heard1.1 rfl (.ref 2) rfl ?_
  refine jr_iload_n dX8_set_54 rfl ?_
  refine jr_iload_n dX8_set_55 rfl ?_
  obtain ⟨o1, h⟩ := h
  refine jr_iastn _ dX8_set_56 ga_2 o1 rfl ?_
  obtain ⟨μ2, e2⟩ : ∃ x : Nat → Nat → Int32, x = jm_st μ 2 x1.toNatClampNeg x2 := ⟨_, rfl⟩
  have h := h μ2 e2
  refine js_mem e2 ?_
  refine jr_iload_n dX8_set_57 rfl ?_
  refine jr_bipush (100 : Int32) dX8_set_58 (by decide) ?_
  refine jr_iadd dX8_set_60 ?_
  exact js_iret hE rfl dX8_set_61 rfl h

set_option maxRecDepth 100000 in
set_option maxHeartbeats 4000000 in
theorem sX8_hear_0 {g : jm_G} {ad : Nat → Nat} {κ : jm_K} {P : Option Value → (Nat → Nat → Int32) → Prop} (hE : jE g ad m_X8_hear P κ) {μ : Nat → Nat → Int32}  (p1 : Int32) (p2 : Int32)
    (h : jD g ad m_X8_isEar [.int p1] μ (fun v μ' => jS g ad m_X8_hear κ 4 [some (.ref 0), some (.int p1), some (.int p2), none, none] (jm_ps v []) μ')) :
    jS g ad m_X8_hear κ 0 [some (.ref 0), some (.int p1), some (.int p2), none, none] [] μ := by
  refine jr_iload_n dX8_hear_0 rfl ?_
  refine js_callS (st := []) [.int p1] jc_RX8_79 rfl dX8_hear_1 rfl rfl rfl (kk := ?_)
  exact h

set_option maxRecDepth 100000 in
set_option maxHeartbeats 4000000 in
theorem sX8_hear_4 {g : jm_G} {ad : Nat → Nat} {κ : jm_K} {P : Option Value → (Nat → Nat → Int32) → Prop} (hE : jE g ad m_X8_hear P κ) {μ : Nat → Nat → Int32}  (x1 : Int32) (x2 : Int32) (r : Int32)
    (h : ((¬ r = 0 →
    ((x2 < 0 →
    P (some (.int (-2 : Int32))) μ) ∧
    (¬ x2 < 0 →
    ((x2 ≤ (99999 : Int32) →
    jD g ad m_X8_markOf [.int x1, .int x2] μ (fun v μ' => jS g ad m_X8_hear κ 27 [some (.ref 0), none, none, none, none] (jm_ps v []) μ')) ∧
    (¬ x2 ≤ (99999 : Int32) →
    P (some (.int (-2 : Int32))) μ))))) ∧
    (r = 0 →
    P (some (.int (-1 : Int32))) μ))) :
    jS g ad m_X8_hear κ 4 [some (.ref 0), some (.int x1), some (.int x2), none, none] [.int r] μ := by
  obtain ⟨hA, hB⟩ := h
  refine jr_if_ne 9 dX8_hear_4 rfl (fun c => ?_) (fun c => ?_)
  · have h := hA c
    refine jr_iload_n dX8_hear_9 rfl ?_
    obtain ⟨hA, hB⟩ := h
    refine jr_if_lt 19 dX8_hear_10 rfl (fun c => ?_) (fun c => ?_)
    · have h := hA c
      refine jr_bipush (-2 : Int32) dX8_hear_19 (by decide) ?_
      exact js_iret hE rfl dX8_hear_21 rfl h
    · have h := hB c
      refine jr_iload_n dX8_hear_13 rfl ?_
      refine jr_ldc (99999 : Int32) dX8_hear_14 jk_RX8_83 ?_
      obtain ⟨hA, hB⟩ := h
      refine jr_icmp_le 22 dX8_hear_16 rfl (fun c => ?_) (fun c => ?_)
      · have h := hA c
        refine jr_iload_n dX8_hear_22 rfl ?_
        refine jr_iload_n dX8_hear_23 rfl ?_
        refine js_drop 1 [some (.ref 0), none, some (.int x2), none, none] rfl ?_
        refine js_drop 2 [some (.ref 0), none, none, none, none] rfl ?_
        refine js_callS (st := []) [.int x1, .int x2] jc_RX8_84 rfl dX8_hear_24 rfl rfl rfl (kk := ?_)
        exact h
      · have h := hB c
        refine jr_bipush (-2 : Int32) dX8_hear_19 (by decide) ?_
        exact js_iret hE rfl dX8_hear_21 rfl h
  · have h := hB c
    refine jr_iconst (-1 : Int32) dX8_hear_7 (by decide) ?_
    exact js_iret hE rfl dX8_hear_8 rfl h

set_option maxRecDepth 100000 in
set_option maxHeartbeats 4000000 in
theorem sX8_hear_27 {g : jm_G} {ad : Nat → Nat} {κ : jm_K} {P : Option Value → (Nat → Nat → Int32) → Prop} (hE : jE g ad m_X8_hear P κ) {μ : Nat → Nat → Int32}  (r : Int32)
    (h : jD g ad m_X3_refusalOf [.ref 1, .int r] μ (fun v μ' => jS g ad m_X8_hear κ 36 [some (.ref 0), none, none, some (.int r), none] (jm_ps v []) μ')) :
    jS g ad m_X8_hear κ 27 [some (.ref 0), none, none, none, none] [.int r] μ := by
  refine jr_istore_n [some (.ref 0), none, none, some (.int r), none] dX8_hear_27 rfl rfl rfl ?_
  refine jr_aload_n dX8_hear_28 rfl ?_
  refine jr_get 8 0 jf_RX8_12 dX8_hear_29 ga_0 rfl (.ref 1) rfl ?_
  refine jr_iload_n dX8_hear_32 rfl ?_
  refine js_callV (st := []) [.int r] jc_RX8_88 rfl dX8_hear_33 jm_heard1.1 rfl rfl rfl rfl (kk := ?_)
  exact h

set_option maxRecDepth 100000 in
set_option maxHeartbeats 4000000 in
theorem sX8_hear_36 {g : jm_G} {ad : Nat → Nat} {κ : jm_K} {P : Option Value → (Nat → Nat → Int32) → Prop} (hE : jE g ad m_X8_hear P κ) {μ : Nat → Nat → Int32}  (x3 : Int32) (r : Int32)
    (h : ((r = 0 →
    jD g ad m_X8_beginChange [.ref 0] μ (fun v μ' => jS g ad m_X8_hear κ 50 [some (.ref 0), none, none, some (.int x3), none] (jm_ps v []) μ')) ∧
    (¬ r = 0 →
    P (some (.int r)) μ))) :
    jS g ad m_X8_hear κ 36 [some (.ref 0), none, none, some (.int x3), none] [.int r] μ := by
  refine jr_istore [some (.ref 0), none, none, some (.int x3), some (.int r)] dX8_hear_36 rfl rfl rfl ?_
  refine jr_iload dX8_hear_38 rfl ?_
  obtain ⟨hA, hB⟩ := h
  refine jr_if_eq 46 dX8_hear_40 rfl (fun c => ?_) (fun c => ?_)
  · have h := hA c
    refine jr_aload_n dX8_hear_46 rfl ?_
    refine js_drop 4 [some (.ref 0), none, none, some (.int x3), none] rfl ?_
    refine js_callV (st := []) [] jc_RX8_76 rfl dX8_hear_47 ga_0 rfl rfl rfl rfl (kk := ?_)
    exact h
  · have h := hB c
    refine jr_iload dX8_hear_43 rfl ?_
    exact js_iret hE rfl dX8_hear_45 rfl h

set_option maxRecDepth 100000 in
set_option maxHeartbeats 4000000 in
theorem sX8_hear_50 {g : jm_G} {ad : Nat → Nat} {κ : jm_K} {P : Option Value → (Nat → Nat → Int32) → Prop} (hE : jE g ad m_X8_hear P κ) {μ : Nat → Nat → Int32}  (x3 : Int32)
    (h : jD g ad m_X3_add [.ref 1, .int x3] μ (fun v μ' => jS g ad m_X8_hear κ 58 [none, none, none, none, none] (jm_ps v []) μ')) :
    jS g ad m_X8_hear κ 50 [some (.ref 0), none, none, some (.int x3), none] [] μ := by
  refine jr_aload_n dX8_hear_50 rfl ?_
  refine jr_get 8 0 jf_RX8_12 dX8_hear_51 ga_0 rfl (.ref 1) rfl ?_
  refine jr_iload_n dX8_hear_54 rfl ?_
  refine js_drop 0 [none, none, none, some (.int x3), none] rfl ?_
  refine js_drop 3 [none, none, none, none, none] rfl ?_
  refine js_callV (st := []) [.int x3] jc_RX8_92 rfl dX8_hear_55 jm_heard1.1 rfl rfl rfl rfl (kk := ?_)
  exact h

set_option maxRecDepth 100000 in
set_option maxHeartbeats 4000000 in
theorem sX8_hear_58 {g : jm_G} {ad : Nat → Nat} {κ : jm_K} {P : Option Value → (Nat → Nat → Int32) → Prop} (hE : jE g ad m_X8_hear P κ) {μ : Nat → Nat → Int32}  (r : Int32)
    (h : P (some (.int r)) μ) :
    jS g ad m_X8_hear κ 58 [none, none, none, none, none] [.int r] μ := by
  exact js_iret hE rfl dX8_hear_58 rfl h

set_option maxRecDepth 100000 in
set_option maxHeartbeats 4000000 in
theorem sX8_fire_0 {g : jm_G} {ad : Nat → Nat} {κ : jm_K} {P : Option Value → (Nat → Nat → Int32) → Prop} (hE : jE g ad m_X8_fire P κ) {μ : Nat → Nat → Int32}  (p1 : Int32) (p2 : Int32) (p3 : Int32)
    (h : jD g ad m_X8_isPoint [.int p1, .int p2] μ (fun v μ' => jS g ad m_X8_fire κ 5 [some (.ref 0), some (.int p1), some (.int p2), some (.int p3), none] (jm_ps v []) μ')) :
    jS g ad m_X8_fire κ 0 [some (.ref 0), some (.int p1), some (.int p2), some (.int p3), none] [] μ := by
  refine jr_iload_n dX8_fire_0 rfl ?_
  refine jr_iload_n dX8_fire_1 rfl ?_
  refine js_callS (st := []) [.int p1, .int p2] jc_RX8_95 rfl dX8_fire_2 rfl rfl rfl (kk := ?_)
  exact h

set_option maxRecDepth 100000 in
set_option maxHeartbeats 4000000 in
theorem sX8_fire_5 {g : jm_G} {ad : Nat → Nat} {κ : jm_K} {P : Option Value → (Nat → Nat → Int32) → Prop} (hE : jE g ad m_X8_fire P κ) {μ : Nat → Nat → Int32}  (x1 : Int32) (x2 : Int32) (x3 : Int32) (r : Int32)
    (h : ((¬ r = 0 →
    ((x3 < 0 →
    P (some (.int (-2 : Int32))) μ) ∧
    (¬ x3 < 0 →
    ((x3 ≤ (90000 : Int32) →
    jD g ad m_X2_tune [.ref 29, .int (μ 2 0)] μ (fun v μ' => jS g ad m_X8_fire κ 39 [some (.ref 0), some (.int x1), some (.int x2), some (.int x3), none] (jm_ps v []) μ')) ∧
    (¬ x3 ≤ (90000 : Int32) →
    P (some (.int (-2 : Int32))) μ))))) ∧
    (r = 0 →
    P (some (.int (-1 : Int32))) μ))) :
    jS g ad m_X8_fire κ 5 [some (.ref 0), some (.int x1), some (.int x2), some (.int x3), none] [.int r] μ := by
  obtain ⟨hA, hB⟩ := h
  refine jr_if_ne 10 dX8_fire_5 rfl (fun c => ?_) (fun c => ?_)
  · have h := hA c
    refine jr_iload_n dX8_fire_10 rfl ?_
    obtain ⟨hA, hB⟩ := h
    refine jr_if_lt 20 dX8_fire_11 rfl (fun c => ?_) (fun c => ?_)
    · have h := hA c
      refine jr_bipush (-2 : Int32) dX8_fire_20 (by decide) ?_
      exact js_iret hE rfl dX8_fire_22 rfl h
    · have h := hB c
      refine jr_iload_n dX8_fire_14 rfl ?_
      refine jr_ldc (90000 : Int32) dX8_fire_15 jk_RX8_99 ?_
      obtain ⟨hA, hB⟩ := h
      refine jr_icmp_le 23 dX8_fire_17 rfl (fun c => ?_) (fun c => ?_)
      · have h := hA c
        refine jr_aload_n dX8_fire_23 rfl ?_
        refine jr_get 8 5 jf_RX8_41 dX8_fire_24 ga_0 rfl (.ref 29) rfl ?_
        refine jr_aload_n dX8_fire_27 rfl ?_
        refine jr_get 8 0 jf_RX8_12 dX8_fire_28 ga_0 rfl (.ref 1) rfl ?_
        refine jr_get 3 0 jf_RX8_73 dX8_fire_31 jm_heard1.1 rfl (.ref 2) rfl ?_
        refine jr_iconst (0 : Int32) dX8_fire_34 (by decide) ?_
        refine jr_ialdn 0 dX8_fire_35 ga_2 (jm_inD (by decide)) rfl ?_
        refine js_callV (st := []) [.int (μ 2 0)] jc_RX8_100 rfl dX8_fire_36 ga_29 rfl rfl rfl rfl (kk := ?_)
        exact h
      · have h := hB c
        refine jr_bipush (-2 : Int32) dX8_fire_20 (by decide) ?_
        exact js_iret hE rfl dX8_fire_22 rfl h
  · have h := hB c
    refine jr_iconst (-1 : Int32) dX8_fire_8 (by decide) ?_
    exact js_iret hE rfl dX8_fire_9 rfl h

set_option maxRecDepth 100000 in
set_option maxHeartbeats 4000000 in
theorem sX8_fire_39 {g : jm_G} {ad : Nat → Nat} {κ : jm_K} {P : Option Value → (Nat → Nat → Int32) → Prop} (hE : jE g ad m_X8_fire P κ) {μ : Nat → Nat → Int32}  (x1 : Int32) (x2 : Int32) (x3 : Int32)
    (h : jS g ad m_X8_fire κ 42 [some (.ref 0), some (.int x1), some (.int x2), some (.int x3), some (.int (0 : Int32))] [] μ) :
    jS g ad m_X8_fire κ 39 [some (.ref 0), some (.int x1), some (.int x2), some (.int x3), none] [] μ := by
  refine jr_iconst (0 : Int32) dX8_fire_39 (by decide) ?_
  refine jr_istore [some (.ref 0), some (.int x1), some (.int x2), some (.int x3), some (.int (0 : Int32))] dX8_fire_40 rfl rfl rfl ?_
  exact h

set_option maxRecDepth 100000 in
set_option maxHeartbeats 4000000 in
theorem sX8_fire_42 {g : jm_G} {ad : Nat → Nat} {κ : jm_K} {P : Option Value → (Nat → Nat → Int32) → Prop} (hE : jE g ad m_X8_fire P κ) {μ : Nat → Nat → Int32}  (x1 : Int32) (x2 : Int32) (x3 : Int32) (x4 : Int32)
    (h : (((4 : Int32) ≤ x4 →
    ((((μ 1 2) + (4 : Int32)) ≤ (32 : Int32) →
    jD g ad m_X8_beginChange [.ref 0] μ (fun v μ' => jS g ad m_X8_fire κ 106 [some (.ref 0), some (.int x1), some (.int x2), some (.int x3), none] (jm_ps v []) μ')) ∧
    (¬ ((μ 1 2) + (4 : Int32)) ≤ (32 : Int32) →
    P (some (.int (-4 : Int32))) μ))) ∧
    (¬ (4 : Int32) ≤ x4 →
    jD g ad m_X2_crackTime [.ref 29, .int x1, .int x2, .int x4] μ (fun v μ' => jS g ad m_X8_fire κ 66 [some (.ref 0), some (.int x1), some (.int x2), some (.int x3), some (.int x4)] (jm_ps v [.int x3, .int x4, .ref 1]) μ')))) :
    jS g ad m_X8_fire κ 42 [some (.ref 0), some (.int x1), some (.int x2), some (.int x3), some (.int x4)] [] μ := by
  refine jr_iload dX8_fire_42 rfl ?_
  refine jr_iconst (4 : Int32) dX8_fire_44 (by decide) ?_
  obtain ⟨hA, hB⟩ := h
  refine jr_icmp_ge 85 dX8_fire_45 rfl (fun c => ?_) (fun c => ?_)
  · have h := hA c
    refine jr_aload_n dX8_fire_85 rfl ?_
    refine jr_get 8 0 jf_RX8_12 dX8_fire_86 ga_0 rfl (.ref 1) rfl ?_
    refine jr_get 3 2 jf_RX8_111 dX8_fire_89 jm_heard1.1 rfl (.int (μ 1 2)) rfl ?_
    refine jr_iconst (4 : Int32) dX8_fire_92 (by decide) ?_
    refine jr_iadd dX8_fire_93 ?_
    refine jr_bipush (32 : Int32) dX8_fire_94 (by decide) ?_
    obtain ⟨hA, hB⟩ := h
    refine jr_icmp_le 102 dX8_fire_96 rfl (fun c => ?_) (fun c => ?_)
    · have h := hA c
      refine jr_aload_n dX8_fire_102 rfl ?_
      refine js_drop 4 [some (.ref 0), some (.int x1), some (.int x2), some (.int x3), none] rfl ?_
      refine js_callV (st := []) [] jc_RX8_76 rfl dX8_fire_103 ga_0 rfl rfl rfl rfl (kk := ?_)
      exact h
    · have h := hB c
      refine jr_bipush (-4 : Int32) dX8_fire_99 (by decide) ?_
      exact js_iret hE rfl dX8_fire_101 rfl h
  · have h := hB c
    refine jr_aload_n dX8_fire_48 rfl ?_
    refine jr_get 8 0 jf_RX8_12 dX8_fire_49 ga_0 rfl (.ref 1) rfl ?_
    refine jr_iload dX8_fire_52 rfl ?_
    refine jr_iload_n dX8_fire_54 rfl ?_
    refine jr_aload_n dX8_fire_55 rfl ?_
    refine jr_get 8 5 jf_RX8_41 dX8_fire_56 ga_0 rfl (.ref 29) rfl ?_
    refine jr_iload_n dX8_fire_59 rfl ?_
    refine jr_iload_n dX8_fire_60 rfl ?_
    refine jr_iload dX8_fire_61 rfl ?_
    refine js_callV (st := [.int x3, .int x4, .ref 1]) [.int x1, .int x2, .int x4] jc_RX8_104 rfl dX8_fire_63 ga_29 rfl rfl rfl rfl (kk := ?_)
    exact h

set_option maxRecDepth 100000 in
set_option maxHeartbeats 4000000 in
theorem sX8_fire_106 {g : jm_G} {ad : Nat → Nat} {κ : jm_K} {P : Option Value → (Nat → Nat → Int32) → Prop} (hE : jE g ad m_X8_fire P κ) {μ : Nat → Nat → Int32}  (x1 : Int32) (x2 : Int32) (x3 : Int32)
    (h : jS g ad m_X8_fire κ 109 [some (.ref 0), some (.int x1), some (.int x2), some (.int x3), some (.int (0 : Int32))] [] μ) :
    jS g ad m_X8_fire κ 106 [some (.ref 0), some (.int x1), some (.int x2), some (.int x3), none] [] μ := by
  refine jr_iconst (0 : Int32) dX8_fire_106 (by decide) ?_
  refine jr_istore [some (.ref 0), some (.int x1), some (.int x2), some (.int x3), some (.int (0 : Int32))] dX8_fire_107 rfl rfl rfl ?_
  exact h

set_option maxRecDepth 100000 in
set_option maxHeartbeats 4000000 in
theorem sX8_fire_66 {g : jm_G} {ad : Nat → Nat} {κ : jm_K} {P : Option Value → (Nat → Nat → Int32) → Prop} (hE : jE g ad m_X8_fire P κ) {μ : Nat → Nat → Int32}  (x1 : Int32) (x2 : Int32) (x3 : Int32) (x4 : Int32) (r : Int32) (y1 : Int32) (y2 : Int32)
    (h : jD g ad m_X8_markOf [.int y2, .int (y1 + r)] μ (fun v μ' => jS g ad m_X8_fire κ 70 [some (.ref 0), some (.int x1), some (.int x2), some (.int x3), some (.int x4)] (jm_ps v [.ref 1]) μ')) :
    jS g ad m_X8_fire κ 66 [some (.ref 0), some (.int x1), some (.int x2), some (.int x3), some (.int x4)] [.int r, .int y1, .int y2, .ref 1] μ := by
  refine jr_iadd dX8_fire_66 ?_
  refine js_callS (st := [.ref 1]) [.int y2, .int (y1 + r)] jc_RX8_84 rfl dX8_fire_67 rfl rfl rfl (kk := ?_)
  exact h

set_option maxRecDepth 100000 in
set_option maxHeartbeats 4000000 in
theorem sX8_fire_109 {g : jm_G} {ad : Nat → Nat} {κ : jm_K} {P : Option Value → (Nat → Nat → Int32) → Prop} (hE : jE g ad m_X8_fire P κ) {μ : Nat → Nat → Int32}  (x1 : Int32) (x2 : Int32) (x3 : Int32) (x4 : Int32)
    (h : (((4 : Int32) ≤ x4 →
    P (some (.int (μ 1 2))) μ) ∧
    (¬ (4 : Int32) ≤ x4 →
    jD g ad m_X2_crackTime [.ref 29, .int x1, .int x2, .int x4] μ (fun v μ' => jS g ad m_X8_fire κ 133 [some (.ref 0), some (.int x1), some (.int x2), some (.int x3), some (.int x4)] (jm_ps v [.int x3, .int x4, .ref 1]) μ')))) :
    jS g ad m_X8_fire κ 109 [some (.ref 0), some (.int x1), some (.int x2), some (.int x3), some (.int x4)] [] μ := by
  refine jr_iload dX8_fire_109 rfl ?_
  refine jr_iconst (4 : Int32) dX8_fire_111 (by decide) ?_
  obtain ⟨hA, hB⟩ := h
  refine jr_icmp_ge 147 dX8_fire_112 rfl (fun c => ?_) (fun c => ?_)
  · have h := hA c
    refine jr_aload_n dX8_fire_147 rfl ?_
    refine jr_get 8 0 jf_RX8_12 dX8_fire_148 ga_0 rfl (.ref 1) rfl ?_
    refine jr_get 3 2 jf_RX8_111 dX8_fire_151 jm_heard1.1 rfl (.int (μ 1 2)) rfl ?_
    exact js_iret hE rfl dX8_fire_154 rfl h
  · have h := hB c
    refine jr_aload_n dX8_fire_115 rfl ?_
    refine jr_get 8 0 jf_RX8_12 dX8_fire_116 ga_0 rfl (.ref 1) rfl ?_
    refine jr_iload dX8_fire_119 rfl ?_
    refine jr_iload_n dX8_fire_121 rfl ?_
    refine jr_aload_n dX8_fire_122 rfl ?_
    refine jr_get 8 5 jf_RX8_41 dX8_fire_123 ga_0 rfl (.ref 29) rfl ?_
    refine jr_iload_n dX8_fire_126 rfl ?_
    refine jr_iload_n dX8_fire_127 rfl ?_
    refine jr_iload dX8_fire_128 rfl ?_
    refine js_callV (st := [.int x3, .int x4, .ref 1]) [.int x1, .int x2, .int x4] jc_RX8_104 rfl dX8_fire_130 ga_29 rfl rfl rfl rfl (kk := ?_)
    exact h

set_option maxRecDepth 100000 in
set_option maxHeartbeats 4000000 in
theorem sX8_fire_70 {g : jm_G} {ad : Nat → Nat} {κ : jm_K} {P : Option Value → (Nat → Nat → Int32) → Prop} (hE : jE g ad m_X8_fire P κ) {μ : Nat → Nat → Int32}  (x1 : Int32) (x2 : Int32) (x3 : Int32) (x4 : Int32) (r : Int32)
    (h : jD g ad m_X3_has [.ref 1, .int r] μ (fun v μ' => jS g ad m_X8_fire κ 73 [some (.ref 0), some (.int x1), some (.int x2), some (.int x3), some (.int x4)] (jm_ps v []) μ')) :
    jS g ad m_X8_fire κ 70 [some (.ref 0), some (.int x1), some (.int x2), some (.int x3), some (.int x4)] [.int r, .ref 1] μ := by
  refine js_callV (st := []) [.int r] jc_RX8_108 rfl dX8_fire_70 jm_heard1.1 rfl rfl rfl rfl (kk := ?_)
  exact h

set_option maxRecDepth 100000 in
set_option maxHeartbeats 4000000 in
theorem sX8_fire_133 {g : jm_G} {ad : Nat → Nat} {κ : jm_K} {P : Option Value → (Nat → Nat → Int32) → Prop} (hE : jE g ad m_X8_fire P κ) {μ : Nat → Nat → Int32}  (x1 : Int32) (x2 : Int32) (x3 : Int32) (x4 : Int32) (r : Int32) (y1 : Int32) (y2 : Int32)
    (h : jD g ad m_X8_markOf [.int y2, .int (y1 + r)] μ (fun v μ' => jS g ad m_X8_fire κ 137 [some (.ref 0), some (.int x1), some (.int x2), some (.int x3), some (.int x4)] (jm_ps v [.ref 1]) μ')) :
    jS g ad m_X8_fire κ 133 [some (.ref 0), some (.int x1), some (.int x2), some (.int x3), some (.int x4)] [.int r, .int y1, .int y2, .ref 1] μ := by
  refine jr_iadd dX8_fire_133 ?_
  refine js_callS (st := [.ref 1]) [.int y2, .int (y1 + r)] jc_RX8_84 rfl dX8_fire_134 rfl rfl rfl (kk := ?_)
  exact h

set_option maxRecDepth 100000 in
set_option maxHeartbeats 4000000 in
theorem sX8_fire_73 {g : jm_G} {ad : Nat → Nat} {κ : jm_K} {P : Option Value → (Nat → Nat → Int32) → Prop} (hE : jE g ad m_X8_fire P κ) {μ : Nat → Nat → Int32}  (x1 : Int32) (x2 : Int32) (x3 : Int32) (x4 : Int32) (r : Int32)
    (h : ((r = 0 →
    jS g ad m_X8_fire κ 42 [some (.ref 0), some (.int x1), some (.int x2), some (.int x3), some (.int (x4 + 1))] [] μ) ∧
    (¬ r = 0 →
    P (some (.int (-5 : Int32))) μ))) :
    jS g ad m_X8_fire κ 73 [some (.ref 0), some (.int x1), some (.int x2), some (.int x3), some (.int x4)] [.int r] μ := by
  obtain ⟨hA, hB⟩ := h
  refine jr_if_eq 79 dX8_fire_73 rfl (fun c => ?_) (fun c => ?_)
  · have h := hA c
    refine jr_iinc [some (.ref 0), some (.int x1), some (.int x2), some (.int x3), some (.int (x4 + 1))] dX8_fire_79 rfl rfl rfl rfl rfl ?_
    refine jr_goto 42 dX8_fire_82 rfl ?_
    exact h
  · have h := hB c
    refine jr_bipush (-5 : Int32) dX8_fire_76 (by decide) ?_
    exact js_iret hE rfl dX8_fire_78 rfl h

set_option maxRecDepth 100000 in
set_option maxHeartbeats 4000000 in
theorem sX8_fire_137 {g : jm_G} {ad : Nat → Nat} {κ : jm_K} {P : Option Value → (Nat → Nat → Int32) → Prop} (hE : jE g ad m_X8_fire P κ) {μ : Nat → Nat → Int32}  (x1 : Int32) (x2 : Int32) (x3 : Int32) (x4 : Int32) (r : Int32)
    (h : jD g ad m_X3_add [.ref 1, .int r] μ (fun v μ' => jS g ad m_X8_fire κ 140 [some (.ref 0), some (.int x1), some (.int x2), some (.int x3), some (.int x4)] (jm_ps v []) μ')) :
    jS g ad m_X8_fire κ 137 [some (.ref 0), some (.int x1), some (.int x2), some (.int x3), some (.int x4)] [.int r, .ref 1] μ := by
  refine js_callV (st := []) [.int r] jc_RX8_92 rfl dX8_fire_137 jm_heard1.1 rfl rfl rfl rfl (kk := ?_)
  exact h

set_option maxRecDepth 100000 in
set_option maxHeartbeats 4000000 in
theorem sX8_fire_140 {g : jm_G} {ad : Nat → Nat} {κ : jm_K} {P : Option Value → (Nat → Nat → Int32) → Prop} (hE : jE g ad m_X8_fire P κ) {μ : Nat → Nat → Int32}  (x1 : Int32) (x2 : Int32) (x3 : Int32) (x4 : Int32) (r : Int32)
    (h : jS g ad m_X8_fire κ 109 [some (.ref 0), some (.int x1), some (.int x2), some (.int x3), some (.int (x4 + 1))] [] μ) :
    jS g ad m_X8_fire κ 140 [some (.ref 0), some (.int x1), some (.int x2), some (.int x3), some (.int x4)] [.int r] μ := by
  refine jr_pop dX8_fire_140 rfl ?_
  refine jr_iinc [some (.ref 0), some (.int x1), some (.int x2), some (.int x3), some (.int (x4 + 1))] dX8_fire_141 rfl rfl rfl rfl rfl ?_
  refine jr_goto 109 dX8_fire_144 rfl ?_
  exact h

set_option maxRecDepth 100000 in
set_option maxHeartbeats 4000000 in
theorem sX8_hearAll_0 {g : jm_G} {ad : Nat → Nat} {κ : jm_K} {P : Option Value → (Nat → Nat → Int32) → Prop} (hE : jE g ad m_X8_hearAll P κ) {μ : Nat → Nat → Int32}  
    (h : jD g ad m_X5_read [.ref 26] μ (fun v μ' => jS g ad m_X8_hearAll κ 7 [some (.ref 0), none] (jm_ps v []) μ')) :
    jS g ad m_X8_hearAll κ 0 [some (.ref 0), none] [] μ := by
  refine jr_aload_n dX8_hearAll_0 rfl ?_
  refine jr_get 8 4 jf_RX8_34 dX8_hearAll_1 ga_0 rfl (.ref 26) rfl ?_
  refine js_callV (st := []) [] jc_RX8_115 rfl dX8_hearAll_4 ga_26 rfl rfl rfl rfl (kk := ?_)
  exact h

set_option maxRecDepth 100000 in
set_option maxHeartbeats 4000000 in
theorem sX8_hearAll_7 {g : jm_G} {ad : Nat → Nat} {κ : jm_K} {P : Option Value → (Nat → Nat → Int32) → Prop} (hE : jE g ad m_X8_hearAll P κ) {μ : Nat → Nat → Int32}  (r : Int32)
    (h : ((r = (-6 : Int32) →
    jD g ad m_X8_beginChange [.ref 0] μ (fun v μ' => jS g ad m_X8_hearAll κ 19 [some (.ref 0), none] (jm_ps v []) μ')) ∧
    (¬ r = (-6 : Int32) →
    P (some (.int (-3 : Int32))) μ))) :
    jS g ad m_X8_hearAll κ 7 [some (.ref 0), none] [.int r] μ := by
  refine jr_bipush (-6 : Int32) dX8_hearAll_7 (by decide) ?_
  obtain ⟨hA, hB⟩ := h
  refine jr_icmp_eq 15 dX8_hearAll_9 rfl (fun c => ?_) (fun c => ?_)
  · have h := hA c
    refine jr_aload_n dX8_hearAll_15 rfl ?_
    refine js_callV (st := []) [] jc_RX8_76 rfl dX8_hearAll_16 ga_0 rfl rfl rfl rfl (kk := ?_)
    exact h
  · have h := hB c
    refine jr_bipush (-3 : Int32) dX8_hearAll_12 (by decide) ?_
    exact js_iret hE rfl dX8_hearAll_14 rfl h

set_option maxRecDepth 100000 in
set_option maxHeartbeats 4000000 in
theorem sX8_hearAll_19 {g : jm_G} {ad : Nat → Nat} {κ : jm_K} {P : Option Value → (Nat → Nat → Int32) → Prop} (hE : jE g ad m_X8_hearAll P κ) {μ : Nat → Nat → Int32}  
    (h : jS g ad m_X8_hearAll κ 21 [some (.ref 0), some (.int (0 : Int32))] [] μ) :
    jS g ad m_X8_hearAll κ 19 [some (.ref 0), none] [] μ := by
  refine jr_iconst (0 : Int32) dX8_hearAll_19 (by decide) ?_
  refine jr_istore_n [some (.ref 0), some (.int (0 : Int32))] dX8_hearAll_20 rfl rfl rfl ?_
  exact h

set_option maxRecDepth 100000 in
set_option maxHeartbeats 4000000 in
theorem sX8_hearAll_21 {g : jm_G} {ad : Nat → Nat} {κ : jm_K} {P : Option Value → (Nat → Nat → Int32) → Prop} (hE : jE g ad m_X8_hearAll P κ) {μ : Nat → Nat → Int32}  (x1 : Int32)
    (h : (((μ 26 3) ≤ x1 →
    (∀ μ1 : Nat → Nat → Int32, μ1 = jm_st μ 26 2 (0 : Int32) →
    P (some (.int x1)) μ1)) ∧
    (¬ (μ 26 3) ≤ x1 →
    vp_in x1 20 ∧
    jD g ad m_X3_refusalOf [.ref 1, .int (μ 28 x1.toNatClampNeg)] μ (fun v μ' => jS g ad m_X8_hearAll κ 48 [some (.ref 0), some (.int x1)] (jm_ps v []) μ')))) :
    jS g ad m_X8_hearAll κ 21 [some (.ref 0), some (.int x1)] [] μ := by
  refine jr_iload_n dX8_hearAll_21 rfl ?_
  refine jr_aload_n dX8_hearAll_22 rfl ?_
  refine jr_get 8 4 jf_RX8_34 dX8_hearAll_23 ga_0 rfl (.ref 26) rfl ?_
  refine jr_get 5 3 jf_RX8_119 dX8_hearAll_26 ga_26 rfl (.int (μ 26 3)) rfl ?_
  obtain ⟨hA, hB⟩ := h
  refine jr_icmp_ge 74 dX8_hearAll_29 rfl (fun c => ?_) (fun c => ?_)
  · have h := hA c
    refine jr_aload_n dX8_hearAll_74 rfl ?_
    refine jr_get 8 4 jf_RX8_34 dX8_hearAll_75 ga_0 rfl (.ref 26) rfl ?_
    refine jr_iconst (0 : Int32) dX8_hearAll_78 (by decide) ?_
    refine jr_putI 5 2 jf_RX8_125 dX8_hearAll_79 ga_26 rfl ?_
    obtain ⟨μ1, e1⟩ : ∃ x : Nat → Nat → Int32, x = jm_st μ 26 2 (0 : Int32) := ⟨_, rfl⟩
    have h := h μ1 e1
    refine js_mem e1 ?_
    refine jr_iload_n dX8_hearAll_82 rfl ?_
    exact js_iret hE rfl dX8_hearAll_83 rfl h
  · have h := hB c
    refine jr_aload_n dX8_hearAll_32 rfl ?_
    refine jr_get 8 0 jf_RX8_12 dX8_hearAll_33 ga_0 rfl (.ref 1) rfl ?_
    refine jr_aload_n dX8_hearAll_36 rfl ?_
    refine jr_get 8 4 jf_RX8_34 dX8_hearAll_37 ga_0 rfl (.ref 26) rfl ?_
    refine jr_get 5 1 jf_RX8_122 dX8_hearAll_40 ga_26 rfl (.ref 28) rfl ?_
    refine jr_iload_n dX8_hearAll_43 rfl ?_
    obtain ⟨o2, h⟩ := h
    refine jr_ialdn _ dX8_hearAll_44 ga_28 o2 rfl ?_
    refine js_callV (st := []) [.int (μ 28 x1.toNatClampNeg)] jc_RX8_88 rfl dX8_hearAll_45 jm_heard1.1 rfl rfl rfl rfl (kk := ?_)
    exact h

set_option maxRecDepth 100000 in
set_option maxHeartbeats 4000000 in
theorem sX8_hearAll_48 {g : jm_G} {ad : Nat → Nat} {κ : jm_K} {P : Option Value → (Nat → Nat → Int32) → Prop} (hE : jE g ad m_X8_hearAll P κ) {μ : Nat → Nat → Int32}  (x1 : Int32) (r : Int32)
    (h : ((¬ r = 0 →
    (∀ μ1 : Nat → Nat → Int32, μ1 = jm_st μ 26 2 (0 : Int32) →
    P (some (.int x1)) μ1)) ∧
    (r = 0 →
    vp_in x1 20 ∧
    jD g ad m_X3_add [.ref 1, .int (μ 28 x1.toNatClampNeg)] μ (fun v μ' => jS g ad m_X8_hearAll κ 67 [some (.ref 0), some (.int x1)] (jm_ps v []) μ')))) :
    jS g ad m_X8_hearAll κ 48 [some (.ref 0), some (.int x1)] [.int r] μ := by
  obtain ⟨hA, hB⟩ := h
  refine jr_if_ne 74 dX8_hearAll_48 rfl (fun c => ?_) (fun c => ?_)
  · have h := hA c
    refine jr_aload_n dX8_hearAll_74 rfl ?_
    refine jr_get 8 4 jf_RX8_34 dX8_hearAll_75 ga_0 rfl (.ref 26) rfl ?_
    refine jr_iconst (0 : Int32) dX8_hearAll_78 (by decide) ?_
    refine jr_putI 5 2 jf_RX8_125 dX8_hearAll_79 ga_26 rfl ?_
    obtain ⟨μ1, e1⟩ : ∃ x : Nat → Nat → Int32, x = jm_st μ 26 2 (0 : Int32) := ⟨_, rfl⟩
    have h := h μ1 e1
    refine js_mem e1 ?_
    refine jr_iload_n dX8_hearAll_82 rfl ?_
    exact js_iret hE rfl dX8_hearAll_83 rfl h
  · have h := hB c
    refine jr_aload_n dX8_hearAll_51 rfl ?_
    refine jr_get 8 0 jf_RX8_12 dX8_hearAll_52 ga_0 rfl (.ref 1) rfl ?_
    refine jr_aload_n dX8_hearAll_55 rfl ?_
    refine jr_get 8 4 jf_RX8_34 dX8_hearAll_56 ga_0 rfl (.ref 26) rfl ?_
    refine jr_get 5 1 jf_RX8_122 dX8_hearAll_59 ga_26 rfl (.ref 28) rfl ?_
    refine jr_iload_n dX8_hearAll_62 rfl ?_
    obtain ⟨o2, h⟩ := h
    refine jr_ialdn _ dX8_hearAll_63 ga_28 o2 rfl ?_
    refine js_callV (st := []) [.int (μ 28 x1.toNatClampNeg)] jc_RX8_92 rfl dX8_hearAll_64 jm_heard1.1 rfl rfl rfl rfl (kk := ?_)
    exact h

set_option maxRecDepth 100000 in
set_option maxHeartbeats 4000000 in
theorem sX8_hearAll_67 {g : jm_G} {ad : Nat → Nat} {κ : jm_K} {P : Option Value → (Nat → Nat → Int32) → Prop} (hE : jE g ad m_X8_hearAll P κ) {μ : Nat → Nat → Int32}  (x1 : Int32) (r : Int32)
    (h : jS g ad m_X8_hearAll κ 21 [some (.ref 0), some (.int (x1 + 1))] [] μ) :
    jS g ad m_X8_hearAll κ 67 [some (.ref 0), some (.int x1)] [.int r] μ := by
  refine jr_pop dX8_hearAll_67 rfl ?_
  refine jr_iinc [some (.ref 0), some (.int (x1 + 1))] dX8_hearAll_68 rfl rfl rfl rfl rfl ?_
  refine jr_goto 21 dX8_hearAll_71 rfl ?_
  exact h

set_option maxRecDepth 100000 in
set_option maxHeartbeats 4000000 in
theorem sX8_forget_0 {g : jm_G} {ad : Nat → Nat} {κ : jm_K} {P : Option Value → (Nat → Nat → Int32) → Prop} (hE : jE g ad m_X8_forget P κ) {μ : Nat → Nat → Int32}  (p1 : Int32)
    (h : jD g ad m_X3_isPulse [.ref 1, .int p1] μ (fun v μ' => jS g ad m_X8_forget κ 8 [some (.ref 0), some (.int p1), none] (jm_ps v []) μ')) :
    jS g ad m_X8_forget κ 0 [some (.ref 0), some (.int p1), none] [] μ := by
  refine jr_aload_n dX8_forget_0 rfl ?_
  refine jr_get 8 0 jf_RX8_12 dX8_forget_1 ga_0 rfl (.ref 1) rfl ?_
  refine jr_iload_n dX8_forget_4 rfl ?_
  refine js_callV (st := []) [.int p1] jc_RX8_128 rfl dX8_forget_5 jm_heard1.1 rfl rfl rfl rfl (kk := ?_)
  exact h

set_option maxRecDepth 100000 in
set_option maxHeartbeats 4000000 in
theorem sX8_forget_8 {g : jm_G} {ad : Nat → Nat} {κ : jm_K} {P : Option Value → (Nat → Nat → Int32) → Prop} (hE : jE g ad m_X8_forget P κ) {μ : Nat → Nat → Int32}  (x1 : Int32) (r : Int32)
    (h : ((¬ r = 0 →
    jD g ad m_X3_timeOf [.ref 1, .int x1] μ (fun v μ' => jS g ad m_X8_forget κ 21 [some (.ref 0), some (.int x1), none] (jm_ps v []) μ')) ∧
    (r = 0 →
    P (some (.int (-1 : Int32))) μ))) :
    jS g ad m_X8_forget κ 8 [some (.ref 0), some (.int x1), none] [.int r] μ := by
  obtain ⟨hA, hB⟩ := h
  refine jr_if_ne 13 dX8_forget_8 rfl (fun c => ?_) (fun c => ?_)
  · have h := hA c
    refine jr_aload_n dX8_forget_13 rfl ?_
    refine jr_get 8 0 jf_RX8_12 dX8_forget_14 ga_0 rfl (.ref 1) rfl ?_
    refine jr_iload_n dX8_forget_17 rfl ?_
    refine js_callV (st := []) [.int x1] jc_RX8_131 rfl dX8_forget_18 jm_heard1.1 rfl rfl rfl rfl (kk := ?_)
    exact h
  · have h := hB c
    refine jr_iconst (-1 : Int32) dX8_forget_11 (by decide) ?_
    exact js_iret hE rfl dX8_forget_12 rfl h

set_option maxRecDepth 100000 in
set_option maxHeartbeats 4000000 in
theorem sX8_forget_21 {g : jm_G} {ad : Nat → Nat} {κ : jm_K} {P : Option Value → (Nat → Nat → Int32) → Prop} (hE : jE g ad m_X8_forget P κ) {μ : Nat → Nat → Int32}  (x1 : Int32) (r : Int32)
    (h : jD g ad m_X8_beginChange [.ref 0] μ (fun v μ' => jS g ad m_X8_forget κ 26 [some (.ref 0), some (.int x1), some (.int r)] (jm_ps v []) μ')) :
    jS g ad m_X8_forget κ 21 [some (.ref 0), some (.int x1), none] [.int r] μ := by
  refine jr_istore_n [some (.ref 0), some (.int x1), some (.int r)] dX8_forget_21 rfl rfl rfl ?_
  refine jr_aload_n dX8_forget_22 rfl ?_
  refine js_callV (st := []) [] jc_RX8_76 rfl dX8_forget_23 ga_0 rfl rfl rfl rfl (kk := ?_)
  exact h

set_option maxRecDepth 100000 in
set_option maxHeartbeats 4000000 in
theorem sX8_forget_26 {g : jm_G} {ad : Nat → Nat} {κ : jm_K} {P : Option Value → (Nat → Nat → Int32) → Prop} (hE : jE g ad m_X8_forget P κ) {μ : Nat → Nat → Int32}  (x1 : Int32) (x2 : Int32)
    (h : jD g ad m_X3_remove [.ref 1, .int x1] μ (fun v μ' => jS g ad m_X8_forget κ 34 [none, none, some (.int x2)] (jm_ps v []) μ')) :
    jS g ad m_X8_forget κ 26 [some (.ref 0), some (.int x1), some (.int x2)] [] μ := by
  refine jr_aload_n dX8_forget_26 rfl ?_
  refine jr_get 8 0 jf_RX8_12 dX8_forget_27 ga_0 rfl (.ref 1) rfl ?_
  refine jr_iload_n dX8_forget_30 rfl ?_
  refine js_drop 0 [none, some (.int x1), some (.int x2)] rfl ?_
  refine js_drop 1 [none, none, some (.int x2)] rfl ?_
  refine js_callV (st := []) [.int x1] jc_RX8_134 rfl dX8_forget_31 jm_heard1.1 rfl rfl rfl rfl (kk := ?_)
  exact h

set_option maxRecDepth 100000 in
set_option maxHeartbeats 4000000 in
theorem sX8_forget_34 {g : jm_G} {ad : Nat → Nat} {κ : jm_K} {P : Option Value → (Nat → Nat → Int32) → Prop} (hE : jE g ad m_X8_forget P κ) {μ : Nat → Nat → Int32}  (x2 : Int32)
    (h : P (some (.int x2)) μ) :
    jS g ad m_X8_forget κ 34 [none, none, some (.int x2)] [] μ := by
  refine jr_iload_n dX8_forget_34 rfl ?_
  exact js_iret hE rfl dX8_forget_35 rfl h

set_option maxRecDepth 100000 in
set_option maxHeartbeats 4000000 in
theorem sX8_clear_0 {g : jm_G} {ad : Nat → Nat} {κ : jm_K} {P : Option Value → (Nat → Nat → Int32) → Prop} (hE : jE g ad m_X8_clear P κ) {μ : Nat → Nat → Int32}  
    (h : jD g ad m_X8_beginChange [.ref 0] μ (fun v μ' => jS g ad m_X8_clear κ 12 [some (.ref 0), some (.int (μ 1 2))] (jm_ps v []) μ')) :
    jS g ad m_X8_clear κ 0 [some (.ref 0), none] [] μ := by
  refine jr_aload_n dX8_clear_0 rfl ?_
  refine jr_get 8 0 jf_RX8_12 dX8_clear_1 ga_0 rfl (.ref 1) rfl ?_
  refine jr_get 3 2 jf_RX8_111 dX8_clear_4 jm_heard1.1 rfl (.int (μ 1 2)) rfl ?_
  refine jr_istore_n [some (.ref 0), some (.int (μ 1 2))] dX8_clear_7 rfl rfl rfl ?_
  refine jr_aload_n dX8_clear_8 rfl ?_
  refine js_callV (st := []) [] jc_RX8_76 rfl dX8_clear_9 ga_0 rfl rfl rfl rfl (kk := ?_)
  exact h

set_option maxRecDepth 100000 in
set_option maxHeartbeats 4000000 in
theorem sX8_clear_12 {g : jm_G} {ad : Nat → Nat} {κ : jm_K} {P : Option Value → (Nat → Nat → Int32) → Prop} (hE : jE g ad m_X8_clear P κ) {μ : Nat → Nat → Int32}  (x1 : Int32)
    (h : (∀ μ1 : Nat → Nat → Int32, μ1 = jm_st μ 1 2 (0 : Int32) →
    P (some (.int x1)) μ1)) :
    jS g ad m_X8_clear κ 12 [some (.ref 0), some (.int x1)] [] μ := by
  refine jr_aload_n dX8_clear_12 rfl ?_
  refine jr_get 8 0 jf_RX8_12 dX8_clear_13 ga_0 rfl (.ref 1) rfl ?_
  refine jr_iconst (0 : Int32) dX8_clear_16 (by decide) ?_
  refine jr_putI 3 2 jf_RX8_111 dX8_clear_17 jm_heard1.1 rfl ?_
  obtain ⟨μ1, e1⟩ : ∃ x : Nat → Nat → Int32, x = jm_st μ 1 2 (0 : Int32) := ⟨_, rfl⟩
  have h := h μ1 e1
  refine js_mem e1 ?_
  refine jr_iload_n dX8_clear_20 rfl ?_
  exact js_iret hE rfl dX8_clear_21 rfl h

set_option maxRecDepth 100000 in
set_option maxHeartbeats 4000000 in
theorem sX8_takes_0 {g : jm_G} {ad : Nat → Nat} {κ : jm_K} {P : Option Value → (Nat → Nat → Int32) → Prop} (hE : jE g ad m_X8_takes P κ) {μ : Nat → Nat → Int32}  (p1 : Int32) (p2 : Int32) (p3 : Int32)
    (h : jD g ad m_X8_isPoint [.int p1, .int p2] μ (fun v μ' => jS g ad m_X8_takes κ 5 [some (.ref 0), some (.int p1), some (.int p2), some (.int p3)] (jm_ps v []) μ')) :
    jS g ad m_X8_takes κ 0 [some (.ref 0), some (.int p1), some (.int p2), some (.int p3)] [] μ := by
  refine jr_iload_n dX8_takes_0 rfl ?_
  refine jr_iload_n dX8_takes_1 rfl ?_
  refine js_callS (st := []) [.int p1, .int p2] jc_RX8_95 rfl dX8_takes_2 rfl rfl rfl (kk := ?_)
  exact h

set_option maxRecDepth 100000 in
set_option maxHeartbeats 4000000 in
theorem sX8_takes_5 {g : jm_G} {ad : Nat → Nat} {κ : jm_K} {P : Option Value → (Nat → Nat → Int32) → Prop} (hE : jE g ad m_X8_takes P κ) {μ : Nat → Nat → Int32}  (x1 : Int32) (x2 : Int32) (x3 : Int32) (r : Int32)
    (h : ((r = 0 →
    P (some (.int (-1 : Int32))) μ) ∧
    (¬ r = 0 →
    jD g ad m_X8_isEar [.int x3] μ (fun v μ' => jS g ad m_X8_takes κ 12 [some (.ref 0), some (.int x1), some (.int x2), some (.int x3)] (jm_ps v []) μ')))) :
    jS g ad m_X8_takes κ 5 [some (.ref 0), some (.int x1), some (.int x2), some (.int x3)] [.int r] μ := by
  obtain ⟨hA, hB⟩ := h
  refine jr_if_eq 15 dX8_takes_5 rfl (fun c => ?_) (fun c => ?_)
  · have h := hA c
    refine jr_iconst (-1 : Int32) dX8_takes_15 (by decide) ?_
    exact js_iret hE rfl dX8_takes_16 rfl h
  · have h := hB c
    refine jr_iload_n dX8_takes_8 rfl ?_
    refine js_callS (st := []) [.int x3] jc_RX8_79 rfl dX8_takes_9 rfl rfl rfl (kk := ?_)
    exact h

set_option maxRecDepth 100000 in
set_option maxHeartbeats 4000000 in
theorem sX8_takes_12 {g : jm_G} {ad : Nat → Nat} {κ : jm_K} {P : Option Value → (Nat → Nat → Int32) → Prop} (hE : jE g ad m_X8_takes P κ) {μ : Nat → Nat → Int32}  (x1 : Int32) (x2 : Int32) (x3 : Int32) (r : Int32)
    (h : ((¬ r = 0 →
    jD g ad m_X2_tune [.ref 29, .int (μ 2 0)] μ (fun v μ' => jS g ad m_X8_takes κ 33 [some (.ref 0), some (.int x1), some (.int x2), some (.int x3)] (jm_ps v []) μ')) ∧
    (r = 0 →
    P (some (.int (-1 : Int32))) μ))) :
    jS g ad m_X8_takes κ 12 [some (.ref 0), some (.int x1), some (.int x2), some (.int x3)] [.int r] μ := by
  obtain ⟨hA, hB⟩ := h
  refine jr_if_ne 17 dX8_takes_12 rfl (fun c => ?_) (fun c => ?_)
  · have h := hA c
    refine jr_aload_n dX8_takes_17 rfl ?_
    refine jr_get 8 5 jf_RX8_41 dX8_takes_18 ga_0 rfl (.ref 29) rfl ?_
    refine jr_aload_n dX8_takes_21 rfl ?_
    refine jr_get 8 0 jf_RX8_12 dX8_takes_22 ga_0 rfl (.ref 1) rfl ?_
    refine jr_get 3 0 jf_RX8_73 dX8_takes_25 jm_heard1.1 rfl (.ref 2) rfl ?_
    refine jr_iconst (0 : Int32) dX8_takes_28 (by decide) ?_
    refine jr_ialdn 0 dX8_takes_29 ga_2 (jm_inD (by decide)) rfl ?_
    refine js_callV (st := []) [.int (μ 2 0)] jc_RX8_100 rfl dX8_takes_30 ga_29 rfl rfl rfl rfl (kk := ?_)
    exact h
  · have h := hB c
    refine jr_iconst (-1 : Int32) dX8_takes_15 (by decide) ?_
    exact js_iret hE rfl dX8_takes_16 rfl h

set_option maxRecDepth 100000 in
set_option maxHeartbeats 4000000 in
theorem sX8_takes_33 {g : jm_G} {ad : Nat → Nat} {κ : jm_K} {P : Option Value → (Nat → Nat → Int32) → Prop} (hE : jE g ad m_X8_takes P κ) {μ : Nat → Nat → Int32}  (x1 : Int32) (x2 : Int32) (x3 : Int32)
    (h : jD g ad m_X2_crackTime [.ref 29, .int x1, .int x2, .int x3] μ (fun v μ' => jS g ad m_X8_takes κ 43 [none, none, none, none] (jm_ps v []) μ')) :
    jS g ad m_X8_takes κ 33 [some (.ref 0), some (.int x1), some (.int x2), some (.int x3)] [] μ := by
  refine jr_aload_n dX8_takes_33 rfl ?_
  refine jr_get 8 5 jf_RX8_41 dX8_takes_34 ga_0 rfl (.ref 29) rfl ?_
  refine jr_iload_n dX8_takes_37 rfl ?_
  refine jr_iload_n dX8_takes_38 rfl ?_
  refine jr_iload_n dX8_takes_39 rfl ?_
  refine js_drop 0 [none, some (.int x1), some (.int x2), some (.int x3)] rfl ?_
  refine js_drop 1 [none, none, some (.int x2), some (.int x3)] rfl ?_
  refine js_drop 2 [none, none, none, some (.int x3)] rfl ?_
  refine js_drop 3 [none, none, none, none] rfl ?_
  refine js_callV (st := []) [.int x1, .int x2, .int x3] jc_RX8_104 rfl dX8_takes_40 ga_29 rfl rfl rfl rfl (kk := ?_)
  exact h

set_option maxRecDepth 100000 in
set_option maxHeartbeats 4000000 in
theorem sX8_takes_43 {g : jm_G} {ad : Nat → Nat} {κ : jm_K} {P : Option Value → (Nat → Nat → Int32) → Prop} (hE : jE g ad m_X8_takes P κ) {μ : Nat → Nat → Int32}  (r : Int32)
    (h : P (some (.int r)) μ) :
    jS g ad m_X8_takes κ 43 [none, none, none, none] [.int r] μ := by
  exact js_iret hE rfl dX8_takes_43 rfl h

set_option maxRecDepth 100000 in
set_option maxHeartbeats 4000000 in
theorem sX8_pulse_0 {g : jm_G} {ad : Nat → Nat} {κ : jm_K} {P : Option Value → (Nat → Nat → Int32) → Prop} (hE : jE g ad m_X8_pulse P κ) {μ : Nat → Nat → Int32}  (p1 : Int32) (p2 : Int32)
    (h : jD g ad m_X3_isPulse [.ref 1, .int p1] μ (fun v μ' => jS g ad m_X8_pulse κ 8 [some (.ref 0), some (.int p1), some (.int p2)] (jm_ps v []) μ')) :
    jS g ad m_X8_pulse κ 0 [some (.ref 0), some (.int p1), some (.int p2)] [] μ := by
  refine jr_aload_n dX8_pulse_0 rfl ?_
  refine jr_get 8 0 jf_RX8_12 dX8_pulse_1 ga_0 rfl (.ref 1) rfl ?_
  refine jr_iload_n dX8_pulse_4 rfl ?_
  refine js_callV (st := []) [.int p1] jc_RX8_128 rfl dX8_pulse_5 jm_heard1.1 rfl rfl rfl rfl (kk := ?_)
  exact h

set_option maxRecDepth 100000 in
set_option maxHeartbeats 4000000 in
theorem sX8_pulse_8 {g : jm_G} {ad : Nat → Nat} {κ : jm_K} {P : Option Value → (Nat → Nat → Int32) → Prop} (hE : jE g ad m_X8_pulse P κ) {μ : Nat → Nat → Int32}  (x1 : Int32) (x2 : Int32) (r : Int32)
    (h : ((¬ r = 0 →
    ((x2.toInt < 0 ∨ 2 < x2.toInt →
    P (some (.int (-2 : Int32))) μ) ∧
    (x2.toInt = 0 →
    jD g ad m_X3_earOf [.ref 1, .int x1] μ (fun v μ' => jS g ad m_X8_pulse κ 48 [none, none, none] (jm_ps v []) μ')) ∧
    (x2.toInt = 1 →
    jD g ad m_X3_timeOf [.ref 1, .int x1] μ (fun v μ' => jS g ad m_X8_pulse κ 57 [none, none, none] (jm_ps v []) μ')) ∧
    (x2.toInt = 2 →
    jD g ad m_X8_current [.ref 0] μ (fun v μ' => jS g ad m_X8_pulse κ 62 [none, some (.int x1), none] (jm_ps v []) μ')))) ∧
    (r = 0 →
    P (some (.int (-1 : Int32))) μ))) :
    jS g ad m_X8_pulse κ 8 [some (.ref 0), some (.int x1), some (.int x2)] [.int r] μ := by
  obtain ⟨hA, hB⟩ := h
  refine jr_if_ne 13 dX8_pulse_8 rfl (fun c => ?_) (fun c => ?_)
  · have h := hA c
    refine jr_iload_n dX8_pulse_13 rfl ?_
    obtain ⟨hD, h⟩ := h
    by_cases c : x2.toInt < 0 ∨ 2 < x2.toInt
    · have h := hD c
      refine jr_tableOut 68 dX8_pulse_14 c rfl ?_
      refine jr_bipush (-2 : Int32) dX8_pulse_68 (by decide) ?_
      exact js_iret hE rfl dX8_pulse_70 rfl h
    rcases (show x2.toInt = 0 ∨ x2.toInt = 1 ∨ x2.toInt = 2 by omega) with c | c | c
    · have h := h.1 c
      refine jr_tableIn 0 26 40 dX8_pulse_14 c (by decide) rfl rfl ?_
      refine jr_aload_n dX8_pulse_40 rfl ?_
      refine jr_get 8 0 jf_RX8_12 dX8_pulse_41 ga_0 rfl (.ref 1) rfl ?_
      refine jr_iload_n dX8_pulse_44 rfl ?_
      refine js_drop 0 [none, some (.int x1), some (.int x2)] rfl ?_
      refine js_drop 1 [none, none, some (.int x2)] rfl ?_
      refine js_drop 2 [none, none, none] rfl ?_
      refine js_callV (st := []) [.int x1] jc_RX8_137 rfl dX8_pulse_45 jm_heard1.1 rfl rfl rfl rfl (kk := ?_)
      exact h
    · have h := h.2.1 c
      refine jr_tableIn 1 35 49 dX8_pulse_14 c (by decide) rfl rfl ?_
      refine jr_aload_n dX8_pulse_49 rfl ?_
      refine jr_get 8 0 jf_RX8_12 dX8_pulse_50 ga_0 rfl (.ref 1) rfl ?_
      refine jr_iload_n dX8_pulse_53 rfl ?_
      refine js_drop 0 [none, some (.int x1), some (.int x2)] rfl ?_
      refine js_drop 1 [none, none, some (.int x2)] rfl ?_
      refine js_drop 2 [none, none, none] rfl ?_
      refine js_callV (st := []) [.int x1] jc_RX8_131 rfl dX8_pulse_54 jm_heard1.1 rfl rfl rfl rfl (kk := ?_)
      exact h
    · have h := h.2.2 c
      refine jr_tableIn 2 44 58 dX8_pulse_14 c (by decide) rfl rfl ?_
      refine jr_aload_n dX8_pulse_58 rfl ?_
      refine js_drop 0 [none, some (.int x1), some (.int x2)] rfl ?_
      refine js_drop 2 [none, some (.int x1), none] rfl ?_
      refine js_callV (st := []) [] jc_RX8_140 rfl dX8_pulse_59 ga_0 rfl rfl rfl rfl (kk := ?_)
      exact h
  · have h := hB c
    refine jr_iconst (-1 : Int32) dX8_pulse_11 (by decide) ?_
    exact js_iret hE rfl dX8_pulse_12 rfl h

set_option maxRecDepth 100000 in
set_option maxHeartbeats 4000000 in
theorem sX8_pulse_48 {g : jm_G} {ad : Nat → Nat} {κ : jm_K} {P : Option Value → (Nat → Nat → Int32) → Prop} (hE : jE g ad m_X8_pulse P κ) {μ : Nat → Nat → Int32}  (r : Int32)
    (h : P (some (.int r)) μ) :
    jS g ad m_X8_pulse κ 48 [none, none, none] [.int r] μ := by
  exact js_iret hE rfl dX8_pulse_48 rfl h

set_option maxRecDepth 100000 in
set_option maxHeartbeats 4000000 in
theorem sX8_pulse_57 {g : jm_G} {ad : Nat → Nat} {κ : jm_K} {P : Option Value → (Nat → Nat → Int32) → Prop} (hE : jE g ad m_X8_pulse P κ) {μ : Nat → Nat → Int32}  (r : Int32)
    (h : P (some (.int r)) μ) :
    jS g ad m_X8_pulse κ 57 [none, none, none] [.int r] μ := by
  exact js_iret hE rfl dX8_pulse_57 rfl h

set_option maxRecDepth 100000 in
set_option maxHeartbeats 4000000 in
theorem sX8_pulse_62 {g : jm_G} {ad : Nat → Nat} {κ : jm_K} {P : Option Value → (Nat → Nat → Int32) → Prop} (hE : jE g ad m_X8_pulse P κ) {μ : Nat → Nat → Int32}  (x1 : Int32)
    (h : vp_in x1 32 ∧
    P (some (.int (μ 40 x1.toNatClampNeg))) μ) :
    jS g ad m_X8_pulse κ 62 [none, some (.int x1), none] [.ref 38] μ := by
  refine jr_get 7 1 jf_RX8_144 dX8_pulse_62 jm_shots38.1 rfl (.ref 40) rfl ?_
  refine jr_iload_n dX8_pulse_65 rfl ?_
  obtain ⟨o1, h⟩ := h
  refine jr_ialdn _ dX8_pulse_66 jm_shots38.2.2.1 o1 rfl ?_
  exact js_iret hE rfl dX8_pulse_67 rfl h

set_option maxRecDepth 100000 in
set_option maxHeartbeats 4000000 in
theorem sX8_shot_0 {g : jm_G} {ad : Nat → Nat} {κ : jm_K} {P : Option Value → (Nat → Nat → Int32) → Prop} (hE : jE g ad m_X8_shot P κ) {μ : Nat → Nat → Int32}  (p1 : Int32) (p2 : Int32)
    (h : jD g ad m_X8_current [.ref 0] μ (fun v μ' => jS g ad m_X8_shot κ 4 [none, some (.int p1), some (.int p2), none] (jm_ps v []) μ')) :
    jS g ad m_X8_shot κ 0 [some (.ref 0), some (.int p1), some (.int p2), none] [] μ := by
  refine jr_aload_n dX8_shot_0 rfl ?_
  refine js_drop 0 [none, some (.int p1), some (.int p2), none] rfl ?_
  refine js_callV (st := []) [] jc_RX8_140 rfl dX8_shot_1 ga_0 rfl rfl rfl rfl (kk := ?_)
  exact h

set_option maxRecDepth 100000 in
set_option maxHeartbeats 4000000 in
theorem sX8_shot_4 {g : jm_G} {ad : Nat → Nat} {κ : jm_K} {P : Option Value → (Nat → Nat → Int32) → Prop} (hE : jE g ad m_X8_shot P κ) {μ : Nat → Nat → Int32}  (x1 : Int32) (x2 : Int32)
    (h : jD g ad m_X7_isShot [.ref 38, .int x1] μ (fun v μ' => jS g ad m_X8_shot κ 10 [none, some (.int x1), some (.int x2), some (.ref 38)] (jm_ps v []) μ')) :
    jS g ad m_X8_shot κ 4 [none, some (.int x1), some (.int x2), none] [.ref 38] μ := by
  refine jr_astore_n [none, some (.int x1), some (.int x2), some (.ref 38)] dX8_shot_4 rfl rfl rfl ?_
  refine jr_aload_n dX8_shot_5 rfl ?_
  refine jr_iload_n dX8_shot_6 rfl ?_
  refine js_callV (st := []) [.int x1] jc_RX8_147 rfl dX8_shot_7 jm_shots38.1 rfl rfl rfl rfl (kk := ?_)
  exact h

set_option maxRecDepth 100000 in
set_option maxHeartbeats 4000000 in
theorem sX8_shot_10 {g : jm_G} {ad : Nat → Nat} {κ : jm_K} {P : Option Value → (Nat → Nat → Int32) → Prop} (hE : jE g ad m_X8_shot P κ) {μ : Nat → Nat → Int32}  (x1 : Int32) (x2 : Int32) (r : Int32)
    (h : ((¬ r = 0 →
    vp_in x1 8 ∧
    jD g ad m_X6_tell [.ref (38 + 3 + 2 * x1.toNatClampNeg), .int x2] μ (fun v μ' => jS g ad m_X8_shot κ 25 [none, none, none, none] (jm_ps v []) μ')) ∧
    (r = 0 →
    P (some (.int (-1 : Int32))) μ))) :
    jS g ad m_X8_shot κ 10 [none, some (.int x1), some (.int x2), some (.ref 38)] [.int r] μ := by
  obtain ⟨hA, hB⟩ := h
  refine jr_if_ne 15 dX8_shot_10 rfl (fun c => ?_) (fun c => ?_)
  · have h := hA c
    refine jr_aload_n dX8_shot_15 rfl ?_
    refine jr_get 7 0 jf_RX8_150 dX8_shot_16 jm_shots38.1 rfl (.ref 39) rfl ?_
    refine jr_iload_n dX8_shot_19 rfl ?_
    obtain ⟨o1, h⟩ := h
    refine jr_aald dX8_shot_20 jm_shots38.2.1 (by decide) o1 (38 + 3 + 2 * x1.toNatClampNeg) (if_pos (jm_inlt o1)) ?_
    refine jr_iload_n dX8_shot_21 rfl ?_
    refine js_drop 1 [none, none, some (.int x2), some (.ref 38)] rfl ?_
    refine js_drop 2 [none, none, none, some (.ref 38)] rfl ?_
    refine js_drop 3 [none, none, none, none] rfl ?_
    refine js_callV (st := []) [.int x2] jc_RX8_154 rfl dX8_shot_22 ((jm_shots38.2.2.2 _ (jm_inlt o1)).1) rfl rfl rfl rfl (kk := ?_)
    exact h
  · have h := hB c
    refine jr_iconst (-1 : Int32) dX8_shot_13 (by decide) ?_
    exact js_iret hE rfl dX8_shot_14 rfl h

set_option maxRecDepth 100000 in
set_option maxHeartbeats 4000000 in
theorem sX8_shot_25 {g : jm_G} {ad : Nat → Nat} {κ : jm_K} {P : Option Value → (Nat → Nat → Int32) → Prop} (hE : jE g ad m_X8_shot P κ) {μ : Nat → Nat → Int32}  (r : Int32)
    (h : P (some (.int r)) μ) :
    jS g ad m_X8_shot κ 25 [none, none, none, none] [.int r] μ := by
  exact js_iret hE rfl dX8_shot_25 rfl h

set_option maxRecDepth 100000 in
set_option maxHeartbeats 4000000 in
theorem sX8_count_0 {g : jm_G} {ad : Nat → Nat} {κ : jm_K} {P : Option Value → (Nat → Nat → Int32) → Prop} (hE : jE g ad m_X8_count P κ) {μ : Nat → Nat → Int32}  (p1 : Int32)
    (h : ((p1.toInt < 0 ∨ 12 < p1.toInt →
    P (some (.int (-2 : Int32))) μ) ∧
    (p1.toInt = 0 →
    P (some (.int (μ 1 2))) μ) ∧
    (p1.toInt = 1 →
    jD g ad m_X8_current [.ref 0] μ (fun v μ' => jS g ad m_X8_count κ 80 [none, none] (jm_ps v []) μ')) ∧
    (p1.toInt = 2 →
    jD g ad m_X8_current [.ref 0] μ (fun v μ' => jS g ad m_X8_count κ 96 [none, none] (jm_ps v [.int (4 : Int32), .int (μ 1 2)]) μ')) ∧
    (p1.toInt = 3 →
    jD g ad m_X8_current [.ref 0] μ (fun v μ' => jS g ad m_X8_count κ 106 [none, none] (jm_ps v []) μ')) ∧
    (p1.toInt = 4 →
    jD g ad m_X8_current [.ref 0] μ (fun v μ' => jS g ad m_X8_count κ 114 [none, none] (jm_ps v []) μ')) ∧
    (p1.toInt = 5 →
    jD g ad m_X8_current [.ref 0] μ (fun v μ' => jS g ad m_X8_count κ 122 [none, none] (jm_ps v []) μ')) ∧
    (p1.toInt = 6 →
    jD g ad m_X8_current [.ref 0] μ (fun v μ' => jS g ad m_X8_count κ 130 [some (.ref 0), none] (jm_ps v []) μ')) ∧
    (p1.toInt = 7 →
    jD g ad m_X2_speedAt [.int (μ 2 0)] μ (fun v μ' => jS g ad m_X8_count κ 150 [none, none] (jm_ps v []) μ')) ∧
    (p1.toInt = 8 →
    P (some (.int ((μ 2 0) + (100 : Int32)))) μ) ∧
    (p1.toInt = 9 →
    P (some (.int (μ 2 1))) μ) ∧
    (p1.toInt = 10 →
    P (some (.int (μ 2 2))) μ) ∧
    (p1.toInt = 11 →
    P (some (.int (μ 26 2))) μ) ∧
    (p1.toInt = 12 →
    P (some (.int (μ 4 2))) μ))) :
    jS g ad m_X8_count κ 0 [some (.ref 0), some (.int p1)] [] μ := by
  refine jr_iload_n dX8_count_0 rfl ?_
  obtain ⟨hD, h⟩ := h
  by_cases c : p1.toInt < 0 ∨ 12 < p1.toInt
  · have h := hD c
    refine jr_tableOut 200 dX8_count_1 c rfl ?_
    refine jr_bipush (-2 : Int32) dX8_count_200 (by decide) ?_
    exact js_iret hE rfl dX8_count_202 rfl h
  rcases (show p1.toInt = 0 ∨ p1.toInt = 1 ∨ p1.toInt = 2 ∨ p1.toInt = 3 ∨ p1.toInt = 4 ∨ p1.toInt = 5 ∨ p1.toInt = 6 ∨ p1.toInt = 7 ∨ p1.toInt = 8 ∨ p1.toInt = 9 ∨ p1.toInt = 10 ∨ p1.toInt = 11 ∨ p1.toInt = 12 by omega) with c | c | c | c | c | c | c | c | c | c | c | c | c
  · have h := h.1 c
    refine jr_tableIn 0 67 68 dX8_count_1 c (by decide) rfl rfl ?_
    refine jr_aload_n dX8_count_68 rfl ?_
    refine jr_get 8 0 jf_RX8_12 dX8_count_69 ga_0 rfl (.ref 1) rfl ?_
    refine jr_get 3 2 jf_RX8_111 dX8_count_72 jm_heard1.1 rfl (.int (μ 1 2)) rfl ?_
    exact js_iret hE rfl dX8_count_75 rfl h
  · have h := h.2.1 c
    refine jr_tableIn 1 75 76 dX8_count_1 c (by decide) rfl rfl ?_
    refine jr_aload_n dX8_count_76 rfl ?_
    refine js_drop 0 [none, some (.int p1)] rfl ?_
    refine js_drop 1 [none, none] rfl ?_
    refine js_callV (st := []) [] jc_RX8_140 rfl dX8_count_77 ga_0 rfl rfl rfl rfl (kk := ?_)
    exact h
  · have h := h.2.2.1 c
    refine jr_tableIn 2 83 84 dX8_count_1 c (by decide) rfl rfl ?_
    refine jr_aload_n dX8_count_84 rfl ?_
    refine jr_get 8 0 jf_RX8_12 dX8_count_85 ga_0 rfl (.ref 1) rfl ?_
    refine jr_get 3 2 jf_RX8_111 dX8_count_88 jm_heard1.1 rfl (.int (μ 1 2)) rfl ?_
    refine jr_iconst (4 : Int32) dX8_count_91 (by decide) ?_
    refine jr_aload_n dX8_count_92 rfl ?_
    refine js_drop 0 [none, some (.int p1)] rfl ?_
    refine js_drop 1 [none, none] rfl ?_
    refine js_callV (st := [.int (4 : Int32), .int (μ 1 2)]) [] jc_RX8_140 rfl dX8_count_93 ga_0 rfl rfl rfl rfl (kk := ?_)
    exact h
  · have h := h.2.2.2.1 c
    refine jr_tableIn 3 101 102 dX8_count_1 c (by decide) rfl rfl ?_
    refine jr_aload_n dX8_count_102 rfl ?_
    refine js_drop 0 [none, some (.int p1)] rfl ?_
    refine js_drop 1 [none, none] rfl ?_
    refine js_callV (st := []) [] jc_RX8_140 rfl dX8_count_103 ga_0 rfl rfl rfl rfl (kk := ?_)
    exact h
  · have h := h.2.2.2.2.1 c
    refine jr_tableIn 4 109 110 dX8_count_1 c (by decide) rfl rfl ?_
    refine jr_aload_n dX8_count_110 rfl ?_
    refine js_drop 0 [none, some (.int p1)] rfl ?_
    refine js_drop 1 [none, none] rfl ?_
    refine js_callV (st := []) [] jc_RX8_140 rfl dX8_count_111 ga_0 rfl rfl rfl rfl (kk := ?_)
    exact h
  · have h := h.2.2.2.2.2.1 c
    refine jr_tableIn 5 117 118 dX8_count_1 c (by decide) rfl rfl ?_
    refine jr_aload_n dX8_count_118 rfl ?_
    refine js_drop 0 [none, some (.int p1)] rfl ?_
    refine js_drop 1 [none, none] rfl ?_
    refine js_callV (st := []) [] jc_RX8_140 rfl dX8_count_119 ga_0 rfl rfl rfl rfl (kk := ?_)
    exact h
  · have h := h.2.2.2.2.2.2.1 c
    refine jr_tableIn 6 125 126 dX8_count_1 c (by decide) rfl rfl ?_
    refine jr_aload_n dX8_count_126 rfl ?_
    refine js_drop 1 [some (.ref 0), none] rfl ?_
    refine js_callV (st := []) [] jc_RX8_140 rfl dX8_count_127 ga_0 rfl rfl rfl rfl (kk := ?_)
    exact h
  · have h := h.2.2.2.2.2.2.2.1 c
    refine jr_tableIn 7 137 138 dX8_count_1 c (by decide) rfl rfl ?_
    refine jr_aload_n dX8_count_138 rfl ?_
    refine jr_get 8 0 jf_RX8_12 dX8_count_139 ga_0 rfl (.ref 1) rfl ?_
    refine jr_get 3 0 jf_RX8_73 dX8_count_142 jm_heard1.1 rfl (.ref 2) rfl ?_
    refine jr_iconst (0 : Int32) dX8_count_145 (by decide) ?_
    refine jr_ialdn 0 dX8_count_146 ga_2 (jm_inD (by decide)) rfl ?_
    refine js_drop 0 [none, some (.int p1)] rfl ?_
    refine js_drop 1 [none, none] rfl ?_
    refine js_callS (st := []) [.int (μ 2 0)] jc_RX8_173 rfl dX8_count_147 rfl rfl rfl (kk := ?_)
    exact h
  · have h := h.2.2.2.2.2.2.2.2.1 c
    refine jr_tableIn 8 150 151 dX8_count_1 c (by decide) rfl rfl ?_
    refine jr_aload_n dX8_count_151 rfl ?_
    refine jr_get 8 0 jf_RX8_12 dX8_count_152 ga_0 rfl (.ref 1) rfl ?_
    refine jr_get 3 0 jf_RX8_73 dX8_count_155 jm_heard1.1 rfl (.ref 2) rfl ?_
    refine jr_iconst (0 : Int32) dX8_count_158 (by decide) ?_
    refine jr_ialdn 0 dX8_count_159 ga_2 (jm_inD (by decide)) rfl ?_
    refine jr_bipush (100 : Int32) dX8_count_160 (by decide) ?_
    refine jr_iadd dX8_count_162 ?_
    exact js_iret hE rfl dX8_count_163 rfl h
  · have h := h.2.2.2.2.2.2.2.2.2.1 c
    refine jr_tableIn 9 163 164 dX8_count_1 c (by decide) rfl rfl ?_
    refine jr_aload_n dX8_count_164 rfl ?_
    refine jr_get 8 0 jf_RX8_12 dX8_count_165 ga_0 rfl (.ref 1) rfl ?_
    refine jr_get 3 0 jf_RX8_73 dX8_count_168 jm_heard1.1 rfl (.ref 2) rfl ?_
    refine jr_iconst (1 : Int32) dX8_count_171 (by decide) ?_
    refine jr_ialdn 1 dX8_count_172 ga_2 (jm_inD (by decide)) rfl ?_
    exact js_iret hE rfl dX8_count_173 rfl h
  · have h := h.2.2.2.2.2.2.2.2.2.2.1 c
    refine jr_tableIn 10 173 174 dX8_count_1 c (by decide) rfl rfl ?_
    refine jr_aload_n dX8_count_174 rfl ?_
    refine jr_get 8 0 jf_RX8_12 dX8_count_175 ga_0 rfl (.ref 1) rfl ?_
    refine jr_get 3 0 jf_RX8_73 dX8_count_178 jm_heard1.1 rfl (.ref 2) rfl ?_
    refine jr_iconst (2 : Int32) dX8_count_181 (by decide) ?_
    refine jr_ialdn 2 dX8_count_182 ga_2 (jm_inD (by decide)) rfl ?_
    exact js_iret hE rfl dX8_count_183 rfl h
  · have h := h.2.2.2.2.2.2.2.2.2.2.2.1 c
    refine jr_tableIn 11 183 184 dX8_count_1 c (by decide) rfl rfl ?_
    refine jr_aload_n dX8_count_184 rfl ?_
    refine jr_get 8 4 jf_RX8_34 dX8_count_185 ga_0 rfl (.ref 26) rfl ?_
    refine jr_get 5 2 jf_RX8_125 dX8_count_188 ga_26 rfl (.int (μ 26 2)) rfl ?_
    exact js_iret hE rfl dX8_count_191 rfl h
  · have h := h.2.2.2.2.2.2.2.2.2.2.2.2 c
    refine jr_tableIn 12 191 192 dX8_count_1 c (by decide) rfl rfl ?_
    refine jr_aload_n dX8_count_192 rfl ?_
    refine jr_get 8 1 jf_RX8_19 dX8_count_193 ga_0 rfl (.ref 4) rfl ?_
    refine jr_get 4 2 jf_RX8_176 dX8_count_196 ga_4 rfl (.int (μ 4 2)) rfl ?_
    exact js_iret hE rfl dX8_count_199 rfl h

set_option maxRecDepth 100000 in
set_option maxHeartbeats 4000000 in
theorem sX8_count_80 {g : jm_G} {ad : Nat → Nat} {κ : jm_K} {P : Option Value → (Nat → Nat → Int32) → Prop} (hE : jE g ad m_X8_count P κ) {μ : Nat → Nat → Int32}  
    (h : P (some (.int (μ 38 2))) μ) :
    jS g ad m_X8_count κ 80 [none, none] [.ref 38] μ := by
  refine jr_get 7 2 jf_RX8_159 dX8_count_80 jm_shots38.1 rfl (.int (μ 38 2)) rfl ?_
  exact js_iret hE rfl dX8_count_83 rfl h

set_option maxRecDepth 100000 in
set_option maxHeartbeats 4000000 in
theorem sX8_count_96 {g : jm_G} {ad : Nat → Nat} {κ : jm_K} {P : Option Value → (Nat → Nat → Int32) → Prop} (hE : jE g ad m_X8_count P κ) {μ : Nat → Nat → Int32}  (y1 : Int32) (y2 : Int32)
    (h : P (some (.int (y2 - (y1 * (μ 38 2))))) μ) :
    jS g ad m_X8_count κ 96 [none, none] [.ref 38, .int y1, .int y2] μ := by
  refine jr_get 7 2 jf_RX8_159 dX8_count_96 jm_shots38.1 rfl (.int (μ 38 2)) rfl ?_
  refine jr_imul dX8_count_99 ?_
  refine jr_isub dX8_count_100 ?_
  exact js_iret hE rfl dX8_count_101 rfl h

set_option maxRecDepth 100000 in
set_option maxHeartbeats 4000000 in
theorem sX8_count_106 {g : jm_G} {ad : Nat → Nat} {κ : jm_K} {P : Option Value → (Nat → Nat → Int32) → Prop} (hE : jE g ad m_X8_count P κ) {μ : Nat → Nat → Int32}  
    (h : jD g ad m_X7_sumOfRings [.ref 38] μ (fun v μ' => jS g ad m_X8_count κ 109 [none, none] (jm_ps v []) μ')) :
    jS g ad m_X8_count κ 106 [none, none] [.ref 38] μ := by
  refine js_callV (st := []) [] jc_RX8_160 rfl dX8_count_106 jm_shots38.1 rfl rfl rfl rfl (kk := ?_)
  exact h

set_option maxRecDepth 100000 in
set_option maxHeartbeats 4000000 in
theorem sX8_count_114 {g : jm_G} {ad : Nat → Nat} {κ : jm_K} {P : Option Value → (Nat → Nat → Int32) → Prop} (hE : jE g ad m_X8_count P κ) {μ : Nat → Nat → Int32}  
    (h : jD g ad m_X7_withGreatestRing [.ref 38] μ (fun v μ' => jS g ad m_X8_count κ 117 [none, none] (jm_ps v []) μ')) :
    jS g ad m_X8_count κ 114 [none, none] [.ref 38] μ := by
  refine js_callV (st := []) [] jc_RX8_163 rfl dX8_count_114 jm_shots38.1 rfl rfl rfl rfl (kk := ?_)
  exact h

set_option maxRecDepth 100000 in
set_option maxHeartbeats 4000000 in
theorem sX8_count_122 {g : jm_G} {ad : Nat → Nat} {κ : jm_K} {P : Option Value → (Nat → Nat → Int32) → Prop} (hE : jE g ad m_X8_count P κ) {μ : Nat → Nat → Int32}  
    (h : jD g ad m_X7_sumOfSpreads [.ref 38] μ (fun v μ' => jS g ad m_X8_count κ 125 [none, none] (jm_ps v []) μ')) :
    jS g ad m_X8_count κ 122 [none, none] [.ref 38] μ := by
  refine js_callV (st := []) [] jc_RX8_166 rfl dX8_count_122 jm_shots38.1 rfl rfl rfl rfl (kk := ?_)
  exact h

set_option maxRecDepth 100000 in
set_option maxHeartbeats 4000000 in
theorem sX8_count_130 {g : jm_G} {ad : Nat → Nat} {κ : jm_K} {P : Option Value → (Nat → Nat → Int32) → Prop} (hE : jE g ad m_X8_count P κ) {μ : Nat → Nat → Int32}  
    (h : jD g ad m_X7_widest [.ref 38, .ref 29] μ (fun v μ' => jS g ad m_X8_count κ 137 [none, none] (jm_ps v []) μ')) :
    jS g ad m_X8_count κ 130 [some (.ref 0), none] [.ref 38] μ := by
  refine jr_aload_n dX8_count_130 rfl ?_
  refine jr_get 8 5 jf_RX8_41 dX8_count_131 ga_0 rfl (.ref 29) rfl ?_
  refine js_drop 0 [none, none] rfl ?_
  refine js_callV (st := []) [.ref 29] jc_RX8_169 rfl dX8_count_134 jm_shots38.1 rfl rfl rfl rfl (kk := ?_)
  exact h

set_option maxRecDepth 100000 in
set_option maxHeartbeats 4000000 in
theorem sX8_count_150 {g : jm_G} {ad : Nat → Nat} {κ : jm_K} {P : Option Value → (Nat → Nat → Int32) → Prop} (hE : jE g ad m_X8_count P κ) {μ : Nat → Nat → Int32}  (r : Int32)
    (h : P (some (.int r)) μ) :
    jS g ad m_X8_count κ 150 [none, none] [.int r] μ := by
  exact js_iret hE rfl dX8_count_150 rfl h

set_option maxRecDepth 100000 in
set_option maxHeartbeats 4000000 in
theorem sX8_count_109 {g : jm_G} {ad : Nat → Nat} {κ : jm_K} {P : Option Value → (Nat → Nat → Int32) → Prop} (hE : jE g ad m_X8_count P κ) {μ : Nat → Nat → Int32}  (r : Int32)
    (h : P (some (.int r)) μ) :
    jS g ad m_X8_count κ 109 [none, none] [.int r] μ := by
  exact js_iret hE rfl dX8_count_109 rfl h

set_option maxRecDepth 100000 in
set_option maxHeartbeats 4000000 in
theorem sX8_count_117 {g : jm_G} {ad : Nat → Nat} {κ : jm_K} {P : Option Value → (Nat → Nat → Int32) → Prop} (hE : jE g ad m_X8_count P κ) {μ : Nat → Nat → Int32}  (r : Int32)
    (h : P (some (.int r)) μ) :
    jS g ad m_X8_count κ 117 [none, none] [.int r] μ := by
  exact js_iret hE rfl dX8_count_117 rfl h

set_option maxRecDepth 100000 in
set_option maxHeartbeats 4000000 in
theorem sX8_count_125 {g : jm_G} {ad : Nat → Nat} {κ : jm_K} {P : Option Value → (Nat → Nat → Int32) → Prop} (hE : jE g ad m_X8_count P κ) {μ : Nat → Nat → Int32}  (r : Int32)
    (h : P (some (.int r)) μ) :
    jS g ad m_X8_count κ 125 [none, none] [.int r] μ := by
  exact js_iret hE rfl dX8_count_125 rfl h

set_option maxRecDepth 100000 in
set_option maxHeartbeats 4000000 in
theorem sX8_count_137 {g : jm_G} {ad : Nat → Nat} {κ : jm_K} {P : Option Value → (Nat → Nat → Int32) → Prop} (hE : jE g ad m_X8_count P κ) {μ : Nat → Nat → Int32}  (r : Int32)
    (h : P (some (.int r)) μ) :
    jS g ad m_X8_count κ 137 [none, none] [.int r] μ := by
  exact js_iret hE rfl dX8_count_137 rfl h

set_option maxRecDepth 100000 in
set_option maxHeartbeats 4000000 in
theorem sX8_fits_0 {g : jm_G} {ad : Nat → Nat} {κ : jm_K} {P : Option Value → (Nat → Nat → Int32) → Prop} (hE : jE g ad m_X8_fits P κ) {μ : Nat → Nat → Int32}  (p1 : Int32) (p2 : Int32) (p3 : Int32)
    (h : jD g ad m_X8_current [.ref 0] μ (fun v μ' => jS g ad m_X8_fits κ 4 [some (.ref 0), some (.int p1), some (.int p2), some (.int p3), none] (jm_ps v []) μ')) :
    jS g ad m_X8_fits κ 0 [some (.ref 0), some (.int p1), some (.int p2), some (.int p3), none] [] μ := by
  refine jr_aload_n dX8_fits_0 rfl ?_
  refine js_callV (st := []) [] jc_RX8_140 rfl dX8_fits_1 ga_0 rfl rfl rfl rfl (kk := ?_)
  exact h

set_option maxRecDepth 100000 in
set_option maxHeartbeats 4000000 in
theorem sX8_fits_4 {g : jm_G} {ad : Nat → Nat} {κ : jm_K} {P : Option Value → (Nat → Nat → Int32) → Prop} (hE : jE g ad m_X8_fits P κ) {μ : Nat → Nat → Int32}  (x1 : Int32) (x2 : Int32) (x3 : Int32)
    (h : jD g ad m_X7_isShot [.ref 38, .int x1] μ (fun v μ' => jS g ad m_X8_fits κ 12 [some (.ref 0), some (.int x1), some (.int x2), some (.int x3), some (.ref 38)] (jm_ps v []) μ')) :
    jS g ad m_X8_fits κ 4 [some (.ref 0), some (.int x1), some (.int x2), some (.int x3), none] [.ref 38] μ := by
  refine jr_astore [some (.ref 0), some (.int x1), some (.int x2), some (.int x3), some (.ref 38)] dX8_fits_4 rfl rfl rfl ?_
  refine jr_aload dX8_fits_6 rfl ?_
  refine jr_iload_n dX8_fits_8 rfl ?_
  refine js_callV (st := []) [.int x1] jc_RX8_147 rfl dX8_fits_9 jm_shots38.1 rfl rfl rfl rfl (kk := ?_)
  exact h

set_option maxRecDepth 100000 in
set_option maxHeartbeats 4000000 in
theorem sX8_fits_12 {g : jm_G} {ad : Nat → Nat} {κ : jm_K} {P : Option Value → (Nat → Nat → Int32) → Prop} (hE : jE g ad m_X8_fits P κ) {μ : Nat → Nat → Int32}  (x1 : Int32) (x2 : Int32) (x3 : Int32) (r : Int32)
    (h : ((r = 0 →
    P (some (.int (-1 : Int32))) μ) ∧
    (¬ r = 0 →
    jD g ad m_X8_isPoint [.int x2, .int x3] μ (fun v μ' => jS g ad m_X8_fits κ 20 [some (.ref 0), some (.int x1), some (.int x2), some (.int x3), some (.ref 38)] (jm_ps v []) μ')))) :
    jS g ad m_X8_fits κ 12 [some (.ref 0), some (.int x1), some (.int x2), some (.int x3), some (.ref 38)] [.int r] μ := by
  obtain ⟨hA, hB⟩ := h
  refine jr_if_eq 23 dX8_fits_12 rfl (fun c => ?_) (fun c => ?_)
  · have h := hA c
    refine jr_iconst (-1 : Int32) dX8_fits_23 (by decide) ?_
    exact js_iret hE rfl dX8_fits_24 rfl h
  · have h := hB c
    refine jr_iload_n dX8_fits_15 rfl ?_
    refine jr_iload_n dX8_fits_16 rfl ?_
    refine js_callS (st := []) [.int x2, .int x3] jc_RX8_95 rfl dX8_fits_17 rfl rfl rfl (kk := ?_)
    exact h

set_option maxRecDepth 100000 in
set_option maxHeartbeats 4000000 in
theorem sX8_fits_20 {g : jm_G} {ad : Nat → Nat} {κ : jm_K} {P : Option Value → (Nat → Nat → Int32) → Prop} (hE : jE g ad m_X8_fits P κ) {μ : Nat → Nat → Int32}  (x1 : Int32) (x2 : Int32) (x3 : Int32) (r : Int32)
    (h : ((¬ r = 0 →
    vp_in x1 8 ∧
    jD g ad m_X0_spreadOf [.ref 32, .ref 29, .ref 1, .ref (38 + 3 + 2 * x1.toNatClampNeg), .int x2, .int x3] μ (fun v μ' => jS g ad m_X8_fits κ 49 [none, none, none, none, none] (jm_ps v []) μ')) ∧
    (r = 0 →
    P (some (.int (-1 : Int32))) μ))) :
    jS g ad m_X8_fits κ 20 [some (.ref 0), some (.int x1), some (.int x2), some (.int x3), some (.ref 38)] [.int r] μ := by
  obtain ⟨hA, hB⟩ := h
  refine jr_if_ne 25 dX8_fits_20 rfl (fun c => ?_) (fun c => ?_)
  · have h := hA c
    refine jr_aload_n dX8_fits_25 rfl ?_
    refine jr_get 8 6 jf_RX8_48 dX8_fits_26 ga_0 rfl (.ref 32) rfl ?_
    refine jr_aload_n dX8_fits_29 rfl ?_
    refine jr_get 8 5 jf_RX8_41 dX8_fits_30 ga_0 rfl (.ref 29) rfl ?_
    refine jr_aload_n dX8_fits_33 rfl ?_
    refine jr_get 8 0 jf_RX8_12 dX8_fits_34 ga_0 rfl (.ref 1) rfl ?_
    refine jr_aload dX8_fits_37 rfl ?_
    refine jr_get 7 0 jf_RX8_150 dX8_fits_39 jm_shots38.1 rfl (.ref 39) rfl ?_
    refine jr_iload_n dX8_fits_42 rfl ?_
    obtain ⟨o1, h⟩ := h
    refine jr_aald dX8_fits_43 jm_shots38.2.1 (by decide) o1 (38 + 3 + 2 * x1.toNatClampNeg) (if_pos (jm_inlt o1)) ?_
    refine jr_iload_n dX8_fits_44 rfl ?_
    refine jr_iload_n dX8_fits_45 rfl ?_
    refine js_drop 0 [none, some (.int x1), some (.int x2), some (.int x3), some (.ref 38)] rfl ?_
    refine js_drop 1 [none, none, some (.int x2), some (.int x3), some (.ref 38)] rfl ?_
    refine js_drop 2 [none, none, none, some (.int x3), some (.ref 38)] rfl ?_
    refine js_drop 3 [none, none, none, none, some (.ref 38)] rfl ?_
    refine js_drop 4 [none, none, none, none, none] rfl ?_
    refine js_callV (st := []) [.ref 29, .ref 1, .ref (38 + 3 + 2 * x1.toNatClampNeg), .int x2, .int x3] jc_RX8_177 rfl dX8_fits_46 ga_32 rfl rfl rfl rfl (kk := ?_)
    exact h
  · have h := hB c
    refine jr_iconst (-1 : Int32) dX8_fits_23 (by decide) ?_
    exact js_iret hE rfl dX8_fits_24 rfl h

set_option maxRecDepth 100000 in
set_option maxHeartbeats 4000000 in
theorem sX8_fits_49 {g : jm_G} {ad : Nat → Nat} {κ : jm_K} {P : Option Value → (Nat → Nat → Int32) → Prop} (hE : jE g ad m_X8_fits P κ) {μ : Nat → Nat → Int32}  (r : Int32)
    (h : P (some (.int r)) μ) :
    jS g ad m_X8_fits κ 49 [none, none, none, none, none] [.int r] μ := by
  exact js_iret hE rfl dX8_fits_49 rfl h

set_option maxRecDepth 100000 in
set_option maxHeartbeats 4000000 in
theorem sX8_mean_0 {g : jm_G} {ad : Nat → Nat} {κ : jm_K} {P : Option Value → (Nat → Nat → Int32) → Prop} (hE : jE g ad m_X8_mean P κ) {μ : Nat → Nat → Int32}  (p1 : Int32)
    (h : ((p1 = 0 →
    jD g ad m_X8_current [.ref 0] μ (fun v μ' => jS g ad m_X8_mean κ 16 [none, some (.int p1), none] (jm_ps v []) μ')) ∧
    (¬ p1 = 0 →
    ((p1 = (1 : Int32) →
    jD g ad m_X8_current [.ref 0] μ (fun v μ' => jS g ad m_X8_mean κ 16 [none, some (.int p1), none] (jm_ps v []) μ')) ∧
    (¬ p1 = (1 : Int32) →
    P (some (.int (-2 : Int32))) μ))))) :
    jS g ad m_X8_mean κ 0 [some (.ref 0), some (.int p1), none] [] μ := by
  refine jr_iload_n dX8_mean_0 rfl ?_
  obtain ⟨hA, hB⟩ := h
  refine jr_if_eq 12 dX8_mean_1 rfl (fun c => ?_) (fun c => ?_)
  · have h := hA c
    refine jr_aload_n dX8_mean_12 rfl ?_
    refine js_drop 0 [none, some (.int p1), none] rfl ?_
    refine js_callV (st := []) [] jc_RX8_140 rfl dX8_mean_13 ga_0 rfl rfl rfl rfl (kk := ?_)
    exact h
  · have h := hB c
    refine jr_iload_n dX8_mean_4 rfl ?_
    refine jr_iconst (1 : Int32) dX8_mean_5 (by decide) ?_
    obtain ⟨hA, hB⟩ := h
    refine jr_icmp_eq 12 dX8_mean_6 rfl (fun c => ?_) (fun c => ?_)
    · have h := hA c
      refine jr_aload_n dX8_mean_12 rfl ?_
      refine js_drop 0 [none, some (.int p1), none] rfl ?_
      refine js_callV (st := []) [] jc_RX8_140 rfl dX8_mean_13 ga_0 rfl rfl rfl rfl (kk := ?_)
      exact h
    · have h := hB c
      refine jr_bipush (-2 : Int32) dX8_mean_9 (by decide) ?_
      exact js_iret hE rfl dX8_mean_11 rfl h

set_option maxRecDepth 100000 in
set_option maxHeartbeats 4000000 in
theorem sX8_mean_16 {g : jm_G} {ad : Nat → Nat} {κ : jm_K} {P : Option Value → (Nat → Nat → Int32) → Prop} (hE : jE g ad m_X8_mean P κ) {μ : Nat → Nat → Int32}  (x1 : Int32)
    (h : ((¬ (μ 38 2) = 0 →
    ((¬ x1 = 0 →
    jD g ad m_X7_sumOfY [.ref 38] μ (fun v μ' => jS g ad m_X8_mean κ 42 [none, none, some (.ref 38)] (jm_ps v []) μ')) ∧
    (x1 = 0 →
    jD g ad m_X7_sumOfX [.ref 38] μ (fun v μ' => jS g ad m_X8_mean κ 35 [none, none, some (.ref 38)] (jm_ps v []) μ')))) ∧
    ((μ 38 2) = 0 →
    P (some (.int (-6 : Int32))) μ))) :
    jS g ad m_X8_mean κ 16 [none, some (.int x1), none] [.ref 38] μ := by
  refine jr_astore_n [none, some (.int x1), some (.ref 38)] dX8_mean_16 rfl rfl rfl ?_
  refine jr_aload_n dX8_mean_17 rfl ?_
  refine jr_get 7 2 jf_RX8_159 dX8_mean_18 jm_shots38.1 rfl (.int (μ 38 2)) rfl ?_
  obtain ⟨hA, hB⟩ := h
  refine jr_if_ne 27 dX8_mean_21 rfl (fun c => ?_) (fun c => ?_)
  · have h := hA c
    refine jr_iload_n dX8_mean_27 rfl ?_
    obtain ⟨hA, hB⟩ := h
    refine jr_if_ne 38 dX8_mean_28 rfl (fun c => ?_) (fun c => ?_)
    · have h := hA c
      refine jr_aload_n dX8_mean_38 rfl ?_
      refine js_drop 1 [none, none, some (.ref 38)] rfl ?_
      refine js_callV (st := []) [] jc_RX8_184 rfl dX8_mean_39 jm_shots38.1 rfl rfl rfl rfl (kk := ?_)
      exact h
    · have h := hB c
      refine jr_aload_n dX8_mean_31 rfl ?_
      refine js_drop 1 [none, none, some (.ref 38)] rfl ?_
      refine js_callV (st := []) [] jc_RX8_181 rfl dX8_mean_32 jm_shots38.1 rfl rfl rfl rfl (kk := ?_)
      exact h
  · have h := hB c
    refine jr_bipush (-6 : Int32) dX8_mean_24 (by decide) ?_
    exact js_iret hE rfl dX8_mean_26 rfl h

set_option maxRecDepth 100000 in
set_option maxHeartbeats 4000000 in
theorem sX8_mean_42 {g : jm_G} {ad : Nat → Nat} {κ : jm_K} {P : Option Value → (Nat → Nat → Int32) → Prop} (hE : jE g ad m_X8_mean P κ) {μ : Nat → Nat → Int32}  (r : Int32)
    (h : (μ 38 2) ≠ 0 ∧
    P (some (.int ((r * (100 : Int32)) / (μ 38 2)))) μ) :
    jS g ad m_X8_mean κ 42 [none, none, some (.ref 38)] [.int r] μ := by
  refine jr_bipush (100 : Int32) dX8_mean_42 (by decide) ?_
  refine jr_imul dX8_mean_44 ?_
  refine jr_aload_n dX8_mean_45 rfl ?_
  refine jr_get 7 2 jf_RX8_159 dX8_mean_46 jm_shots38.1 rfl (.int (μ 38 2)) rfl ?_
  obtain ⟨o1, h⟩ := h
  refine jr_idiv dX8_mean_49 o1 ?_
  exact js_iret hE rfl dX8_mean_50 rfl h

set_option maxRecDepth 100000 in
set_option maxHeartbeats 4000000 in
theorem sX8_mean_35 {g : jm_G} {ad : Nat → Nat} {κ : jm_K} {P : Option Value → (Nat → Nat → Int32) → Prop} (hE : jE g ad m_X8_mean P κ) {μ : Nat → Nat → Int32}  (r : Int32)
    (h : (μ 38 2) ≠ 0 ∧
    P (some (.int ((r * (100 : Int32)) / (μ 38 2)))) μ) :
    jS g ad m_X8_mean κ 35 [none, none, some (.ref 38)] [.int r] μ := by
  refine jr_goto 42 dX8_mean_35 rfl ?_
  refine jr_bipush (100 : Int32) dX8_mean_42 (by decide) ?_
  refine jr_imul dX8_mean_44 ?_
  refine jr_aload_n dX8_mean_45 rfl ?_
  refine jr_get 7 2 jf_RX8_159 dX8_mean_46 jm_shots38.1 rfl (.int (μ 38 2)) rfl ?_
  obtain ⟨o1, h⟩ := h
  refine jr_idiv dX8_mean_49 o1 ?_
  exact js_iret hE rfl dX8_mean_50 rfl h

set_option maxRecDepth 100000 in
set_option maxHeartbeats 4000000 in
theorem sX8_ifHeat_0 {g : jm_G} {ad : Nat → Nat} {κ : jm_K} {P : Option Value → (Nat → Nat → Int32) → Prop} (hE : jE g ad m_X8_ifHeat P κ) {μ : Nat → Nat → Int32}  (p1 : Int32) (p2 : Int32)
    (h : vp_in (0 : Int32) (g.2.2.2.2.1 0) ∧
    ((p1 < (g.2.2.2.2.2 0 (0 : Int32).toNatClampNeg) →
    P (some (.int (-2 : Int32))) μ) ∧
    (¬ p1 < (g.2.2.2.2.2 0 (0 : Int32).toNatClampNeg) →
    vp_in (0 : Int32) (g.2.2.2.2.1 1) ∧
    ((p1 ≤ (g.2.2.2.2.2 1 (0 : Int32).toNatClampNeg) →
    ((p2 < 0 →
    P (some (.int (-2 : Int32))) μ) ∧
    (¬ p2 < 0 →
    ((p2 ≤ (2 : Int32) →
    jD g ad m_X8_tryOut [.ref 0, .int p1, .int (-1 : Int32)] μ (fun v μ' => jS g ad m_X8_ifHeat κ 39 [some (.ref 0), none, some (.int p2)] (jm_ps v []) μ')) ∧
    (¬ p2 ≤ (2 : Int32) →
    P (some (.int (-2 : Int32))) μ))))) ∧
    (¬ p1 ≤ (g.2.2.2.2.2 1 (0 : Int32).toNatClampNeg) →
    P (some (.int (-2 : Int32))) μ))))) :
    jS g ad m_X8_ifHeat κ 0 [some (.ref 0), some (.int p1), some (.int p2)] [] μ := by
  refine jr_iload_n dX8_ifHeat_0 rfl ?_
  refine jr_lowest dX8_ifHeat_1 jw_RX8_66 ?_
  refine jr_iconst (0 : Int32) dX8_ifHeat_4 (by decide) ?_
  obtain ⟨o1, h⟩ := h
  refine jr_rald (r := 0) (by decide) dX8_ifHeat_5 o1 ?_
  obtain ⟨hA, hB⟩ := h
  refine jr_icmp_lt 18 dX8_ifHeat_6 rfl (fun c => ?_) (fun c => ?_)
  · have h := hA c
    refine jr_bipush (-2 : Int32) dX8_ifHeat_18 (by decide) ?_
    exact js_iret hE rfl dX8_ifHeat_20 rfl h
  · have h := hB c
    refine jr_iload_n dX8_ifHeat_9 rfl ?_
    refine jr_highest dX8_ifHeat_10 jw_RX8_70 ?_
    refine jr_iconst (0 : Int32) dX8_ifHeat_13 (by decide) ?_
    obtain ⟨o2, h⟩ := h
    refine jr_rald (r := 1) (by decide) dX8_ifHeat_14 o2 ?_
    obtain ⟨hA, hB⟩ := h
    refine jr_icmp_le 21 dX8_ifHeat_15 rfl (fun c => ?_) (fun c => ?_)
    · have h := hA c
      refine jr_iload_n dX8_ifHeat_21 rfl ?_
      obtain ⟨hA, hB⟩ := h
      refine jr_if_lt 30 dX8_ifHeat_22 rfl (fun c => ?_) (fun c => ?_)
      · have h := hA c
        refine jr_bipush (-2 : Int32) dX8_ifHeat_30 (by decide) ?_
        exact js_iret hE rfl dX8_ifHeat_32 rfl h
      · have h := hB c
        refine jr_iload_n dX8_ifHeat_25 rfl ?_
        refine jr_iconst (2 : Int32) dX8_ifHeat_26 (by decide) ?_
        obtain ⟨hA, hB⟩ := h
        refine jr_icmp_le 33 dX8_ifHeat_27 rfl (fun c => ?_) (fun c => ?_)
        · have h := hA c
          refine jr_aload_n dX8_ifHeat_33 rfl ?_
          refine jr_iload_n dX8_ifHeat_34 rfl ?_
          refine jr_iconst (-1 : Int32) dX8_ifHeat_35 (by decide) ?_
          refine js_drop 1 [some (.ref 0), none, some (.int p2)] rfl ?_
          refine js_callV (st := []) [.int p1, .int (-1 : Int32)] jc_RX8_187 rfl dX8_ifHeat_36 ga_0 rfl rfl rfl rfl (kk := ?_)
          exact h
        · have h := hB c
          refine jr_bipush (-2 : Int32) dX8_ifHeat_30 (by decide) ?_
          exact js_iret hE rfl dX8_ifHeat_32 rfl h
    · have h := hB c
      refine jr_bipush (-2 : Int32) dX8_ifHeat_18 (by decide) ?_
      exact js_iret hE rfl dX8_ifHeat_20 rfl h

set_option maxRecDepth 100000 in
set_option maxHeartbeats 4000000 in
theorem sX8_ifHeat_39 {g : jm_G} {ad : Nat → Nat} {κ : jm_K} {P : Option Value → (Nat → Nat → Int32) → Prop} (hE : jE g ad m_X8_ifHeat P κ) {μ : Nat → Nat → Int32}  (x2 : Int32)
    (h : ((x2.toInt = 0 →
    P (some (.int (μ 57 2))) μ) ∧
    (x2.toInt = 1 →
    jD g ad m_X7_sumOfRings [.ref 57] μ (fun v μ' => jS g ad m_X8_ifHeat κ 83 [none, none, none] (jm_ps v []) μ')) ∧
    (¬ x2.toInt = 0 → ¬ x2.toInt = 1 →
    jD g ad m_X7_sumOfSpreads [.ref 57] μ (fun v μ' => jS g ad m_X8_ifHeat κ 91 [none, none, none] (jm_ps v []) μ')))) :
    jS g ad m_X8_ifHeat κ 39 [some (.ref 0), none, some (.int x2)] [] μ := by
  refine jr_iload_n dX8_ifHeat_39 rfl ?_
  by_cases c0 : x2.toInt = 0
  · have h := h.1 c0
    refine jr_lookup 28 68 dX8_ifHeat_40 rfl (by rw [c0]; rfl) rfl ?_
    refine jr_aload_n dX8_ifHeat_68 rfl ?_
    refine jr_get 8 8 jf_RX8_59 dX8_ifHeat_69 ga_0 rfl (.ref 57) rfl ?_
    refine jr_get 7 2 jf_RX8_159 dX8_ifHeat_72 jm_shots57.1 rfl (.int (μ 57 2)) rfl ?_
    exact js_iret hE rfl dX8_ifHeat_75 rfl h
  by_cases c1 : x2.toInt = 1
  · have h := h.2.1 c1
    refine jr_lookup 36 76 dX8_ifHeat_40 rfl (by rw [c1]; rfl) rfl ?_
    refine jr_aload_n dX8_ifHeat_76 rfl ?_
    refine jr_get 8 8 jf_RX8_59 dX8_ifHeat_77 ga_0 rfl (.ref 57) rfl ?_
    refine js_drop 0 [none, none, some (.int x2)] rfl ?_
    refine js_drop 2 [none, none, none] rfl ?_
    refine js_callV (st := []) [] jc_RX8_160 rfl dX8_ifHeat_80 jm_shots57.1 rfl rfl rfl rfl (kk := ?_)
    exact h
  have h := h.2.2 c0 c1
  refine jr_lookup 44 84 dX8_ifHeat_40 rfl (by simp [Op.lookupswitch.offset, Ne.symm c0, Ne.symm c1]) rfl ?_
  refine jr_aload_n dX8_ifHeat_84 rfl ?_
  refine jr_get 8 8 jf_RX8_59 dX8_ifHeat_85 ga_0 rfl (.ref 57) rfl ?_
  refine js_drop 0 [none, none, some (.int x2)] rfl ?_
  refine js_drop 2 [none, none, none] rfl ?_
  refine js_callV (st := []) [] jc_RX8_166 rfl dX8_ifHeat_88 jm_shots57.1 rfl rfl rfl rfl (kk := ?_)
  exact h

set_option maxRecDepth 100000 in
set_option maxHeartbeats 4000000 in
theorem sX8_ifHeat_83 {g : jm_G} {ad : Nat → Nat} {κ : jm_K} {P : Option Value → (Nat → Nat → Int32) → Prop} (hE : jE g ad m_X8_ifHeat P κ) {μ : Nat → Nat → Int32}  (r : Int32)
    (h : P (some (.int r)) μ) :
    jS g ad m_X8_ifHeat κ 83 [none, none, none] [.int r] μ := by
  exact js_iret hE rfl dX8_ifHeat_83 rfl h

set_option maxRecDepth 100000 in
set_option maxHeartbeats 4000000 in
theorem sX8_ifHeat_91 {g : jm_G} {ad : Nat → Nat} {κ : jm_K} {P : Option Value → (Nat → Nat → Int32) → Prop} (hE : jE g ad m_X8_ifHeat P κ) {μ : Nat → Nat → Int32}  (r : Int32)
    (h : P (some (.int r)) μ) :
    jS g ad m_X8_ifHeat κ 91 [none, none, none] [.int r] μ := by
  exact js_iret hE rfl dX8_ifHeat_91 rfl h

set_option maxRecDepth 100000 in
set_option maxHeartbeats 4000000 in
theorem sX8_bestHeat_0 {g : jm_G} {ad : Nat → Nat} {κ : jm_K} {P : Option Value → (Nat → Nat → Int32) → Prop} (hE : jE g ad m_X8_bestHeat P κ) {μ : Nat → Nat → Int32}  
    (h : vp_in (0 : Int32) (g.2.2.2.2.1 0) ∧
    vp_in (0 : Int32) (g.2.2.2.2.1 0) ∧
    jS g ad m_X8_bestHeat κ 17 [some (.ref 0), some (.int (g.2.2.2.2.2 0 (0 : Int32).toNatClampNeg)), some (.int (-1 : Int32)), some (.int (0 : Int32)), some (.int (g.2.2.2.2.2 0 (0 : Int32).toNatClampNeg)), none] [] μ) :
    jS g ad m_X8_bestHeat κ 0 [some (.ref 0), none, none, none, none, none] [] μ := by
  refine jr_lowest dX8_bestHeat_0 jw_RX8_66 ?_
  refine jr_iconst (0 : Int32) dX8_bestHeat_3 (by decide) ?_
  obtain ⟨o1, h⟩ := h
  refine jr_rald (r := 0) (by decide) dX8_bestHeat_4 o1 ?_
  refine jr_istore_n [some (.ref 0), some (.int (g.2.2.2.2.2 0 (0 : Int32).toNatClampNeg)), none, none, none, none] dX8_bestHeat_5 rfl rfl rfl ?_
  refine jr_iconst (-1 : Int32) dX8_bestHeat_6 (by decide) ?_
  refine jr_istore_n [some (.ref 0), some (.int (g.2.2.2.2.2 0 (0 : Int32).toNatClampNeg)), some (.int (-1 : Int32)), none, none, none] dX8_bestHeat_7 rfl rfl rfl ?_
  refine jr_iconst (0 : Int32) dX8_bestHeat_8 (by decide) ?_
  refine jr_istore_n [some (.ref 0), some (.int (g.2.2.2.2.2 0 (0 : Int32).toNatClampNeg)), some (.int (-1 : Int32)), some (.int (0 : Int32)), none, none] dX8_bestHeat_9 rfl rfl rfl ?_
  refine jr_lowest dX8_bestHeat_10 jw_RX8_66 ?_
  refine jr_iconst (0 : Int32) dX8_bestHeat_13 (by decide) ?_
  obtain ⟨o2, h⟩ := h
  refine jr_rald (r := 0) (by decide) dX8_bestHeat_14 o2 ?_
  refine jr_istore [some (.ref 0), some (.int (g.2.2.2.2.2 0 (0 : Int32).toNatClampNeg)), some (.int (-1 : Int32)), some (.int (0 : Int32)), some (.int (g.2.2.2.2.2 0 (0 : Int32).toNatClampNeg)), none] dX8_bestHeat_15 rfl rfl rfl ?_
  exact h

set_option maxRecDepth 100000 in
set_option maxHeartbeats 4000000 in
theorem sX8_bestHeat_17 {g : jm_G} {ad : Nat → Nat} {κ : jm_K} {P : Option Value → (Nat → Nat → Int32) → Prop} (hE : jE g ad m_X8_bestHeat P κ) {μ : Nat → Nat → Int32}  (x1 : Int32) (x2 : Int32) (x3 : Int32) (x4 : Int32)
    (h : vp_in (0 : Int32) (g.2.2.2.2.1 1) ∧
    (((g.2.2.2.2.2 1 (0 : Int32).toNatClampNeg) < x4 →
    P (some (.int (x1 + (100 : Int32)))) μ) ∧
    (¬ (g.2.2.2.2.2 1 (0 : Int32).toNatClampNeg) < x4 →
    jD g ad m_X8_tryOut [.ref 0, .int x4, .int (-1 : Int32)] μ (fun v μ' => jS g ad m_X8_bestHeat κ 34 [some (.ref 0), some (.int x1), some (.int x2), some (.int x3), some (.int x4), none] (jm_ps v []) μ')))) :
    jS g ad m_X8_bestHeat κ 17 [some (.ref 0), some (.int x1), some (.int x2), some (.int x3), some (.int x4), none] [] μ := by
  refine jr_iload dX8_bestHeat_17 rfl ?_
  refine jr_highest dX8_bestHeat_19 jw_RX8_70 ?_
  refine jr_iconst (0 : Int32) dX8_bestHeat_22 (by decide) ?_
  obtain ⟨o1, h⟩ := h
  refine jr_rald (r := 1) (by decide) dX8_bestHeat_23 o1 ?_
  obtain ⟨hA, hB⟩ := h
  refine jr_icmp_gt 91 dX8_bestHeat_24 rfl (fun c => ?_) (fun c => ?_)
  · have h := hA c
    refine jr_iload_n dX8_bestHeat_91 rfl ?_
    refine jr_bipush (100 : Int32) dX8_bestHeat_92 (by decide) ?_
    refine jr_iadd dX8_bestHeat_94 ?_
    exact js_iret hE rfl dX8_bestHeat_95 rfl h
  · have h := hB c
    refine jr_aload_n dX8_bestHeat_27 rfl ?_
    refine jr_iload dX8_bestHeat_28 rfl ?_
    refine jr_iconst (-1 : Int32) dX8_bestHeat_30 (by decide) ?_
    refine js_callV (st := []) [.int x4, .int (-1 : Int32)] jc_RX8_187 rfl dX8_bestHeat_31 ga_0 rfl rfl rfl rfl (kk := ?_)
    exact h

set_option maxRecDepth 100000 in
set_option maxHeartbeats 4000000 in
theorem sX8_bestHeat_34 {g : jm_G} {ad : Nat → Nat} {κ : jm_K} {P : Option Value → (Nat → Nat → Int32) → Prop} (hE : jE g ad m_X8_bestHeat P κ) {μ : Nat → Nat → Int32}  (x1 : Int32) (x2 : Int32) (x3 : Int32) (x4 : Int32)
    (h : jD g ad m_X7_sumOfSpreads [.ref 57] μ (fun v μ' => jS g ad m_X8_bestHeat κ 41 [some (.ref 0), some (.int x1), some (.int x2), some (.int x3), some (.int x4), none] (jm_ps v []) μ')) :
    jS g ad m_X8_bestHeat κ 34 [some (.ref 0), some (.int x1), some (.int x2), some (.int x3), some (.int x4), none] [] μ := by
  refine jr_aload_n dX8_bestHeat_34 rfl ?_
  refine jr_get 8 8 jf_RX8_59 dX8_bestHeat_35 ga_0 rfl (.ref 57) rfl ?_
  refine js_callV (st := []) [] jc_RX8_166 rfl dX8_bestHeat_38 jm_shots57.1 rfl rfl rfl rfl (kk := ?_)
  exact h

set_option maxRecDepth 100000 in
set_option maxHeartbeats 4000000 in
theorem sX8_bestHeat_41 {g : jm_G} {ad : Nat → Nat} {κ : jm_K} {P : Option Value → (Nat → Nat → Int32) → Prop} (hE : jE g ad m_X8_bestHeat P κ) {μ : Nat → Nat → Int32}  (x1 : Int32) (x2 : Int32) (x3 : Int32) (x4 : Int32) (r : Int32)
    (h : ((x2 < (μ 57 2) →
    jS g ad m_X8_bestHeat κ 17 [some (.ref 0), some (.int x4), some (.int (μ 57 2)), some (.int r), some (.int (x4 + 10)), none] [] μ) ∧
    (¬ x2 < (μ 57 2) →
    ((¬ (μ 57 2) = x2 →
    jS g ad m_X8_bestHeat κ 17 [some (.ref 0), some (.int x1), some (.int x2), some (.int x3), some (.int (x4 + 10)), none] [] μ) ∧
    ((μ 57 2) = x2 →
    ((x3 ≤ r →
    jS g ad m_X8_bestHeat κ 17 [some (.ref 0), some (.int x1), some (.int x2), some (.int x3), some (.int (x4 + 10)), none] [] μ) ∧
    (¬ x3 ≤ r →
    jS g ad m_X8_bestHeat κ 17 [some (.ref 0), some (.int x4), some (.int (μ 57 2)), some (.int r), some (.int (x4 + 10)), none] [] μ))))))) :
    jS g ad m_X8_bestHeat κ 41 [some (.ref 0), some (.int x1), some (.int x2), some (.int x3), some (.int x4), none] [.int r] μ := by
  refine jr_istore [some (.ref 0), some (.int x1), some (.int x2), some (.int x3), some (.int x4), some (.int r)] dX8_bestHeat_41 rfl rfl rfl ?_
  refine jr_aload_n dX8_bestHeat_43 rfl ?_
  refine jr_get 8 8 jf_RX8_59 dX8_bestHeat_44 ga_0 rfl (.ref 57) rfl ?_
  refine jr_get 7 2 jf_RX8_159 dX8_bestHeat_47 jm_shots57.1 rfl (.int (μ 57 2)) rfl ?_
  refine jr_iload_n dX8_bestHeat_50 rfl ?_
  obtain ⟨hA, hB⟩ := h
  refine jr_icmp_gt 71 dX8_bestHeat_51 rfl (fun c => ?_) (fun c => ?_)
  · have h := hA c
    refine jr_iload dX8_bestHeat_71 rfl ?_
    refine jr_istore_n [some (.ref 0), some (.int x4), some (.int x2), some (.int x3), some (.int x4), some (.int r)] dX8_bestHeat_73 rfl rfl rfl ?_
    refine jr_aload_n dX8_bestHeat_74 rfl ?_
    refine jr_get 8 8 jf_RX8_59 dX8_bestHeat_75 ga_0 rfl (.ref 57) rfl ?_
    refine jr_get 7 2 jf_RX8_159 dX8_bestHeat_78 jm_shots57.1 rfl (.int (μ 57 2)) rfl ?_
    refine jr_istore_n [some (.ref 0), some (.int x4), some (.int (μ 57 2)), some (.int x3), some (.int x4), some (.int r)] dX8_bestHeat_81 rfl rfl rfl ?_
    refine jr_iload dX8_bestHeat_82 rfl ?_
    refine jr_istore_n [some (.ref 0), some (.int x4), some (.int (μ 57 2)), some (.int r), some (.int x4), some (.int r)] dX8_bestHeat_84 rfl rfl rfl ?_
    refine jr_iinc [some (.ref 0), some (.int x4), some (.int (μ 57 2)), some (.int r), some (.int (x4 + 10)), some (.int r)] dX8_bestHeat_85 rfl rfl rfl rfl rfl ?_
    refine jr_goto 17 dX8_bestHeat_88 rfl ?_
    refine js_drop 5 [some (.ref 0), some (.int x4), some (.int (μ 57 2)), some (.int r), some (.int (x4 + 10)), none] rfl ?_
    exact h
  · have h := hB c
    refine jr_aload_n dX8_bestHeat_54 rfl ?_
    refine jr_get 8 8 jf_RX8_59 dX8_bestHeat_55 ga_0 rfl (.ref 57) rfl ?_
    refine jr_get 7 2 jf_RX8_159 dX8_bestHeat_58 jm_shots57.1 rfl (.int (μ 57 2)) rfl ?_
    refine jr_iload_n dX8_bestHeat_61 rfl ?_
    obtain ⟨hA, hB⟩ := h
    refine jr_icmp_ne 85 dX8_bestHeat_62 rfl (fun c => ?_) (fun c => ?_)
    · have h := hA c
      refine jr_iinc [some (.ref 0), some (.int x1), some (.int x2), some (.int x3), some (.int (x4 + 10)), some (.int r)] dX8_bestHeat_85 rfl rfl rfl rfl rfl ?_
      refine jr_goto 17 dX8_bestHeat_88 rfl ?_
      refine js_drop 5 [some (.ref 0), some (.int x1), some (.int x2), some (.int x3), some (.int (x4 + 10)), none] rfl ?_
      exact h
    · have h := hB c
      refine jr_iload dX8_bestHeat_65 rfl ?_
      refine jr_iload_n dX8_bestHeat_67 rfl ?_
      obtain ⟨hA, hB⟩ := h
      refine jr_icmp_ge 85 dX8_bestHeat_68 rfl (fun c => ?_) (fun c => ?_)
      · have h := hA c
        refine jr_iinc [some (.ref 0), some (.int x1), some (.int x2), some (.int x3), some (.int (x4 + 10)), some (.int r)] dX8_bestHeat_85 rfl rfl rfl rfl rfl ?_
        refine jr_goto 17 dX8_bestHeat_88 rfl ?_
        refine js_drop 5 [some (.ref 0), some (.int x1), some (.int x2), some (.int x3), some (.int (x4 + 10)), none] rfl ?_
        exact h
      · have h := hB c
        refine jr_iload dX8_bestHeat_71 rfl ?_
        refine jr_istore_n [some (.ref 0), some (.int x4), some (.int x2), some (.int x3), some (.int x4), some (.int r)] dX8_bestHeat_73 rfl rfl rfl ?_
        refine jr_aload_n dX8_bestHeat_74 rfl ?_
        refine jr_get 8 8 jf_RX8_59 dX8_bestHeat_75 ga_0 rfl (.ref 57) rfl ?_
        refine jr_get 7 2 jf_RX8_159 dX8_bestHeat_78 jm_shots57.1 rfl (.int (μ 57 2)) rfl ?_
        refine jr_istore_n [some (.ref 0), some (.int x4), some (.int (μ 57 2)), some (.int x3), some (.int x4), some (.int r)] dX8_bestHeat_81 rfl rfl rfl ?_
        refine jr_iload dX8_bestHeat_82 rfl ?_
        refine jr_istore_n [some (.ref 0), some (.int x4), some (.int (μ 57 2)), some (.int r), some (.int x4), some (.int r)] dX8_bestHeat_84 rfl rfl rfl ?_
        refine jr_iinc [some (.ref 0), some (.int x4), some (.int (μ 57 2)), some (.int r), some (.int (x4 + 10)), some (.int r)] dX8_bestHeat_85 rfl rfl rfl rfl rfl ?_
        refine jr_goto 17 dX8_bestHeat_88 rfl ?_
        refine js_drop 5 [some (.ref 0), some (.int x4), some (.int (μ 57 2)), some (.int r), some (.int (x4 + 10)), none] rfl ?_
        exact h

set_option maxRecDepth 100000 in
set_option maxHeartbeats 4000000 in
theorem sX8_ifForgot_0 {g : jm_G} {ad : Nat → Nat} {κ : jm_K} {P : Option Value → (Nat → Nat → Int32) → Prop} (hE : jE g ad m_X8_ifForgot P κ) {μ : Nat → Nat → Int32}  (p1 : Int32)
    (h : jD g ad m_X3_isPulse [.ref 1, .int p1] μ (fun v μ' => jS g ad m_X8_ifForgot κ 8 [some (.ref 0), some (.int p1)] (jm_ps v []) μ')) :
    jS g ad m_X8_ifForgot κ 0 [some (.ref 0), some (.int p1)] [] μ := by
  refine jr_aload_n dX8_ifForgot_0 rfl ?_
  refine jr_get 8 0 jf_RX8_12 dX8_ifForgot_1 ga_0 rfl (.ref 1) rfl ?_
  refine jr_iload_n dX8_ifForgot_4 rfl ?_
  refine js_callV (st := []) [.int p1] jc_RX8_128 rfl dX8_ifForgot_5 jm_heard1.1 rfl rfl rfl rfl (kk := ?_)
  exact h

set_option maxRecDepth 100000 in
set_option maxHeartbeats 4000000 in
theorem sX8_ifForgot_8 {g : jm_G} {ad : Nat → Nat} {κ : jm_K} {P : Option Value → (Nat → Nat → Int32) → Prop} (hE : jE g ad m_X8_ifForgot P κ) {μ : Nat → Nat → Int32}  (x1 : Int32) (r : Int32)
    (h : ((¬ r = 0 →
    jD g ad m_X8_tryOut [.ref 0, .int (μ 2 0), .int x1] μ (fun v μ' => jS g ad m_X8_ifForgot κ 27 [some (.ref 0), none] (jm_ps v []) μ')) ∧
    (r = 0 →
    P (some (.int (-1 : Int32))) μ))) :
    jS g ad m_X8_ifForgot κ 8 [some (.ref 0), some (.int x1)] [.int r] μ := by
  obtain ⟨hA, hB⟩ := h
  refine jr_if_ne 13 dX8_ifForgot_8 rfl (fun c => ?_) (fun c => ?_)
  · have h := hA c
    refine jr_aload_n dX8_ifForgot_13 rfl ?_
    refine jr_aload_n dX8_ifForgot_14 rfl ?_
    refine jr_get 8 0 jf_RX8_12 dX8_ifForgot_15 ga_0 rfl (.ref 1) rfl ?_
    refine jr_get 3 0 jf_RX8_73 dX8_ifForgot_18 jm_heard1.1 rfl (.ref 2) rfl ?_
    refine jr_iconst (0 : Int32) dX8_ifForgot_21 (by decide) ?_
    refine jr_ialdn 0 dX8_ifForgot_22 ga_2 (jm_inD (by decide)) rfl ?_
    refine jr_iload_n dX8_ifForgot_23 rfl ?_
    refine js_drop 1 [some (.ref 0), none] rfl ?_
    refine js_callV (st := []) [.int (μ 2 0), .int x1] jc_RX8_187 rfl dX8_ifForgot_24 ga_0 rfl rfl rfl rfl (kk := ?_)
    exact h
  · have h := hB c
    refine jr_iconst (-1 : Int32) dX8_ifForgot_11 (by decide) ?_
    exact js_iret hE rfl dX8_ifForgot_12 rfl h

set_option maxRecDepth 100000 in
set_option maxHeartbeats 4000000 in
theorem sX8_ifForgot_27 {g : jm_G} {ad : Nat → Nat} {κ : jm_K} {P : Option Value → (Nat → Nat → Int32) → Prop} (hE : jE g ad m_X8_ifForgot P κ) {μ : Nat → Nat → Int32}  
    (h : P (some (.int (μ 57 2))) μ) :
    jS g ad m_X8_ifForgot κ 27 [some (.ref 0), none] [] μ := by
  refine jr_aload_n dX8_ifForgot_27 rfl ?_
  refine jr_get 8 8 jf_RX8_59 dX8_ifForgot_28 ga_0 rfl (.ref 57) rfl ?_
  refine jr_get 7 2 jf_RX8_159 dX8_ifForgot_31 jm_shots57.1 rfl (.int (μ 57 2)) rfl ?_
  exact js_iret hE rfl dX8_ifForgot_34 rfl h

set_option maxRecDepth 100000 in
set_option maxHeartbeats 4000000 in
theorem sX8_put_0 {g : jm_G} {ad : Nat → Nat} {κ : jm_K} {P : Option Value → (Nat → Nat → Int32) → Prop} (hE : jE g ad m_X8_put P κ) {μ : Nat → Nat → Int32}  (p1 : Int64)
    (h : jS g ad m_X8_put κ 5 [some (.ref 0), some (.long p1), none, some (.int (0 : Int32)), some (.long p1), none, none, none] [] μ) :
    jS g ad m_X8_put κ 0 [some (.ref 0), some (.long p1), none, none, none, none, none, none] [] μ := by
  refine jr_iconst (0 : Int32) dX8_put_0 (by decide) ?_
  refine jr_istore_n [some (.ref 0), some (.long p1), none, some (.int (0 : Int32)), none, none, none, none] dX8_put_1 rfl rfl rfl ?_
  refine jr_lload_n dX8_put_2 rfl ?_
  refine jr_lstore [some (.ref 0), some (.long p1), none, some (.int (0 : Int32)), some (.long p1), none, none, none] dX8_put_3 rfl rfl rfl ?_
  exact h

set_option maxRecDepth 100000 in
set_option maxHeartbeats 4000000 in
theorem sX8_put_5 {g : jm_G} {ad : Nat → Nat} {κ : jm_K} {P : Option Value → (Nat → Nat → Int32) → Prop} (hE : jE g ad m_X8_put P κ) {μ : Nat → Nat → Int32}  (x1 : Int64) (x3 : Int32) (x4 : Int64)
    (h : (((8 : Int32) ≤ x3 →
    ((x3 = 0 →
    P (some (.int (-2 : Int32))) μ) ∧
    (¬ x3 = 0 →
    (((lg_cmp x4 (0 : Int64)) = 0 →
    ((((μ 26 2) + x3) ≤ (80 : Int32) →
    jS g ad m_X8_put κ 100 [some (.ref 0), some (.long x1), none, none, none, none, some (.int (x3 - (1 : Int32))), none] [] μ) ∧
    (¬ ((μ 26 2) + x3) ≤ (80 : Int32) →
    P (some (.int (-4 : Int32))) μ))) ∧
    (¬ (lg_cmp x4 (0 : Int64)) = 0 →
    P (some (.int (-2 : Int32))) μ))))) ∧
    (¬ (8 : Int32) ≤ x3 →
    (((lg_cmp (x4 &&& (255 : Int64)) (0 : Int64)) = 0 →
    ((x3 = 0 →
    P (some (.int (-2 : Int32))) μ) ∧
    (¬ x3 = 0 →
    (((lg_cmp x4 (0 : Int64)) = 0 →
    ((((μ 26 2) + x3) ≤ (80 : Int32) →
    jS g ad m_X8_put κ 100 [some (.ref 0), some (.long x1), none, none, none, none, some (.int (x3 - (1 : Int32))), none] [] μ) ∧
    (¬ ((μ 26 2) + x3) ≤ (80 : Int32) →
    P (some (.int (-4 : Int32))) μ))) ∧
    (¬ (lg_cmp x4 (0 : Int64)) = 0 →
    P (some (.int (-2 : Int32))) μ))))) ∧
    (¬ (lg_cmp (x4 &&& (255 : Int64)) (0 : Int64)) = 0 →
    (((lg_cmp (x4 &&& (255 : Int64)) (33 : Int64)) < 0 →
    P (some (.int (-2 : Int32))) μ) ∧
    (¬ (lg_cmp (x4 &&& (255 : Int64)) (33 : Int64)) < 0 →
    (((lg_cmp (x4 &&& (255 : Int64)) (126 : Int64)) ≤ 0 →
    jS g ad m_X8_put κ 5 [some (.ref 0), some (.long x1), none, some (.int (x3 + 1)), some (.long ((x4.toUInt64 >>> ((8 : Int32).toInt64.toUInt64 &&& Int64.toUInt64 63)).toInt64)), none, none, none] [] μ) ∧
    (¬ (lg_cmp (x4 &&& (255 : Int64)) (126 : Int64)) ≤ 0 →
    P (some (.int (-2 : Int32))) μ))))))))) :
    jS g ad m_X8_put κ 5 [some (.ref 0), some (.long x1), none, some (.int x3), some (.long x4), none, none, none] [] μ := by
  refine jr_iload_n dX8_put_5 rfl ?_
  refine jr_bipush (8 : Int32) dX8_put_6 (by decide) ?_
  obtain ⟨hA, hB⟩ := h
  refine jr_icmp_ge 64 dX8_put_8 rfl (fun c => ?_) (fun c => ?_)
  · have h := hA c
    refine jr_iload_n dX8_put_64 rfl ?_
    obtain ⟨hA, hB⟩ := h
    refine jr_if_eq 75 dX8_put_65 rfl (fun c => ?_) (fun c => ?_)
    · have h := hA c
      refine jr_bipush (-2 : Int32) dX8_put_75 (by decide) ?_
      exact js_iret hE rfl dX8_put_77 rfl h
    · have h := hB c
      refine jr_lload dX8_put_68 rfl ?_
      refine jr_lconst (0 : Int64) dX8_put_70 (by decide) ?_
      refine jr_lcmp dX8_put_71 ?_
      obtain ⟨hA, hB⟩ := h
      refine jr_if_eq 78 dX8_put_72 rfl (fun c => ?_) (fun c => ?_)
      · have h := hA c
        refine jr_aload_n dX8_put_78 rfl ?_
        refine jr_get 8 4 jf_RX8_34 dX8_put_79 ga_0 rfl (.ref 26) rfl ?_
        refine jr_get 5 2 jf_RX8_125 dX8_put_82 ga_26 rfl (.int (μ 26 2)) rfl ?_
        refine jr_iload_n dX8_put_85 rfl ?_
        refine jr_iadd dX8_put_86 ?_
        refine jr_bipush (80 : Int32) dX8_put_87 (by decide) ?_
        obtain ⟨hA, hB⟩ := h
        refine jr_icmp_le 95 dX8_put_89 rfl (fun c => ?_) (fun c => ?_)
        · have h := hA c
          refine jr_iload_n dX8_put_95 rfl ?_
          refine jr_iconst (1 : Int32) dX8_put_96 (by decide) ?_
          refine jr_isub dX8_put_97 ?_
          refine jr_istore [some (.ref 0), some (.long x1), none, some (.int x3), some (.long x4), none, some (.int (x3 - (1 : Int32))), none] dX8_put_98 rfl rfl rfl ?_
          refine js_drop 3 [some (.ref 0), some (.long x1), none, none, some (.long x4), none, some (.int (x3 - (1 : Int32))), none] rfl ?_
          refine js_drop 4 [some (.ref 0), some (.long x1), none, none, none, none, some (.int (x3 - (1 : Int32))), none] rfl ?_
          exact h
        · have h := hB c
          refine jr_bipush (-4 : Int32) dX8_put_92 (by decide) ?_
          exact js_iret hE rfl dX8_put_94 rfl h
      · have h := hB c
        refine jr_bipush (-2 : Int32) dX8_put_75 (by decide) ?_
        exact js_iret hE rfl dX8_put_77 rfl h
  · have h := hB c
    refine jr_lload dX8_put_11 rfl ?_
    refine jr_ldc2 (255 : Int64) dX8_put_13 jk_RX8_191 ?_
    refine jr_land dX8_put_16 ?_
    refine jr_lconst (0 : Int64) dX8_put_17 (by decide) ?_
    refine jr_lcmp dX8_put_18 ?_
    obtain ⟨hA, hB⟩ := h
    refine jr_if_eq 64 dX8_put_19 rfl (fun c => ?_) (fun c => ?_)
    · have h := hA c
      refine jr_iload_n dX8_put_64 rfl ?_
      obtain ⟨hA, hB⟩ := h
      refine jr_if_eq 75 dX8_put_65 rfl (fun c => ?_) (fun c => ?_)
      · have h := hA c
        refine jr_bipush (-2 : Int32) dX8_put_75 (by decide) ?_
        exact js_iret hE rfl dX8_put_77 rfl h
      · have h := hB c
        refine jr_lload dX8_put_68 rfl ?_
        refine jr_lconst (0 : Int64) dX8_put_70 (by decide) ?_
        refine jr_lcmp dX8_put_71 ?_
        obtain ⟨hA, hB⟩ := h
        refine jr_if_eq 78 dX8_put_72 rfl (fun c => ?_) (fun c => ?_)
        · have h := hA c
          refine jr_aload_n dX8_put_78 rfl ?_
          refine jr_get 8 4 jf_RX8_34 dX8_put_79 ga_0 rfl (.ref 26) rfl ?_
          refine jr_get 5 2 jf_RX8_125 dX8_put_82 ga_26 rfl (.int (μ 26 2)) rfl ?_
          refine jr_iload_n dX8_put_85 rfl ?_
          refine jr_iadd dX8_put_86 ?_
          refine jr_bipush (80 : Int32) dX8_put_87 (by decide) ?_
          obtain ⟨hA, hB⟩ := h
          refine jr_icmp_le 95 dX8_put_89 rfl (fun c => ?_) (fun c => ?_)
          · have h := hA c
            refine jr_iload_n dX8_put_95 rfl ?_
            refine jr_iconst (1 : Int32) dX8_put_96 (by decide) ?_
            refine jr_isub dX8_put_97 ?_
            refine jr_istore [some (.ref 0), some (.long x1), none, some (.int x3), some (.long x4), none, some (.int (x3 - (1 : Int32))), none] dX8_put_98 rfl rfl rfl ?_
            refine js_drop 3 [some (.ref 0), some (.long x1), none, none, some (.long x4), none, some (.int (x3 - (1 : Int32))), none] rfl ?_
            refine js_drop 4 [some (.ref 0), some (.long x1), none, none, none, none, some (.int (x3 - (1 : Int32))), none] rfl ?_
            exact h
          · have h := hB c
            refine jr_bipush (-4 : Int32) dX8_put_92 (by decide) ?_
            exact js_iret hE rfl dX8_put_94 rfl h
        · have h := hB c
          refine jr_bipush (-2 : Int32) dX8_put_75 (by decide) ?_
          exact js_iret hE rfl dX8_put_77 rfl h
    · have h := hB c
      refine jr_lload dX8_put_22 rfl ?_
      refine jr_ldc2 (255 : Int64) dX8_put_24 jk_RX8_191 ?_
      refine jr_land dX8_put_27 ?_
      refine jr_lstore [some (.ref 0), some (.long x1), none, some (.int x3), some (.long x4), none, some (.long (x4 &&& (255 : Int64))), none] dX8_put_28 rfl rfl rfl ?_
      refine jr_lload dX8_put_30 rfl ?_
      refine jr_ldc2 (33 : Int64) dX8_put_32 jk_RX8_193 ?_
      refine jr_lcmp dX8_put_35 ?_
      obtain ⟨hA, hB⟩ := h
      refine jr_if_lt 48 dX8_put_36 rfl (fun c => ?_) (fun c => ?_)
      · have h := hA c
        refine jr_bipush (-2 : Int32) dX8_put_48 (by decide) ?_
        exact js_iret hE rfl dX8_put_50 rfl h
      · have h := hB c
        refine jr_lload dX8_put_39 rfl ?_
        refine jr_ldc2 (126 : Int64) dX8_put_41 jk_RX8_195 ?_
        refine jr_lcmp dX8_put_44 ?_
        obtain ⟨hA, hB⟩ := h
        refine jr_if_le 51 dX8_put_45 rfl (fun c => ?_) (fun c => ?_)
        · have h := hA c
          refine jr_lload dX8_put_51 rfl ?_
          refine jr_bipush (8 : Int32) dX8_put_53 (by decide) ?_
          refine jr_lushr dX8_put_55 ?_
          refine jr_lstore [some (.ref 0), some (.long x1), none, some (.int x3), some (.long ((x4.toUInt64 >>> ((8 : Int32).toInt64.toUInt64 &&& Int64.toUInt64 63)).toInt64)), none, some (.long (x4 &&& (255 : Int64))), none] dX8_put_56 rfl rfl rfl ?_
          refine jr_iinc [some (.ref 0), some (.long x1), none, some (.int (x3 + 1)), some (.long ((x4.toUInt64 >>> ((8 : Int32).toInt64.toUInt64 &&& Int64.toUInt64 63)).toInt64)), none, some (.long (x4 &&& (255 : Int64))), none] dX8_put_58 rfl rfl rfl rfl rfl ?_
          refine jr_goto 5 dX8_put_61 rfl ?_
          refine js_drop 6 [some (.ref 0), some (.long x1), none, some (.int (x3 + 1)), some (.long ((x4.toUInt64 >>> ((8 : Int32).toInt64.toUInt64 &&& Int64.toUInt64 63)).toInt64)), none, none, none] rfl ?_
          exact h
        · have h := hB c
          refine jr_bipush (-2 : Int32) dX8_put_48 (by decide) ?_
          exact js_iret hE rfl dX8_put_50 rfl h

set_option maxRecDepth 100000 in
set_option maxHeartbeats 4000000 in
theorem sX8_put_100 {g : jm_G} {ad : Nat → Nat} {κ : jm_K} {P : Option Value → (Nat → Nat → Int32) → Prop} (hE : jE g ad m_X8_put P κ) {μ : Nat → Nat → Int32}  (x1 : Int64) (x6 : Int32)
    (h : ((x6 < 0 →
    P (some (.int (μ 26 2))) μ) ∧
    (¬ x6 < 0 →
    jD g ad m_X5_append [.ref 26, .int ((((((x1.toUInt64 >>> (((8 : Int32) * x6).toInt64.toUInt64 &&& Int64.toUInt64 63)).toInt64) &&& (255 : Int64)).toInt32).toUInt32 % 65536).toInt32)] μ (fun v μ' => jS g ad m_X8_put κ 125 [some (.ref 0), some (.long x1), none, none, none, none, some (.int x6), none] (jm_ps v []) μ')))) :
    jS g ad m_X8_put κ 100 [some (.ref 0), some (.long x1), none, none, none, none, some (.int x6), none] [] μ := by
  refine jr_iload dX8_put_100 rfl ?_
  obtain ⟨hA, hB⟩ := h
  refine jr_if_lt 131 dX8_put_102 rfl (fun c => ?_) (fun c => ?_)
  · have h := hA c
    refine jr_aload_n dX8_put_131 rfl ?_
    refine jr_get 8 4 jf_RX8_34 dX8_put_132 ga_0 rfl (.ref 26) rfl ?_
    refine jr_get 5 2 jf_RX8_125 dX8_put_135 ga_26 rfl (.int (μ 26 2)) rfl ?_
    exact js_iret hE rfl dX8_put_138 rfl h
  · have h := hB c
    refine jr_aload_n dX8_put_105 rfl ?_
    refine jr_get 8 4 jf_RX8_34 dX8_put_106 ga_0 rfl (.ref 26) rfl ?_
    refine jr_lload_n dX8_put_109 rfl ?_
    refine jr_bipush (8 : Int32) dX8_put_110 (by decide) ?_
    refine jr_iload dX8_put_112 rfl ?_
    refine jr_imul dX8_put_114 ?_
    refine jr_lushr dX8_put_115 ?_
    refine jr_ldc2 (255 : Int64) dX8_put_116 jk_RX8_191 ?_
    refine jr_land dX8_put_119 ?_
    refine jr_l2i _ dX8_put_120 rfl ?_
    refine jr_i2c dX8_put_121 ?_
    refine js_callV (st := []) [.int ((((((x1.toUInt64 >>> (((8 : Int32) * x6).toInt64.toUInt64 &&& Int64.toUInt64 63)).toInt64) &&& (255 : Int64)).toInt32).toUInt32 % 65536).toInt32)] jc_RX8_197 rfl dX8_put_122 ga_26 rfl rfl rfl rfl (kk := ?_)
    exact h

set_option maxRecDepth 100000 in
set_option maxHeartbeats 4000000 in
theorem sX8_put_125 {g : jm_G} {ad : Nat → Nat} {κ : jm_K} {P : Option Value → (Nat → Nat → Int32) → Prop} (hE : jE g ad m_X8_put P κ) {μ : Nat → Nat → Int32}  (x1 : Int64) (x6 : Int32)
    (h : jS g ad m_X8_put κ 100 [some (.ref 0), some (.long x1), none, none, none, none, some (.int (x6 + (-1))), none] [] μ) :
    jS g ad m_X8_put κ 125 [some (.ref 0), some (.long x1), none, none, none, none, some (.int x6), none] [] μ := by
  refine jr_iinc [some (.ref 0), some (.long x1), none, none, none, none, some (.int (x6 + (-1))), none] dX8_put_125 rfl rfl rfl rfl rfl ?_
  refine jr_goto 100 dX8_put_128 rfl ?_
  exact h

set_option maxRecDepth 100000 in
set_option maxHeartbeats 4000000 in
theorem sX8_wipe_0 {g : jm_G} {ad : Nat → Nat} {κ : jm_K} {P : Option Value → (Nat → Nat → Int32) → Prop} (hE : jE g ad m_X8_wipe P κ) {μ : Nat → Nat → Int32}  
    (h : (∀ μ1 : Nat → Nat → Int32, μ1 = jm_st μ 26 2 (0 : Int32) →
    P (some (.int (μ 26 2))) μ1)) :
    jS g ad m_X8_wipe κ 0 [some (.ref 0), none] [] μ := by
  refine jr_aload_n dX8_wipe_0 rfl ?_
  refine jr_get 8 4 jf_RX8_34 dX8_wipe_1 ga_0 rfl (.ref 26) rfl ?_
  refine jr_get 5 2 jf_RX8_125 dX8_wipe_4 ga_26 rfl (.int (μ 26 2)) rfl ?_
  refine jr_istore_n [some (.ref 0), some (.int (μ 26 2))] dX8_wipe_7 rfl rfl rfl ?_
  refine jr_aload_n dX8_wipe_8 rfl ?_
  refine jr_get 8 4 jf_RX8_34 dX8_wipe_9 ga_0 rfl (.ref 26) rfl ?_
  refine jr_iconst (0 : Int32) dX8_wipe_12 (by decide) ?_
  refine jr_putI 5 2 jf_RX8_125 dX8_wipe_13 ga_26 rfl ?_
  obtain ⟨μ1, e1⟩ : ∃ x : Nat → Nat → Int32, x = jm_st μ 26 2 (0 : Int32) := ⟨_, rfl⟩
  have h := h μ1 e1
  refine js_mem e1 ?_
  refine jr_iload_n dX8_wipe_16 rfl ?_
  exact js_iret hE rfl dX8_wipe_17 rfl h

set_option maxRecDepth 100000 in
set_option maxHeartbeats 4000000 in
theorem sX8_fault_0 {g : jm_G} {ad : Nat → Nat} {κ : jm_K} {P : Option Value → (Nat → Nat → Int32) → Prop} (hE : jE g ad m_X8_fault P κ) {μ : Nat → Nat → Int32}  
    (h : jD g ad m_X5_read [.ref 26] μ (fun v μ' => jS g ad m_X8_fault κ 7 [none] (jm_ps v []) μ')) :
    jS g ad m_X8_fault κ 0 [some (.ref 0)] [] μ := by
  refine jr_aload_n dX8_fault_0 rfl ?_
  refine jr_get 8 4 jf_RX8_34 dX8_fault_1 ga_0 rfl (.ref 26) rfl ?_
  refine js_drop 0 [none] rfl ?_
  refine js_callV (st := []) [] jc_RX8_115 rfl dX8_fault_4 ga_26 rfl rfl rfl rfl (kk := ?_)
  exact h

set_option maxRecDepth 100000 in
set_option maxHeartbeats 4000000 in
theorem sX8_fault_7 {g : jm_G} {ad : Nat → Nat} {κ : jm_K} {P : Option Value → (Nat → Nat → Int32) → Prop} (hE : jE g ad m_X8_fault P κ) {μ : Nat → Nat → Int32}  (r : Int32)
    (h : P (some (.int r)) μ) :
    jS g ad m_X8_fault κ 7 [none] [.int r] μ := by
  exact js_iret hE rfl dX8_fault_7 rfl h

set_option maxRecDepth 100000 in
set_option maxHeartbeats 4000000 in
theorem sX8_undo_0 {g : jm_G} {ad : Nat → Nat} {κ : jm_K} {P : Option Value → (Nat → Nat → Int32) → Prop} (hE : jE g ad m_X8_undo P κ) {μ : Nat → Nat → Int32}  
    (h : ((¬ (μ 4 2) = 0 →
    jD g ad m_X4_takeBack [.ref 4, .ref 1] μ (fun v μ' => jS g ad m_X8_undo κ 24 [some (.ref 0)] (jm_ps v []) μ')) ∧
    ((μ 4 2) = 0 →
    P (some (.int (-5 : Int32))) μ))) :
    jS g ad m_X8_undo κ 0 [some (.ref 0)] [] μ := by
  refine jr_aload_n dX8_undo_0 rfl ?_
  refine jr_get 8 1 jf_RX8_19 dX8_undo_1 ga_0 rfl (.ref 4) rfl ?_
  refine jr_get 4 2 jf_RX8_176 dX8_undo_4 ga_4 rfl (.int (μ 4 2)) rfl ?_
  obtain ⟨hA, hB⟩ := h
  refine jr_if_ne 13 dX8_undo_7 rfl (fun c => ?_) (fun c => ?_)
  · have h := hA c
    refine jr_aload_n dX8_undo_13 rfl ?_
    refine jr_get 8 1 jf_RX8_19 dX8_undo_14 ga_0 rfl (.ref 4) rfl ?_
    refine jr_aload_n dX8_undo_17 rfl ?_
    refine jr_get 8 0 jf_RX8_12 dX8_undo_18 ga_0 rfl (.ref 1) rfl ?_
    refine js_callV (st := []) [.ref 1] jc_RX8_201 rfl dX8_undo_21 ga_4 rfl rfl rfl rfl (kk := ?_)
    exact h
  · have h := hB c
    refine jr_bipush (-5 : Int32) dX8_undo_10 (by decide) ?_
    exact js_iret hE rfl dX8_undo_12 rfl h

set_option maxRecDepth 100000 in
set_option maxHeartbeats 4000000 in
theorem sX8_undo_24 {g : jm_G} {ad : Nat → Nat} {κ : jm_K} {P : Option Value → (Nat → Nat → Int32) → Prop} (hE : jE g ad m_X8_undo P κ) {μ : Nat → Nat → Int32}  
    (h : (∀ μ1 : Nat → Nat → Int32, μ1 = jm_st μ 0 9 (1 : Int32) →
    P (some (.int (μ1 4 2))) μ1)) :
    jS g ad m_X8_undo κ 24 [some (.ref 0)] [] μ := by
  refine jr_aload_n dX8_undo_24 rfl ?_
  refine jr_iconst (1 : Int32) dX8_undo_25 (by decide) ?_
  refine jr_put 8 9 jf_RX8_62 dX8_undo_26 ga_0 rfl rfl rfl ?_
  obtain ⟨μ1, e1⟩ : ∃ x : Nat → Nat → Int32, x = jm_st μ 0 9 (1 : Int32) := ⟨_, rfl⟩
  have h := h μ1 e1
  refine js_mem e1 ?_
  refine jr_aload_n dX8_undo_29 rfl ?_
  refine jr_get 8 1 jf_RX8_19 dX8_undo_30 ga_0 rfl (.ref 4) rfl ?_
  refine jr_get 4 2 jf_RX8_176 dX8_undo_33 ga_4 rfl (.int (μ1 4 2)) rfl ?_
  exact js_iret hE rfl dX8_undo_36 rfl h

set_option maxRecDepth 100000 in
set_option maxHeartbeats 4000000 in
theorem sX8_save_0 {g : jm_G} {ad : Nat → Nat} {κ : jm_K} {P : Option Value → (Nat → Nat → Int32) → Prop} (hE : jE g ad m_X8_save P κ) {μ : Nat → Nat → Int32}  (p1 : Int32)
    (h : ((p1 < 0 →
    P (some (.int (-2 : Int32))) μ) ∧
    (¬ p1 < 0 →
    ((p1 < (2 : Int32) →
    vp_in p1 2 ∧
    jD g ad m_X3_become [.ref (76 + 3 * p1.toNatClampNeg), .ref 1] μ (fun v μ' => jS g ad m_X8_save κ 25 [some (.ref 0), some (.int p1)] (jm_ps v []) μ')) ∧
    (¬ p1 < (2 : Int32) →
    P (some (.int (-2 : Int32))) μ))))) :
    jS g ad m_X8_save κ 0 [some (.ref 0), some (.int p1)] [] μ := by
  refine jr_iload_n dX8_save_0 rfl ?_
  obtain ⟨hA, hB⟩ := h
  refine jr_if_lt 9 dX8_save_1 rfl (fun c => ?_) (fun c => ?_)
  · have h := hA c
    refine jr_bipush (-2 : Int32) dX8_save_9 (by decide) ?_
    exact js_iret hE rfl dX8_save_11 rfl h
  · have h := hB c
    refine jr_iload_n dX8_save_4 rfl ?_
    refine jr_iconst (2 : Int32) dX8_save_5 (by decide) ?_
    obtain ⟨hA, hB⟩ := h
    refine jr_icmp_lt 12 dX8_save_6 rfl (fun c => ?_) (fun c => ?_)
    · have h := hA c
      refine jr_aload_n dX8_save_12 rfl ?_
      refine jr_get 8 2 jf_RX8_23 dX8_save_13 ga_0 rfl (.ref 24) rfl ?_
      refine jr_iload_n dX8_save_16 rfl ?_
      obtain ⟨o1, h⟩ := h
      refine jr_aald dX8_save_17 ga_24 (by decide) o1 (76 + 3 * p1.toNatClampNeg) (if_pos (jm_inlt o1)) ?_
      refine jr_aload_n dX8_save_18 rfl ?_
      refine jr_get 8 0 jf_RX8_12 dX8_save_19 ga_0 rfl (.ref 1) rfl ?_
      refine js_callV (st := []) [.ref 1] jc_RX8_205 rfl dX8_save_22 ((jm_slots_heard (jm_inlt o1)).1) rfl rfl rfl rfl (kk := ?_)
      exact h
    · have h := hB c
      refine jr_bipush (-2 : Int32) dX8_save_9 (by decide) ?_
      exact js_iret hE rfl dX8_save_11 rfl h

set_option maxRecDepth 100000 in
set_option maxHeartbeats 4000000 in
theorem sX8_save_25 {g : jm_G} {ad : Nat → Nat} {κ : jm_K} {P : Option Value → (Nat → Nat → Int32) → Prop} (hE : jE g ad m_X8_save P κ) {μ : Nat → Nat → Int32}  (x1 : Int32)
    (h : vp_in x1 2 ∧
    (∀ μ2 : Nat → Nat → Int32, μ2 = jm_st μ 25 x1.toNatClampNeg (1 : Int32) →
    P (some (.int (μ2 1 2))) μ2)) :
    jS g ad m_X8_save κ 25 [some (.ref 0), some (.int x1)] [] μ := by
  refine jr_aload_n dX8_save_25 rfl ?_
  refine jr_get 8 3 jf_RX8_27 dX8_save_26 ga_0 rfl (.ref 25) rfl ?_
  refine jr_iload_n dX8_save_29 rfl ?_
  refine jr_iconst (1 : Int32) dX8_save_30 (by decide) ?_
  obtain ⟨o1, h⟩ := h
  refine jr_zastn _ dX8_save_31 ga_25 o1 rfl ?_
  obtain ⟨μ2, e2⟩ : ∃ x : Nat → Nat → Int32, x = jm_st μ 25 x1.toNatClampNeg (1 : Int32) := ⟨_, rfl⟩
  have h := h μ2 e2
  refine js_mem e2 ?_
  refine jr_aload_n dX8_save_32 rfl ?_
  refine jr_get 8 0 jf_RX8_12 dX8_save_33 ga_0 rfl (.ref 1) rfl ?_
  refine jr_get 3 2 jf_RX8_111 dX8_save_36 jm_heard1.1 rfl (.int (μ2 1 2)) rfl ?_
  exact js_iret hE rfl dX8_save_39 rfl h

set_option maxRecDepth 100000 in
set_option maxHeartbeats 4000000 in
theorem sX8_restore_0 {g : jm_G} {ad : Nat → Nat} {κ : jm_K} {P : Option Value → (Nat → Nat → Int32) → Prop} (hE : jE g ad m_X8_restore P κ) {μ : Nat → Nat → Int32}  (p1 : Int32)
    (h : ((p1 < 0 →
    P (some (.int (-2 : Int32))) μ) ∧
    (¬ p1 < 0 →
    ((p1 < (2 : Int32) →
    vp_in p1 2 ∧
    ((¬ (μ 25 p1.toNatClampNeg) = 0 →
    jD g ad m_X8_beginChange [.ref 0] μ (fun v μ' => jS g ad m_X8_restore κ 28 [some (.ref 0), some (.int p1)] (jm_ps v []) μ')) ∧
    ((μ 25 p1.toNatClampNeg) = 0 →
    P (some (.int (-5 : Int32))) μ))) ∧
    (¬ p1 < (2 : Int32) →
    P (some (.int (-2 : Int32))) μ))))) :
    jS g ad m_X8_restore κ 0 [some (.ref 0), some (.int p1)] [] μ := by
  refine jr_iload_n dX8_restore_0 rfl ?_
  obtain ⟨hA, hB⟩ := h
  refine jr_if_lt 9 dX8_restore_1 rfl (fun c => ?_) (fun c => ?_)
  · have h := hA c
    refine jr_bipush (-2 : Int32) dX8_restore_9 (by decide) ?_
    exact js_iret hE rfl dX8_restore_11 rfl h
  · have h := hB c
    refine jr_iload_n dX8_restore_4 rfl ?_
    refine jr_iconst (2 : Int32) dX8_restore_5 (by decide) ?_
    obtain ⟨hA, hB⟩ := h
    refine jr_icmp_lt 12 dX8_restore_6 rfl (fun c => ?_) (fun c => ?_)
    · have h := hA c
      refine jr_aload_n dX8_restore_12 rfl ?_
      refine jr_get 8 3 jf_RX8_27 dX8_restore_13 ga_0 rfl (.ref 25) rfl ?_
      refine jr_iload_n dX8_restore_16 rfl ?_
      obtain ⟨o1, h⟩ := h
      refine jr_zaldn _ dX8_restore_17 ga_25 o1 rfl ?_
      obtain ⟨hA, hB⟩ := h
      refine jr_if_ne 24 dX8_restore_18 rfl (fun c => ?_) (fun c => ?_)
      · have h := hA c
        refine jr_aload_n dX8_restore_24 rfl ?_
        refine js_callV (st := []) [] jc_RX8_76 rfl dX8_restore_25 ga_0 rfl rfl rfl rfl (kk := ?_)
        exact h
      · have h := hB c
        refine jr_bipush (-5 : Int32) dX8_restore_21 (by decide) ?_
        exact js_iret hE rfl dX8_restore_23 rfl h
    · have h := hB c
      refine jr_bipush (-2 : Int32) dX8_restore_9 (by decide) ?_
      exact js_iret hE rfl dX8_restore_11 rfl h

set_option maxRecDepth 100000 in
set_option maxHeartbeats 4000000 in
theorem sX8_restore_28 {g : jm_G} {ad : Nat → Nat} {κ : jm_K} {P : Option Value → (Nat → Nat → Int32) → Prop} (hE : jE g ad m_X8_restore P κ) {μ : Nat → Nat → Int32}  (x1 : Int32)
    (h : vp_in x1 2 ∧
    jD g ad m_X3_become [.ref 1, .ref (76 + 3 * x1.toNatClampNeg)] μ (fun v μ' => jS g ad m_X8_restore κ 41 [some (.ref 0), none] (jm_ps v []) μ')) :
    jS g ad m_X8_restore κ 28 [some (.ref 0), some (.int x1)] [] μ := by
  refine jr_aload_n dX8_restore_28 rfl ?_
  refine jr_get 8 0 jf_RX8_12 dX8_restore_29 ga_0 rfl (.ref 1) rfl ?_
  refine jr_aload_n dX8_restore_32 rfl ?_
  refine jr_get 8 2 jf_RX8_23 dX8_restore_33 ga_0 rfl (.ref 24) rfl ?_
  refine jr_iload_n dX8_restore_36 rfl ?_
  obtain ⟨o1, h⟩ := h
  refine jr_aald dX8_restore_37 ga_24 (by decide) o1 (76 + 3 * x1.toNatClampNeg) (if_pos (jm_inlt o1)) ?_
  refine js_drop 1 [some (.ref 0), none] rfl ?_
  refine js_callV (st := []) [.ref (76 + 3 * x1.toNatClampNeg)] jc_RX8_205 rfl dX8_restore_38 jm_heard1.1 rfl rfl rfl rfl (kk := ?_)
  exact h

set_option maxRecDepth 100000 in
set_option maxHeartbeats 4000000 in
theorem sX8_restore_41 {g : jm_G} {ad : Nat → Nat} {κ : jm_K} {P : Option Value → (Nat → Nat → Int32) → Prop} (hE : jE g ad m_X8_restore P κ) {μ : Nat → Nat → Int32}  
    (h : P (some (.int (μ 1 2))) μ) :
    jS g ad m_X8_restore κ 41 [some (.ref 0), none] [] μ := by
  refine jr_aload_n dX8_restore_41 rfl ?_
  refine jr_get 8 0 jf_RX8_12 dX8_restore_42 ga_0 rfl (.ref 1) rfl ?_
  refine jr_get 3 2 jf_RX8_111 dX8_restore_45 jm_heard1.1 rfl (.int (μ 1 2)) rfl ?_
  exact js_iret hE rfl dX8_restore_48 rfl h

set_option maxRecDepth 100000 in
set_option maxHeartbeats 4000000 in
theorem sX8_beginChange_0 {g : jm_G} {ad : Nat → Nat} {κ : jm_K} {P : Option Value → (Nat → Nat → Int32) → Prop} (hE : jE g ad m_X8_beginChange P κ) {μ : Nat → Nat → Int32}  
    (h : jD g ad m_X4_record [.ref 4, .ref 1] μ (fun v μ' => jS g ad m_X8_beginChange κ 11 [some (.ref 0)] (jm_ps v []) μ')) :
    jS g ad m_X8_beginChange κ 0 [some (.ref 0)] [] μ := by
  refine jr_aload_n dX8_beginChange_0 rfl ?_
  refine jr_get 8 1 jf_RX8_19 dX8_beginChange_1 ga_0 rfl (.ref 4) rfl ?_
  refine jr_aload_n dX8_beginChange_4 rfl ?_
  refine jr_get 8 0 jf_RX8_12 dX8_beginChange_5 ga_0 rfl (.ref 1) rfl ?_
  refine js_callV (st := []) [.ref 1] jc_RX8_208 rfl dX8_beginChange_8 ga_4 rfl rfl rfl rfl (kk := ?_)
  exact h

set_option maxRecDepth 100000 in
set_option maxHeartbeats 4000000 in
theorem sX8_beginChange_11 {g : jm_G} {ad : Nat → Nat} {κ : jm_K} {P : Option Value → (Nat → Nat → Int32) → Prop} (hE : jE g ad m_X8_beginChange P κ) {μ : Nat → Nat → Int32}  
    (h : (∀ μ1 : Nat → Nat → Int32, μ1 = jm_st μ 0 9 (1 : Int32) →
    P none μ1)) :
    jS g ad m_X8_beginChange κ 11 [some (.ref 0)] [] μ := by
  refine jr_aload_n dX8_beginChange_11 rfl ?_
  refine jr_iconst (1 : Int32) dX8_beginChange_12 (by decide) ?_
  refine jr_put 8 9 jf_RX8_62 dX8_beginChange_13 ga_0 rfl rfl rfl ?_
  obtain ⟨μ1, e1⟩ : ∃ x : Nat → Nat → Int32, x = jm_st μ 0 9 (1 : Int32) := ⟨_, rfl⟩
  have h := h μ1 e1
  refine js_mem e1 ?_
  exact js_vret hE rfl dX8_beginChange_16 rfl h

set_option maxRecDepth 100000 in
set_option maxHeartbeats 4000000 in
theorem sX8_current_0 {g : jm_G} {ad : Nat → Nat} {κ : jm_K} {P : Option Value → (Nat → Nat → Int32) → Prop} (hE : jE g ad m_X8_current P κ) {μ : Nat → Nat → Int32}  
    (h : jD g ad m_X2_tune [.ref 29, .int (μ 2 0)] μ (fun v μ' => jS g ad m_X8_current κ 16 [some (.ref 0)] (jm_ps v []) μ')) :
    jS g ad m_X8_current κ 0 [some (.ref 0)] [] μ := by
  refine jr_aload_n dX8_current_0 rfl ?_
  refine jr_get 8 5 jf_RX8_41 dX8_current_1 ga_0 rfl (.ref 29) rfl ?_
  refine jr_aload_n dX8_current_4 rfl ?_
  refine jr_get 8 0 jf_RX8_12 dX8_current_5 ga_0 rfl (.ref 1) rfl ?_
  refine jr_get 3 0 jf_RX8_73 dX8_current_8 jm_heard1.1 rfl (.ref 2) rfl ?_
  refine jr_iconst (0 : Int32) dX8_current_11 (by decide) ?_
  refine jr_ialdn 0 dX8_current_12 ga_2 (jm_inD (by decide)) rfl ?_
  refine js_callV (st := []) [.int (μ 2 0)] jc_RX8_100 rfl dX8_current_13 ga_29 rfl rfl rfl rfl (kk := ?_)
  exact h

set_option maxRecDepth 100000 in
set_option maxHeartbeats 4000000 in
theorem sX8_current_16 {g : jm_G} {ad : Nat → Nat} {κ : jm_K} {P : Option Value → (Nat → Nat → Int32) → Prop} (hE : jE g ad m_X8_current P κ) {μ : Nat → Nat → Int32}  
    (h : (((μ 0 9) = 0 →
    P (some (.ref 38)) μ) ∧
    (¬ (μ 0 9) = 0 →
    jD g ad m_X0_find [.ref 32, .ref 29, .ref 1, .int (-1 : Int32), .ref 38] μ (fun v μ' => jS g ad m_X8_current κ 43 [some (.ref 0)] (jm_ps v []) μ')))) :
    jS g ad m_X8_current κ 16 [some (.ref 0)] [] μ := by
  refine jr_aload_n dX8_current_16 rfl ?_
  refine jr_get 8 9 jf_RX8_62 dX8_current_17 ga_0 rfl (.int (μ 0 9)) rfl ?_
  obtain ⟨hA, hB⟩ := h
  refine jr_if_eq 48 dX8_current_20 rfl (fun c => ?_) (fun c => ?_)
  · have h := hA c
    refine jr_aload_n dX8_current_48 rfl ?_
    refine jr_get 8 7 jf_RX8_55 dX8_current_49 ga_0 rfl (.ref 38) rfl ?_
    exact js_aret hE rfl (Or.inl ⟨_, rfl⟩) dX8_current_52 rfl h
  · have h := hB c
    refine jr_aload_n dX8_current_23 rfl ?_
    refine jr_get 8 6 jf_RX8_48 dX8_current_24 ga_0 rfl (.ref 32) rfl ?_
    refine jr_aload_n dX8_current_27 rfl ?_
    refine jr_get 8 5 jf_RX8_41 dX8_current_28 ga_0 rfl (.ref 29) rfl ?_
    refine jr_aload_n dX8_current_31 rfl ?_
    refine jr_get 8 0 jf_RX8_12 dX8_current_32 ga_0 rfl (.ref 1) rfl ?_
    refine jr_iconst (-1 : Int32) dX8_current_35 (by decide) ?_
    refine jr_aload_n dX8_current_36 rfl ?_
    refine jr_get 8 7 jf_RX8_55 dX8_current_37 ga_0 rfl (.ref 38) rfl ?_
    refine js_callV (st := []) [.ref 29, .ref 1, .int (-1 : Int32), .ref 38] jc_RX8_211 rfl dX8_current_40 ga_32 rfl rfl rfl rfl (kk := ?_)
    exact h

set_option maxRecDepth 100000 in
set_option maxHeartbeats 4000000 in
theorem sX8_current_43 {g : jm_G} {ad : Nat → Nat} {κ : jm_K} {P : Option Value → (Nat → Nat → Int32) → Prop} (hE : jE g ad m_X8_current P κ) {μ : Nat → Nat → Int32}  
    (h : (∀ μ1 : Nat → Nat → Int32, μ1 = jm_st μ 0 9 (0 : Int32) →
    P (some (.ref 38)) μ1)) :
    jS g ad m_X8_current κ 43 [some (.ref 0)] [] μ := by
  refine jr_aload_n dX8_current_43 rfl ?_
  refine jr_iconst (0 : Int32) dX8_current_44 (by decide) ?_
  refine jr_put 8 9 jf_RX8_62 dX8_current_45 ga_0 rfl rfl rfl ?_
  obtain ⟨μ1, e1⟩ : ∃ x : Nat → Nat → Int32, x = jm_st μ 0 9 (0 : Int32) := ⟨_, rfl⟩
  have h := h μ1 e1
  refine js_mem e1 ?_
  refine jr_aload_n dX8_current_48 rfl ?_
  refine jr_get 8 7 jf_RX8_55 dX8_current_49 ga_0 rfl (.ref 38) rfl ?_
  exact js_aret hE rfl (Or.inl ⟨_, rfl⟩) dX8_current_52 rfl h

set_option maxRecDepth 100000 in
set_option maxHeartbeats 4000000 in
theorem sX8_tryOut_0 {g : jm_G} {ad : Nat → Nat} {κ : jm_K} {P : Option Value → (Nat → Nat → Int32) → Prop} (hE : jE g ad m_X8_tryOut P κ) {μ : Nat → Nat → Int32}  (p1 : Int32) (p2 : Int32)
    (h : jD g ad m_X2_tune [.ref 29, .int p1] μ (fun v μ' => jS g ad m_X8_tryOut κ 8 [some (.ref 0), none, some (.int p2)] (jm_ps v []) μ')) :
    jS g ad m_X8_tryOut κ 0 [some (.ref 0), some (.int p1), some (.int p2)] [] μ := by
  refine jr_aload_n dX8_tryOut_0 rfl ?_
  refine jr_get 8 5 jf_RX8_41 dX8_tryOut_1 ga_0 rfl (.ref 29) rfl ?_
  refine jr_iload_n dX8_tryOut_4 rfl ?_
  refine js_drop 1 [some (.ref 0), none, some (.int p2)] rfl ?_
  refine js_callV (st := []) [.int p1] jc_RX8_100 rfl dX8_tryOut_5 ga_29 rfl rfl rfl rfl (kk := ?_)
  exact h

set_option maxRecDepth 100000 in
set_option maxHeartbeats 4000000 in
theorem sX8_tryOut_8 {g : jm_G} {ad : Nat → Nat} {κ : jm_K} {P : Option Value → (Nat → Nat → Int32) → Prop} (hE : jE g ad m_X8_tryOut P κ) {μ : Nat → Nat → Int32}  (x2 : Int32)
    (h : jD g ad m_X0_find [.ref 32, .ref 29, .ref 1, .int x2, .ref 57] μ (fun v μ' => jS g ad m_X8_tryOut κ 28 [none, none, none] (jm_ps v []) μ')) :
    jS g ad m_X8_tryOut κ 8 [some (.ref 0), none, some (.int x2)] [] μ := by
  refine jr_aload_n dX8_tryOut_8 rfl ?_
  refine jr_get 8 6 jf_RX8_48 dX8_tryOut_9 ga_0 rfl (.ref 32) rfl ?_
  refine jr_aload_n dX8_tryOut_12 rfl ?_
  refine jr_get 8 5 jf_RX8_41 dX8_tryOut_13 ga_0 rfl (.ref 29) rfl ?_
  refine jr_aload_n dX8_tryOut_16 rfl ?_
  refine jr_get 8 0 jf_RX8_12 dX8_tryOut_17 ga_0 rfl (.ref 1) rfl ?_
  refine jr_iload_n dX8_tryOut_20 rfl ?_
  refine jr_aload_n dX8_tryOut_21 rfl ?_
  refine jr_get 8 8 jf_RX8_59 dX8_tryOut_22 ga_0 rfl (.ref 57) rfl ?_
  refine js_drop 0 [none, none, some (.int x2)] rfl ?_
  refine js_drop 2 [none, none, none] rfl ?_
  refine js_callV (st := []) [.ref 29, .ref 1, .int x2, .ref 57] jc_RX8_211 rfl dX8_tryOut_25 ga_32 rfl rfl rfl rfl (kk := ?_)
  exact h

set_option maxRecDepth 100000 in
set_option maxHeartbeats 4000000 in
theorem sX8_tryOut_28 {g : jm_G} {ad : Nat → Nat} {κ : jm_K} {P : Option Value → (Nat → Nat → Int32) → Prop} (hE : jE g ad m_X8_tryOut P κ) {μ : Nat → Nat → Int32}  
    (h : P none μ) :
    jS g ad m_X8_tryOut κ 28 [none, none, none] [] μ := by
  exact js_vret hE rfl dX8_tryOut_28 rfl h

set_option maxRecDepth 100000 in
set_option maxHeartbeats 4000000 in
theorem sX8_isEar_0 {g : jm_G} {ad : Nat → Nat} {κ : jm_K} {P : Option Value → (Nat → Nat → Int32) → Prop} (hE : jE g ad m_X8_isEar P κ) {μ : Nat → Nat → Int32}  (p1 : Int32)
    (h : ((p1 < 0 →
    P (some (.int (0 : Int32))) μ) ∧
    (¬ p1 < 0 →
    (((4 : Int32) ≤ p1 →
    P (some (.int (0 : Int32))) μ) ∧
    (¬ (4 : Int32) ≤ p1 →
    P (some (.int (1 : Int32))) μ))))) :
    jS g ad m_X8_isEar κ 0 [some (.int p1)] [] μ := by
  refine jr_iload_n dX8_isEar_0 rfl ?_
  obtain ⟨hA, hB⟩ := h
  refine jr_if_lt 13 dX8_isEar_1 rfl (fun c => ?_) (fun c => ?_)
  · have h := hA c
    refine jr_iconst (0 : Int32) dX8_isEar_13 (by decide) ?_
    exact js_zret hE rfl dX8_isEar_14 rfl (by decide) h
  · have h := hB c
    refine jr_iload_n dX8_isEar_4 rfl ?_
    refine jr_iconst (4 : Int32) dX8_isEar_5 (by decide) ?_
    obtain ⟨hA, hB⟩ := h
    refine jr_icmp_ge 13 dX8_isEar_6 rfl (fun c => ?_) (fun c => ?_)
    · have h := hA c
      refine jr_iconst (0 : Int32) dX8_isEar_13 (by decide) ?_
      exact js_zret hE rfl dX8_isEar_14 rfl (by decide) h
    · have h := hB c
      refine jr_iconst (1 : Int32) dX8_isEar_9 (by decide) ?_
      refine jr_goto 14 dX8_isEar_10 rfl ?_
      exact js_zret hE rfl dX8_isEar_14 rfl (by decide) h

set_option maxRecDepth 100000 in
set_option maxHeartbeats 4000000 in
theorem sX8_isPoint_0 {g : jm_G} {ad : Nat → Nat} {κ : jm_K} {P : Option Value → (Nat → Nat → Int32) → Prop} (hE : jE g ad m_X8_isPoint P κ) {μ : Nat → Nat → Int32}  (p1 : Int32) (p2 : Int32)
    (h : ((p1 < 0 →
    P (some (.int (0 : Int32))) μ) ∧
    (¬ p1 < 0 →
    (((40 : Int32) < p1 →
    P (some (.int (0 : Int32))) μ) ∧
    (¬ (40 : Int32) < p1 →
    ((p2 < 0 →
    P (some (.int (0 : Int32))) μ) ∧
    (¬ p2 < 0 →
    (((40 : Int32) < p2 →
    P (some (.int (0 : Int32))) μ) ∧
    (¬ (40 : Int32) < p2 →
    P (some (.int (1 : Int32))) μ))))))))) :
    jS g ad m_X8_isPoint κ 0 [some (.int p1), some (.int p2)] [] μ := by
  refine jr_iload_n dX8_isPoint_0 rfl ?_
  obtain ⟨hA, hB⟩ := h
  refine jr_if_lt 24 dX8_isPoint_1 rfl (fun c => ?_) (fun c => ?_)
  · have h := hA c
    refine jr_iconst (0 : Int32) dX8_isPoint_24 (by decide) ?_
    exact js_zret hE rfl dX8_isPoint_25 rfl (by decide) h
  · have h := hB c
    refine jr_iload_n dX8_isPoint_4 rfl ?_
    refine jr_bipush (40 : Int32) dX8_isPoint_5 (by decide) ?_
    obtain ⟨hA, hB⟩ := h
    refine jr_icmp_gt 24 dX8_isPoint_7 rfl (fun c => ?_) (fun c => ?_)
    · have h := hA c
      refine jr_iconst (0 : Int32) dX8_isPoint_24 (by decide) ?_
      exact js_zret hE rfl dX8_isPoint_25 rfl (by decide) h
    · have h := hB c
      refine jr_iload_n dX8_isPoint_10 rfl ?_
      obtain ⟨hA, hB⟩ := h
      refine jr_if_lt 24 dX8_isPoint_11 rfl (fun c => ?_) (fun c => ?_)
      · have h := hA c
        refine jr_iconst (0 : Int32) dX8_isPoint_24 (by decide) ?_
        exact js_zret hE rfl dX8_isPoint_25 rfl (by decide) h
      · have h := hB c
        refine jr_iload_n dX8_isPoint_14 rfl ?_
        refine jr_bipush (40 : Int32) dX8_isPoint_15 (by decide) ?_
        obtain ⟨hA, hB⟩ := h
        refine jr_icmp_gt 24 dX8_isPoint_17 rfl (fun c => ?_) (fun c => ?_)
        · have h := hA c
          refine jr_iconst (0 : Int32) dX8_isPoint_24 (by decide) ?_
          exact js_zret hE rfl dX8_isPoint_25 rfl (by decide) h
        · have h := hB c
          refine jr_iconst (1 : Int32) dX8_isPoint_20 (by decide) ?_
          refine jr_goto 25 dX8_isPoint_21 rfl ?_
          exact js_zret hE rfl dX8_isPoint_25 rfl (by decide) h

set_option maxRecDepth 100000 in
set_option maxHeartbeats 4000000 in
theorem sX8_markOf_0 {g : jm_G} {ad : Nat → Nat} {κ : jm_K} {P : Option Value → (Nat → Nat → Int32) → Prop} (hE : jE g ad m_X8_markOf P κ) {μ : Nat → Nat → Int32}  (p1 : Int32) (p2 : Int32)
    (h : P (some (.int ((p2 * (4 : Int32)) + p1))) μ) :
    jS g ad m_X8_markOf κ 0 [some (.int p1), some (.int p2)] [] μ := by
  refine jr_iload_n dX8_markOf_0 rfl ?_
  refine jr_iconst (4 : Int32) dX8_markOf_1 (by decide) ?_
  refine jr_imul dX8_markOf_2 ?_
  refine jr_iload_n dX8_markOf_3 rfl ?_
  refine jr_iadd dX8_markOf_4 ?_
  exact js_iret hE rfl dX8_markOf_5 rfl h

end
