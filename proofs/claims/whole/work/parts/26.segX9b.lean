section
set_option maxRecDepth 100000 in
set_option maxHeartbeats 4000000 in
theorem sX9_ringOf_0 {g : jm_G} {ad : Nat → Nat} {κ : jm_K} {P : Option Value → (Nat → Nat → Int32) → Prop} (hE : jE g ad m_X9_ringOf P κ) {μ : Nat → Nat → Int32}  (p1 : Int32)
    (h : vp_in p1 8 ∧
    vp_in p1 8 ∧
    jD g ad m_X9_distance [.ref 82, .int ((μ 92 p1.toNatClampNeg) - (μ 92 p1.toNatClampNeg) / (41 : Int32) * (41 : Int32)), .int ((μ 92 p1.toNatClampNeg) / (41 : Int32)), .int (20 : Int32), .int (20 : Int32)] μ (fun v μ' => jS g ad m_X9_ringOf κ 28 [none, none, none] (jm_ps v [.int (10 : Int32)]) μ')) :
    jS g ad m_X9_ringOf κ 0 [some (.ref 82), some (.int p1), none] [] μ := by
  refine jr_bipush (10 : Int32) dX9_ringOf_0 (by decide) ?_
  refine jr_aload_n dX9_ringOf_2 rfl ?_
  refine jr_aload_n dX9_ringOf_3 rfl ?_
  refine jr_get 9 13 jf_RX9_37 dX9_ringOf_4 ga_82 rfl (.ref 92) rfl ?_
  refine jr_iload_n dX9_ringOf_7 rfl ?_
  obtain ⟨o1, h⟩ := h
  refine jr_ialdn _ dX9_ringOf_8 ga_92 o1 rfl ?_
  refine jr_bipush (41 : Int32) dX9_ringOf_9 (by decide) ?_
  refine jr_irem dX9_ringOf_11 (by decide) ?_
  refine jr_aload_n dX9_ringOf_12 rfl ?_
  refine jr_get 9 13 jf_RX9_37 dX9_ringOf_13 ga_82 rfl (.ref 92) rfl ?_
  refine jr_iload_n dX9_ringOf_16 rfl ?_
  obtain ⟨o2, h⟩ := h
  refine jr_ialdn _ dX9_ringOf_17 ga_92 o2 rfl ?_
  refine jr_bipush (41 : Int32) dX9_ringOf_18 (by decide) ?_
  refine jr_idiv dX9_ringOf_20 (by decide) ?_
  refine jr_bipush (20 : Int32) dX9_ringOf_21 (by decide) ?_
  refine jr_bipush (20 : Int32) dX9_ringOf_23 (by decide) ?_
  refine js_drop 0 [none, some (.int p1), none] rfl ?_
  refine js_drop 1 [none, none, none] rfl ?_
  refine js_callV (st := [.int (10 : Int32)]) [.int ((μ 92 p1.toNatClampNeg) - (μ 92 p1.toNatClampNeg) / (41 : Int32) * (41 : Int32)), .int ((μ 92 p1.toNatClampNeg) / (41 : Int32)), .int (20 : Int32), .int (20 : Int32)] jc_RX9_77 rfl dX9_ringOf_25 ga_82 rfl rfl rfl rfl (kk := ?_)
  exact h

set_option maxRecDepth 100000 in
set_option maxHeartbeats 4000000 in
theorem sX9_ringOf_28 {g : jm_G} {ad : Nat → Nat} {κ : jm_K} {P : Option Value → (Nat → Nat → Int32) → Prop} (hE : jE g ad m_X9_ringOf P κ) {μ : Nat → Nat → Int32}  (r : Int32) (y1 : Int32)
    (h : ((0 ≤ (y1 - (r / (200 : Int32))) →
    P (some (.int (y1 - (r / (200 : Int32))))) μ) ∧
    (¬ 0 ≤ (y1 - (r / (200 : Int32))) →
    P (some (.int (0 : Int32))) μ))) :
    jS g ad m_X9_ringOf κ 28 [none, none, none] [.int r, .int y1] μ := by
  refine jr_sipush (200 : Int32) dX9_ringOf_28 (by decide) ?_
  refine jr_idiv dX9_ringOf_31 (by decide) ?_
  refine jr_isub dX9_ringOf_32 ?_
  refine jr_istore_n [none, none, some (.int (y1 - (r / (200 : Int32))))] dX9_ringOf_33 rfl rfl rfl ?_
  refine jr_iload_n dX9_ringOf_34 rfl ?_
  obtain ⟨hA, hB⟩ := h
  refine jr_if_ge 42 dX9_ringOf_35 rfl (fun c => ?_) (fun c => ?_)
  · have h := hA c
    refine jr_iload_n dX9_ringOf_42 rfl ?_
    exact js_iret hE rfl dX9_ringOf_43 rfl h
  · have h := hB c
    refine jr_iconst (0 : Int32) dX9_ringOf_38 (by decide) ?_
    refine jr_goto 43 dX9_ringOf_39 rfl ?_
    exact js_iret hE rfl dX9_ringOf_43 rfl h

set_option maxRecDepth 100000 in
set_option maxHeartbeats 4000000 in
theorem sX9_sumOfRings_0 {g : jm_G} {ad : Nat → Nat} {κ : jm_K} {P : Option Value → (Nat → Nat → Int32) → Prop} (hE : jE g ad m_X9_sumOfRings P κ) {μ : Nat → Nat → Int32}  
    (h : jS g ad m_X9_sumOfRings κ 4 [some (.ref 82), some (.int (0 : Int32)), some (.int (0 : Int32))] [] μ) :
    jS g ad m_X9_sumOfRings κ 0 [some (.ref 82), none, none] [] μ := by
  refine jr_iconst (0 : Int32) dX9_sumOfRings_0 (by decide) ?_
  refine jr_istore_n [some (.ref 82), some (.int (0 : Int32)), none] dX9_sumOfRings_1 rfl rfl rfl ?_
  refine jr_iconst (0 : Int32) dX9_sumOfRings_2 (by decide) ?_
  refine jr_istore_n [some (.ref 82), some (.int (0 : Int32)), some (.int (0 : Int32))] dX9_sumOfRings_3 rfl rfl rfl ?_
  exact h

set_option maxRecDepth 100000 in
set_option maxHeartbeats 4000000 in
theorem sX9_sumOfRings_4 {g : jm_G} {ad : Nat → Nat} {κ : jm_K} {P : Option Value → (Nat → Nat → Int32) → Prop} (hE : jE g ad m_X9_sumOfRings P κ) {μ : Nat → Nat → Int32}  (x1 : Int32) (x2 : Int32)
    (h : (((μ 82 11) ≤ x2 →
    P (some (.int x1)) μ) ∧
    (¬ (μ 82 11) ≤ x2 →
    jD g ad m_X9_ringOf [.ref 82, .int x2] μ (fun v μ' => jS g ad m_X9_sumOfRings κ 18 [some (.ref 82), none, some (.int x2)] (jm_ps v [.int x1]) μ')))) :
    jS g ad m_X9_sumOfRings κ 4 [some (.ref 82), some (.int x1), some (.int x2)] [] μ := by
  refine jr_iload_n dX9_sumOfRings_4 rfl ?_
  refine jr_aload_n dX9_sumOfRings_5 rfl ?_
  refine jr_get 9 11 jf_RX9_121 dX9_sumOfRings_6 ga_82 rfl (.int (μ 82 11)) rfl ?_
  obtain ⟨hA, hB⟩ := h
  refine jr_icmp_ge 26 dX9_sumOfRings_9 rfl (fun c => ?_) (fun c => ?_)
  · have h := hA c
    refine jr_iload_n dX9_sumOfRings_26 rfl ?_
    exact js_iret hE rfl dX9_sumOfRings_27 rfl h
  · have h := hB c
    refine jr_iload_n dX9_sumOfRings_12 rfl ?_
    refine jr_aload_n dX9_sumOfRings_13 rfl ?_
    refine jr_iload_n dX9_sumOfRings_14 rfl ?_
    refine js_drop 1 [some (.ref 82), none, some (.int x2)] rfl ?_
    refine js_callV (st := [.int x1]) [.int x2] jc_RX9_146 rfl dX9_sumOfRings_15 ga_82 rfl rfl rfl rfl (kk := ?_)
    exact h

set_option maxRecDepth 100000 in
set_option maxHeartbeats 4000000 in
theorem sX9_sumOfRings_18 {g : jm_G} {ad : Nat → Nat} {κ : jm_K} {P : Option Value → (Nat → Nat → Int32) → Prop} (hE : jE g ad m_X9_sumOfRings P κ) {μ : Nat → Nat → Int32}  (x2 : Int32) (r : Int32) (y1 : Int32)
    (h : jS g ad m_X9_sumOfRings κ 4 [some (.ref 82), some (.int (y1 + r)), some (.int (x2 + 1))] [] μ) :
    jS g ad m_X9_sumOfRings κ 18 [some (.ref 82), none, some (.int x2)] [.int r, .int y1] μ := by
  refine jr_iadd dX9_sumOfRings_18 ?_
  refine jr_istore_n [some (.ref 82), some (.int (y1 + r)), some (.int x2)] dX9_sumOfRings_19 rfl rfl rfl ?_
  refine jr_iinc [some (.ref 82), some (.int (y1 + r)), some (.int (x2 + 1))] dX9_sumOfRings_20 rfl rfl rfl rfl rfl ?_
  refine jr_goto 4 dX9_sumOfRings_23 rfl ?_
  exact h

set_option maxRecDepth 100000 in
set_option maxHeartbeats 4000000 in
theorem sX9_sumOfSpreads_0 {g : jm_G} {ad : Nat → Nat} {κ : jm_K} {P : Option Value → (Nat → Nat → Int32) → Prop} (hE : jE g ad m_X9_sumOfSpreads P κ) {μ : Nat → Nat → Int32}  
    (h : jS g ad m_X9_sumOfSpreads κ 4 [some (.ref 82), some (.int (0 : Int32)), some (.int (0 : Int32))] [] μ) :
    jS g ad m_X9_sumOfSpreads κ 0 [some (.ref 82), none, none] [] μ := by
  refine jr_iconst (0 : Int32) dX9_sumOfSpreads_0 (by decide) ?_
  refine jr_istore_n [some (.ref 82), some (.int (0 : Int32)), none] dX9_sumOfSpreads_1 rfl rfl rfl ?_
  refine jr_iconst (0 : Int32) dX9_sumOfSpreads_2 (by decide) ?_
  refine jr_istore_n [some (.ref 82), some (.int (0 : Int32)), some (.int (0 : Int32))] dX9_sumOfSpreads_3 rfl rfl rfl ?_
  exact h

set_option maxRecDepth 100000 in
set_option maxHeartbeats 4000000 in
theorem sX9_sumOfSpreads_4 {g : jm_G} {ad : Nat → Nat} {κ : jm_K} {P : Option Value → (Nat → Nat → Int32) → Prop} (hE : jE g ad m_X9_sumOfSpreads P κ) {μ : Nat → Nat → Int32}  (x1 : Int32) (x2 : Int32)
    (h : (((μ 82 11) ≤ x2 →
    P (some (.int x1)) μ) ∧
    (¬ (μ 82 11) ≤ x2 →
    vp_in x2 8 ∧
    jS g ad m_X9_sumOfSpreads κ 4 [some (.ref 82), some (.int (x1 + (μ 93 x2.toNatClampNeg))), some (.int (x2 + 1))] [] μ))) :
    jS g ad m_X9_sumOfSpreads κ 4 [some (.ref 82), some (.int x1), some (.int x2)] [] μ := by
  refine jr_iload_n dX9_sumOfSpreads_4 rfl ?_
  refine jr_aload_n dX9_sumOfSpreads_5 rfl ?_
  refine jr_get 9 11 jf_RX9_121 dX9_sumOfSpreads_6 ga_82 rfl (.int (μ 82 11)) rfl ?_
  obtain ⟨hA, hB⟩ := h
  refine jr_icmp_ge 27 dX9_sumOfSpreads_9 rfl (fun c => ?_) (fun c => ?_)
  · have h := hA c
    refine jr_iload_n dX9_sumOfSpreads_27 rfl ?_
    exact js_iret hE rfl dX9_sumOfSpreads_28 rfl h
  · have h := hB c
    refine jr_iload_n dX9_sumOfSpreads_12 rfl ?_
    refine jr_aload_n dX9_sumOfSpreads_13 rfl ?_
    refine jr_get 9 14 jf_RX9_40 dX9_sumOfSpreads_14 ga_82 rfl (.ref 93) rfl ?_
    refine jr_iload_n dX9_sumOfSpreads_17 rfl ?_
    obtain ⟨o1, h⟩ := h
    refine jr_ialdn _ dX9_sumOfSpreads_18 ga_93 o1 rfl ?_
    refine jr_iadd dX9_sumOfSpreads_19 ?_
    refine jr_istore_n [some (.ref 82), some (.int (x1 + (μ 93 x2.toNatClampNeg))), some (.int x2)] dX9_sumOfSpreads_20 rfl rfl rfl ?_
    refine jr_iinc [some (.ref 82), some (.int (x1 + (μ 93 x2.toNatClampNeg))), some (.int (x2 + 1))] dX9_sumOfSpreads_21 rfl rfl rfl rfl rfl ?_
    refine jr_goto 4 dX9_sumOfSpreads_24 rfl ?_
    exact h

set_option maxRecDepth 100000 in
set_option maxHeartbeats 4000000 in
theorem sX9_isValue_0 {g : jm_G} {ad : Nat → Nat} {κ : jm_K} {P : Option Value → (Nat → Nat → Int32) → Prop} (hE : jE g ad m_X9_isValue P κ) {μ : Nat → Nat → Int32}  (p1 : Int32) (p2 : Int32)
    (h : ((¬ p1 = 0 →
    ((¬ p1 = (1 : Int32) →
    ((¬ p1 = (2 : Int32) →
    P (some (.int (0 : Int32))) μ) ∧
    (p1 = (2 : Int32) →
    jD g ad m_X9_within [.int p2, .int (0 : Int32), .int (300 : Int32)] μ (fun v μ' => jS g ad m_X9_isValue κ 45 [none, none] (jm_ps v []) μ')))) ∧
    (p1 = (1 : Int32) →
    jD g ad m_X9_within [.int p2, .int (100 : Int32), .int (4000 : Int32)] μ (fun v μ' => jS g ad m_X9_isValue κ 29 [none, none] (jm_ps v []) μ')))) ∧
    (p1 = 0 →
    jD g ad m_X9_within [.int p2, .int (-30 : Int32), .int (50 : Int32)] μ (fun v μ' => jS g ad m_X9_isValue κ 12 [none, none] (jm_ps v []) μ')))) :
    jS g ad m_X9_isValue κ 0 [some (.int p1), some (.int p2)] [] μ := by
  refine jr_iload_n dX9_isValue_0 rfl ?_
  obtain ⟨hA, hB⟩ := h
  refine jr_if_ne 15 dX9_isValue_1 rfl (fun c => ?_) (fun c => ?_)
  · have h := hA c
    refine jr_iload_n dX9_isValue_15 rfl ?_
    refine jr_iconst (1 : Int32) dX9_isValue_16 (by decide) ?_
    obtain ⟨hA, hB⟩ := h
    refine jr_icmp_ne 32 dX9_isValue_17 rfl (fun c => ?_) (fun c => ?_)
    · have h := hA c
      refine jr_iload_n dX9_isValue_32 rfl ?_
      refine jr_iconst (2 : Int32) dX9_isValue_33 (by decide) ?_
      obtain ⟨hA, hB⟩ := h
      refine jr_icmp_ne 52 dX9_isValue_34 rfl (fun c => ?_) (fun c => ?_)
      · have h := hA c
        refine jr_iconst (0 : Int32) dX9_isValue_52 (by decide) ?_
        exact js_zret hE rfl dX9_isValue_53 rfl (by decide) h
      · have h := hB c
        refine jr_iload_n dX9_isValue_37 rfl ?_
        refine jr_iconst (0 : Int32) dX9_isValue_38 (by decide) ?_
        refine jr_sipush (300 : Int32) dX9_isValue_39 (by decide) ?_
        refine js_drop 0 [none, some (.int p2)] rfl ?_
        refine js_drop 1 [none, none] rfl ?_
        refine js_callS (st := []) [.int p2, .int (0 : Int32), .int (300 : Int32)] jc_RX9_70 rfl dX9_isValue_42 rfl rfl rfl (kk := ?_)
        exact h
    · have h := hB c
      refine jr_iload_n dX9_isValue_20 rfl ?_
      refine jr_bipush (100 : Int32) dX9_isValue_21 (by decide) ?_
      refine jr_sipush (4000 : Int32) dX9_isValue_23 (by decide) ?_
      refine js_drop 0 [none, some (.int p2)] rfl ?_
      refine js_drop 1 [none, none] rfl ?_
      refine js_callS (st := []) [.int p2, .int (100 : Int32), .int (4000 : Int32)] jc_RX9_70 rfl dX9_isValue_26 rfl rfl rfl (kk := ?_)
      exact h
  · have h := hB c
    refine jr_iload_n dX9_isValue_4 rfl ?_
    refine jr_bipush (-30 : Int32) dX9_isValue_5 (by decide) ?_
    refine jr_bipush (50 : Int32) dX9_isValue_7 (by decide) ?_
    refine js_drop 0 [none, some (.int p2)] rfl ?_
    refine js_drop 1 [none, none] rfl ?_
    refine js_callS (st := []) [.int p2, .int (-30 : Int32), .int (50 : Int32)] jc_RX9_70 rfl dX9_isValue_9 rfl rfl rfl (kk := ?_)
    exact h

set_option maxRecDepth 100000 in
set_option maxHeartbeats 4000000 in
theorem sX9_isValue_45 {g : jm_G} {ad : Nat → Nat} {κ : jm_K} {P : Option Value → (Nat → Nat → Int32) → Prop} (hE : jE g ad m_X9_isValue P κ) {μ : Nat → Nat → Int32}  (r : Int32)
    (h : ((r = 0 →
    P (some (.int (0 : Int32))) μ) ∧
    (¬ r = 0 →
    P (some (.int (1 : Int32))) μ))) :
    jS g ad m_X9_isValue κ 45 [none, none] [.int r] μ := by
  obtain ⟨hA, hB⟩ := h
  refine jr_if_eq 52 dX9_isValue_45 rfl (fun c => ?_) (fun c => ?_)
  · have h := hA c
    refine jr_iconst (0 : Int32) dX9_isValue_52 (by decide) ?_
    exact js_zret hE rfl dX9_isValue_53 rfl (by decide) h
  · have h := hB c
    refine jr_iconst (1 : Int32) dX9_isValue_48 (by decide) ?_
    refine jr_goto 53 dX9_isValue_49 rfl ?_
    exact js_zret hE rfl dX9_isValue_53 rfl (by decide) h

set_option maxRecDepth 100000 in
set_option maxHeartbeats 4000000 in
theorem sX9_isValue_29 {g : jm_G} {ad : Nat → Nat} {κ : jm_K} {P : Option Value → (Nat → Nat → Int32) → Prop} (hE : jE g ad m_X9_isValue P κ) {μ : Nat → Nat → Int32}  (r : Int32)
    (h : ((r = 0 ∨ r = 1) ∧ P (some (.int r)) μ)) :
    jS g ad m_X9_isValue κ 29 [none, none] [.int r] μ := by
  refine jr_goto 53 dX9_isValue_29 rfl ?_
  exact js_zret hE rfl dX9_isValue_53 rfl h.1 h.2

set_option maxRecDepth 100000 in
set_option maxHeartbeats 4000000 in
theorem sX9_isValue_12 {g : jm_G} {ad : Nat → Nat} {κ : jm_K} {P : Option Value → (Nat → Nat → Int32) → Prop} (hE : jE g ad m_X9_isValue P κ) {μ : Nat → Nat → Int32}  (r : Int32)
    (h : ((r = 0 ∨ r = 1) ∧ P (some (.int r)) μ)) :
    jS g ad m_X9_isValue κ 12 [none, none] [.int r] μ := by
  refine jr_goto 53 dX9_isValue_12 rfl ?_
  exact js_zret hE rfl dX9_isValue_53 rfl h.1 h.2

set_option maxRecDepth 100000 in
set_option maxHeartbeats 4000000 in
theorem sX9_set_0 {g : jm_G} {ad : Nat → Nat} {κ : jm_K} {P : Option Value → (Nat → Nat → Int32) → Prop} (hE : jE g ad m_X9_set P κ) {μ : Nat → Nat → Int32}  (p1 : Int32) (p2 : Int32)
    (h : jD g ad m_X9_isValue [.int p1, .int p2] μ (fun v μ' => jS g ad m_X9_set κ 5 [some (.ref 82), some (.int p1), some (.int p2), none] (jm_ps v []) μ')) :
    jS g ad m_X9_set κ 0 [some (.ref 82), some (.int p1), some (.int p2), none] [] μ := by
  refine jr_iload_n dX9_set_0 rfl ?_
  refine jr_iload_n dX9_set_1 rfl ?_
  refine js_callS (st := []) [.int p1, .int p2] jc_RX9_149 rfl dX9_set_2 rfl rfl rfl (kk := ?_)
  exact h

set_option maxRecDepth 100000 in
set_option maxHeartbeats 4000000 in
theorem sX9_set_5 {g : jm_G} {ad : Nat → Nat} {κ : jm_K} {P : Option Value → (Nat → Nat → Int32) → Prop} (hE : jE g ad m_X9_set P κ) {μ : Nat → Nat → Int32}  (x1 : Int32) (x2 : Int32) (r : Int32)
    (h : ((¬ r = 0 →
    jD g ad m_X9_record [.ref 82] μ (fun v μ' => jS g ad m_X9_set κ 15 [some (.ref 82), some (.int x1), some (.int x2), none] (jm_ps v []) μ')) ∧
    (r = 0 →
    P (some (.int (-2 : Int32))) μ))) :
    jS g ad m_X9_set κ 5 [some (.ref 82), some (.int x1), some (.int x2), none] [.int r] μ := by
  obtain ⟨hA, hB⟩ := h
  refine jr_if_ne 11 dX9_set_5 rfl (fun c => ?_) (fun c => ?_)
  · have h := hA c
    refine jr_aload_n dX9_set_11 rfl ?_
    refine js_callV (st := []) [] jc_RX9_153 rfl dX9_set_12 ga_82 rfl rfl rfl rfl (kk := ?_)
    exact h
  · have h := hB c
    refine jr_bipush (-2 : Int32) dX9_set_8 (by decide) ?_
    exact js_iret hE rfl dX9_set_10 rfl h

set_option maxRecDepth 100000 in
set_option maxHeartbeats 4000000 in
theorem sX9_set_15 {g : jm_G} {ad : Nat → Nat} {κ : jm_K} {P : Option Value → (Nat → Nat → Int32) → Prop} (hE : jE g ad m_X9_set P κ) {μ : Nat → Nat → Int32}  (x1 : Int32) (x2 : Int32)
    (h : vp_in x1 68 ∧
    vp_in x1 68 ∧
    (∀ μ3 : Nat → Nat → Int32, μ3 = jm_st μ 83 x1.toNatClampNeg x2 →
    P (some (.int ((μ 83 x1.toNatClampNeg) + (100 : Int32)))) μ3)) :
    jS g ad m_X9_set κ 15 [some (.ref 82), some (.int x1), some (.int x2), none] [] μ := by
  refine jr_aload_n dX9_set_15 rfl ?_
  refine jr_get 9 0 jf_RX9_7 dX9_set_16 ga_82 rfl (.ref 83) rfl ?_
  refine jr_iload_n dX9_set_19 rfl ?_
  obtain ⟨o1, h⟩ := h
  refine jr_ialdn _ dX9_set_20 ga_83 o1 rfl ?_
  refine jr_istore_n [some (.ref 82), some (.int x1), some (.int x2), some (.int (μ 83 x1.toNatClampNeg))] dX9_set_21 rfl rfl rfl ?_
  refine jr_aload_n dX9_set_22 rfl ?_
  refine jr_get 9 0 jf_RX9_7 dX9_set_23 ga_82 rfl (.ref 83) rfl ?_
  refine jr_iload_n dX9_set_26 rfl ?_
  refine jr_iload_n dX9_set_27 rfl ?_
  obtain ⟨o2, h⟩ := h
  refine jr_iastn _ dX9_set_28 ga_83 o2 rfl ?_
  obtain ⟨μ3, e3⟩ : ∃ x : Nat → Nat → Int32, x = jm_st μ 83 x1.toNatClampNeg x2 := ⟨_, rfl⟩
  have h := h μ3 e3
  refine js_mem e3 ?_
  refine jr_iload_n dX9_set_29 rfl ?_
  refine jr_bipush (100 : Int32) dX9_set_30 (by decide) ?_
  refine jr_iadd dX9_set_32 ?_
  exact js_iret hE rfl dX9_set_33 rfl h

set_option maxRecDepth 100000 in
set_option maxHeartbeats 4000000 in
theorem sX9_whyNotHeard_0 {g : jm_G} {ad : Nat → Nat} {κ : jm_K} {P : Option Value → (Nat → Nat → Int32) → Prop} (hE : jE g ad m_X9_whyNotHeard P κ) {μ : Nat → Nat → Int32}  (p1 : Int32) (p2 : Int32)
    (h : jD g ad m_X9_isEar [.int p1] μ (fun v μ' => jS g ad m_X9_whyNotHeard κ 4 [some (.ref 82), some (.int p1), some (.int p2)] (jm_ps v []) μ')) :
    jS g ad m_X9_whyNotHeard κ 0 [some (.ref 82), some (.int p1), some (.int p2)] [] μ := by
  refine jr_iload_n dX9_whyNotHeard_0 rfl ?_
  refine js_callS (st := []) [.int p1] jc_RX9_156 rfl dX9_whyNotHeard_1 rfl rfl rfl (kk := ?_)
  exact h

set_option maxRecDepth 100000 in
set_option maxHeartbeats 4000000 in
theorem sX9_whyNotHeard_4 {g : jm_G} {ad : Nat → Nat} {κ : jm_K} {P : Option Value → (Nat → Nat → Int32) → Prop} (hE : jE g ad m_X9_whyNotHeard P κ) {μ : Nat → Nat → Int32}  (x1 : Int32) (x2 : Int32) (r : Int32)
    (h : ((¬ r = 0 →
    jD g ad m_X9_within [.int x2, .int (0 : Int32), .int (99999 : Int32)] μ (fun v μ' => jS g ad m_X9_whyNotHeard κ 16 [some (.ref 82), some (.int x1), some (.int x2)] (jm_ps v []) μ')) ∧
    (r = 0 →
    P (some (.int (-1 : Int32))) μ))) :
    jS g ad m_X9_whyNotHeard κ 4 [some (.ref 82), some (.int x1), some (.int x2)] [.int r] μ := by
  obtain ⟨hA, hB⟩ := h
  refine jr_if_ne 9 dX9_whyNotHeard_4 rfl (fun c => ?_) (fun c => ?_)
  · have h := hA c
    refine jr_iload_n dX9_whyNotHeard_9 rfl ?_
    refine jr_iconst (0 : Int32) dX9_whyNotHeard_10 (by decide) ?_
    refine jr_ldc (99999 : Int32) dX9_whyNotHeard_11 jk_RX9_93 ?_
    refine js_callS (st := []) [.int x2, .int (0 : Int32), .int (99999 : Int32)] jc_RX9_70 rfl dX9_whyNotHeard_13 rfl rfl rfl (kk := ?_)
    exact h
  · have h := hB c
    refine jr_iconst (-1 : Int32) dX9_whyNotHeard_7 (by decide) ?_
    exact js_iret hE rfl dX9_whyNotHeard_8 rfl h

set_option maxRecDepth 100000 in
set_option maxHeartbeats 4000000 in
theorem sX9_whyNotHeard_16 {g : jm_G} {ad : Nat → Nat} {κ : jm_K} {P : Option Value → (Nat → Nat → Int32) → Prop} (hE : jE g ad m_X9_whyNotHeard P κ) {μ : Nat → Nat → Int32}  (x1 : Int32) (x2 : Int32) (r : Int32)
    (h : ((¬ r = 0 →
    jD g ad m_X9_isThere [.ref 82, .int x1, .int x2] μ (fun v μ' => jS g ad m_X9_whyNotHeard κ 28 [some (.ref 82), none, none] (jm_ps v []) μ')) ∧
    (r = 0 →
    P (some (.int (-2 : Int32))) μ))) :
    jS g ad m_X9_whyNotHeard κ 16 [some (.ref 82), some (.int x1), some (.int x2)] [.int r] μ := by
  obtain ⟨hA, hB⟩ := h
  refine jr_if_ne 22 dX9_whyNotHeard_16 rfl (fun c => ?_) (fun c => ?_)
  · have h := hA c
    refine jr_aload_n dX9_whyNotHeard_22 rfl ?_
    refine jr_iload_n dX9_whyNotHeard_23 rfl ?_
    refine jr_iload_n dX9_whyNotHeard_24 rfl ?_
    refine js_drop 1 [some (.ref 82), none, some (.int x2)] rfl ?_
    refine js_drop 2 [some (.ref 82), none, none] rfl ?_
    refine js_callV (st := []) [.int x1, .int x2] jc_RX9_159 rfl dX9_whyNotHeard_25 ga_82 rfl rfl rfl rfl (kk := ?_)
    exact h
  · have h := hB c
    refine jr_bipush (-2 : Int32) dX9_whyNotHeard_19 (by decide) ?_
    exact js_iret hE rfl dX9_whyNotHeard_21 rfl h

set_option maxRecDepth 100000 in
set_option maxHeartbeats 4000000 in
theorem sX9_whyNotHeard_28 {g : jm_G} {ad : Nat → Nat} {κ : jm_K} {P : Option Value → (Nat → Nat → Int32) → Prop} (hE : jE g ad m_X9_whyNotHeard P κ) {μ : Nat → Nat → Int32}  (r : Int32)
    (h : ((r = 0 →
    ((¬ (μ 83 3) = (32 : Int32) →
    P (some (.int (0 : Int32))) μ) ∧
    ((μ 83 3) = (32 : Int32) →
    P (some (.int (-4 : Int32))) μ))) ∧
    (¬ r = 0 →
    P (some (.int (-5 : Int32))) μ))) :
    jS g ad m_X9_whyNotHeard κ 28 [some (.ref 82), none, none] [.int r] μ := by
  obtain ⟨hA, hB⟩ := h
  refine jr_if_eq 36 dX9_whyNotHeard_28 rfl (fun c => ?_) (fun c => ?_)
  · have h := hA c
    refine jr_aload_n dX9_whyNotHeard_36 rfl ?_
    refine jr_get 9 0 jf_RX9_7 dX9_whyNotHeard_37 ga_82 rfl (.ref 83) rfl ?_
    refine jr_iconst (3 : Int32) dX9_whyNotHeard_40 (by decide) ?_
    refine jr_ialdn 3 dX9_whyNotHeard_41 ga_83 (jm_inD (by decide)) rfl ?_
    refine jr_bipush (32 : Int32) dX9_whyNotHeard_42 (by decide) ?_
    obtain ⟨hA, hB⟩ := h
    refine jr_icmp_ne 52 dX9_whyNotHeard_44 rfl (fun c => ?_) (fun c => ?_)
    · have h := hA c
      refine jr_iconst (0 : Int32) dX9_whyNotHeard_52 (by decide) ?_
      exact js_iret hE rfl dX9_whyNotHeard_53 rfl h
    · have h := hB c
      refine jr_bipush (-4 : Int32) dX9_whyNotHeard_47 (by decide) ?_
      refine jr_goto 53 dX9_whyNotHeard_49 rfl ?_
      exact js_iret hE rfl dX9_whyNotHeard_53 rfl h
  · have h := hB c
    refine jr_bipush (-5 : Int32) dX9_whyNotHeard_31 (by decide) ?_
    refine jr_goto 53 dX9_whyNotHeard_33 rfl ?_
    exact js_iret hE rfl dX9_whyNotHeard_53 rfl h

set_option maxRecDepth 100000 in
set_option maxHeartbeats 4000000 in
theorem sX9_hear_0 {g : jm_G} {ad : Nat → Nat} {κ : jm_K} {P : Option Value → (Nat → Nat → Int32) → Prop} (hE : jE g ad m_X9_hear P κ) {μ : Nat → Nat → Int32}  (p1 : Int32) (p2 : Int32)
    (h : jD g ad m_X9_whyNotHeard [.ref 82, .int p1, .int p2] μ (fun v μ' => jS g ad m_X9_hear κ 6 [some (.ref 82), some (.int p1), some (.int p2), none] (jm_ps v []) μ')) :
    jS g ad m_X9_hear κ 0 [some (.ref 82), some (.int p1), some (.int p2), none] [] μ := by
  refine jr_aload_n dX9_hear_0 rfl ?_
  refine jr_iload_n dX9_hear_1 rfl ?_
  refine jr_iload_n dX9_hear_2 rfl ?_
  refine js_callV (st := []) [.int p1, .int p2] jc_RX9_162 rfl dX9_hear_3 ga_82 rfl rfl rfl rfl (kk := ?_)
  exact h

set_option maxRecDepth 100000 in
set_option maxHeartbeats 4000000 in
theorem sX9_hear_6 {g : jm_G} {ad : Nat → Nat} {κ : jm_K} {P : Option Value → (Nat → Nat → Int32) → Prop} (hE : jE g ad m_X9_hear P κ) {μ : Nat → Nat → Int32}  (x1 : Int32) (x2 : Int32) (r : Int32)
    (h : ((0 ≤ r →
    jD g ad m_X9_record [.ref 82] μ (fun v μ' => jS g ad m_X9_hear κ 17 [some (.ref 82), some (.int x1), some (.int x2), none] (jm_ps v []) μ')) ∧
    (¬ 0 ≤ r →
    P (some (.int r)) μ))) :
    jS g ad m_X9_hear κ 6 [some (.ref 82), some (.int x1), some (.int x2), none] [.int r] μ := by
  refine jr_istore_n [some (.ref 82), some (.int x1), some (.int x2), some (.int r)] dX9_hear_6 rfl rfl rfl ?_
  refine jr_iload_n dX9_hear_7 rfl ?_
  obtain ⟨hA, hB⟩ := h
  refine jr_if_ge 13 dX9_hear_8 rfl (fun c => ?_) (fun c => ?_)
  · have h := hA c
    refine jr_aload_n dX9_hear_13 rfl ?_
    refine js_drop 3 [some (.ref 82), some (.int x1), some (.int x2), none] rfl ?_
    refine js_callV (st := []) [] jc_RX9_153 rfl dX9_hear_14 ga_82 rfl rfl rfl rfl (kk := ?_)
    exact h
  · have h := hB c
    refine jr_iload_n dX9_hear_11 rfl ?_
    exact js_iret hE rfl dX9_hear_12 rfl h

set_option maxRecDepth 100000 in
set_option maxHeartbeats 4000000 in
theorem sX9_hear_17 {g : jm_G} {ad : Nat → Nat} {κ : jm_K} {P : Option Value → (Nat → Nat → Int32) → Prop} (hE : jE g ad m_X9_hear P κ) {μ : Nat → Nat → Int32}  (x1 : Int32) (x2 : Int32)
    (h : jD g ad m_X9_comes [.ref 82, .int x1, .int x2] μ (fun v μ' => jS g ad m_X9_hear κ 23 [none, none, none, none] (jm_ps v []) μ')) :
    jS g ad m_X9_hear κ 17 [some (.ref 82), some (.int x1), some (.int x2), none] [] μ := by
  refine jr_aload_n dX9_hear_17 rfl ?_
  refine jr_iload_n dX9_hear_18 rfl ?_
  refine jr_iload_n dX9_hear_19 rfl ?_
  refine js_drop 0 [none, some (.int x1), some (.int x2), none] rfl ?_
  refine js_drop 1 [none, none, some (.int x2), none] rfl ?_
  refine js_drop 2 [none, none, none, none] rfl ?_
  refine js_callV (st := []) [.int x1, .int x2] jc_RX9_166 rfl dX9_hear_20 ga_82 rfl rfl rfl rfl (kk := ?_)
  exact h

set_option maxRecDepth 100000 in
set_option maxHeartbeats 4000000 in
theorem sX9_hear_23 {g : jm_G} {ad : Nat → Nat} {κ : jm_K} {P : Option Value → (Nat → Nat → Int32) → Prop} (hE : jE g ad m_X9_hear P κ) {μ : Nat → Nat → Int32}  (r : Int32)
    (h : P (some (.int r)) μ) :
    jS g ad m_X9_hear κ 23 [none, none, none, none] [.int r] μ := by
  exact js_iret hE rfl dX9_hear_23 rfl h

set_option maxRecDepth 100000 in
set_option maxHeartbeats 4000000 in
theorem sX9_fire_0 {g : jm_G} {ad : Nat → Nat} {κ : jm_K} {P : Option Value → (Nat → Nat → Int32) → Prop} (hE : jE g ad m_X9_fire P κ) {μ : Nat → Nat → Int32}  (p1 : Int32) (p2 : Int32) (p3 : Int32)
    (h : jD g ad m_X9_isPoint [.int p1, .int p2] μ (fun v μ' => jS g ad m_X9_fire κ 5 [some (.ref 82), some (.int p1), some (.int p2), some (.int p3), none, none, none] (jm_ps v []) μ')) :
    jS g ad m_X9_fire κ 0 [some (.ref 82), some (.int p1), some (.int p2), some (.int p3), none, none, none] [] μ := by
  refine jr_iload_n dX9_fire_0 rfl ?_
  refine jr_iload_n dX9_fire_1 rfl ?_
  refine js_callS (st := []) [.int p1, .int p2] jc_RX9_169 rfl dX9_fire_2 rfl rfl rfl (kk := ?_)
  exact h

set_option maxRecDepth 100000 in
set_option maxHeartbeats 4000000 in
theorem sX9_fire_5 {g : jm_G} {ad : Nat → Nat} {κ : jm_K} {P : Option Value → (Nat → Nat → Int32) → Prop} (hE : jE g ad m_X9_fire P κ) {μ : Nat → Nat → Int32}  (x1 : Int32) (x2 : Int32) (x3 : Int32) (r : Int32)
    (h : ((¬ r = 0 →
    jD g ad m_X9_within [.int x3, .int (0 : Int32), .int (90000 : Int32)] μ (fun v μ' => jS g ad m_X9_fire κ 17 [some (.ref 82), some (.int x1), some (.int x2), some (.int x3), none, none, none] (jm_ps v []) μ')) ∧
    (r = 0 →
    P (some (.int (-1 : Int32))) μ))) :
    jS g ad m_X9_fire κ 5 [some (.ref 82), some (.int x1), some (.int x2), some (.int x3), none, none, none] [.int r] μ := by
  obtain ⟨hA, hB⟩ := h
  refine jr_if_ne 10 dX9_fire_5 rfl (fun c => ?_) (fun c => ?_)
  · have h := hA c
    refine jr_iload_n dX9_fire_10 rfl ?_
    refine jr_iconst (0 : Int32) dX9_fire_11 (by decide) ?_
    refine jr_ldc (90000 : Int32) dX9_fire_12 jk_RX9_172 ?_
    refine js_callS (st := []) [.int x3, .int (0 : Int32), .int (90000 : Int32)] jc_RX9_70 rfl dX9_fire_14 rfl rfl rfl (kk := ?_)
    exact h
  · have h := hB c
    refine jr_iconst (-1 : Int32) dX9_fire_8 (by decide) ?_
    exact js_iret hE rfl dX9_fire_9 rfl h

set_option maxRecDepth 100000 in
set_option maxHeartbeats 4000000 in
theorem sX9_fire_17 {g : jm_G} {ad : Nat → Nat} {κ : jm_K} {P : Option Value → (Nat → Nat → Int32) → Prop} (hE : jE g ad m_X9_fire P κ) {μ : Nat → Nat → Int32}  (x1 : Int32) (x2 : Int32) (x3 : Int32) (r : Int32)
    (h : ((¬ r = 0 →
    jD g ad m_X9_speedBy [.int (μ 83 0)] μ (fun v μ' => jS g ad m_X9_fire κ 32 [some (.ref 82), some (.int x1), some (.int x2), some (.int x3), none, none, none] (jm_ps v []) μ')) ∧
    (r = 0 →
    P (some (.int (-2 : Int32))) μ))) :
    jS g ad m_X9_fire κ 17 [some (.ref 82), some (.int x1), some (.int x2), some (.int x3), none, none, none] [.int r] μ := by
  obtain ⟨hA, hB⟩ := h
  refine jr_if_ne 23 dX9_fire_17 rfl (fun c => ?_) (fun c => ?_)
  · have h := hA c
    refine jr_aload_n dX9_fire_23 rfl ?_
    refine jr_get 9 0 jf_RX9_7 dX9_fire_24 ga_82 rfl (.ref 83) rfl ?_
    refine jr_iconst (0 : Int32) dX9_fire_27 (by decide) ?_
    refine jr_ialdn 0 dX9_fire_28 ga_83 (jm_inD (by decide)) rfl ?_
    refine js_callS (st := []) [.int (μ 83 0)] jc_RX9_127 rfl dX9_fire_29 rfl rfl rfl (kk := ?_)
    exact h
  · have h := hB c
    refine jr_bipush (-2 : Int32) dX9_fire_20 (by decide) ?_
    exact js_iret hE rfl dX9_fire_22 rfl h

set_option maxRecDepth 100000 in
set_option maxHeartbeats 4000000 in
theorem sX9_fire_32 {g : jm_G} {ad : Nat → Nat} {κ : jm_K} {P : Option Value → (Nat → Nat → Int32) → Prop} (hE : jE g ad m_X9_fire P κ) {μ : Nat → Nat → Int32}  (x1 : Int32) (x2 : Int32) (x3 : Int32) (r : Int32)
    (h : jS g ad m_X9_fire κ 40 [some (.ref 82), some (.int x1), some (.int x2), some (.int x3), some (.int r), some (.int (0 : Int32)), some (.int (0 : Int32))] [] μ) :
    jS g ad m_X9_fire κ 32 [some (.ref 82), some (.int x1), some (.int x2), some (.int x3), none, none, none] [.int r] μ := by
  refine jr_istore [some (.ref 82), some (.int x1), some (.int x2), some (.int x3), some (.int r), none, none] dX9_fire_32 rfl rfl rfl ?_
  refine jr_iconst (0 : Int32) dX9_fire_34 (by decide) ?_
  refine jr_istore [some (.ref 82), some (.int x1), some (.int x2), some (.int x3), some (.int r), some (.int (0 : Int32)), none] dX9_fire_35 rfl rfl rfl ?_
  refine jr_iconst (0 : Int32) dX9_fire_37 (by decide) ?_
  refine jr_istore [some (.ref 82), some (.int x1), some (.int x2), some (.int x3), some (.int r), some (.int (0 : Int32)), some (.int (0 : Int32))] dX9_fire_38 rfl rfl rfl ?_
  exact h

set_option maxRecDepth 100000 in
set_option maxHeartbeats 4000000 in
theorem sX9_fire_40 {g : jm_G} {ad : Nat → Nat} {κ : jm_K} {P : Option Value → (Nat → Nat → Int32) → Prop} (hE : jE g ad m_X9_fire P κ) {μ : Nat → Nat → Int32}  (x1 : Int32) (x2 : Int32) (x3 : Int32) (x4 : Int32) (x5 : Int32) (x6 : Int32)
    (h : (((4 : Int32) ≤ x6 →
    ((¬ x5 = 0 →
    ((x5 = 0 →
    P (some (.int (-4 : Int32))) μ) ∧
    (¬ x5 = 0 →
    P (some (.int (-5 : Int32))) μ))) ∧
    (x5 = 0 →
    ((((μ 83 3) + (4 : Int32)) ≤ (32 : Int32) →
    jD g ad m_X9_record [.ref 82] μ (fun v μ' => jS g ad m_X9_fire κ 120 [some (.ref 82), some (.int x1), some (.int x2), some (.int x3), some (.int x4), none, none] (jm_ps v []) μ')) ∧
    (¬ ((μ 83 3) + (4 : Int32)) ≤ (32 : Int32) →
    ((x5 = 0 →
    P (some (.int (-4 : Int32))) μ) ∧
    (¬ x5 = 0 →
    P (some (.int (-5 : Int32))) μ))))))) ∧
    (¬ (4 : Int32) ≤ x6 →
    ((¬ x5 = 0 →
    jS g ad m_X9_fire κ 40 [some (.ref 82), some (.int x1), some (.int x2), some (.int x3), some (.int x4), some (.int (1 : Int32)), some (.int (x6 + 1))] [] μ) ∧
    (x5 = 0 →
    jD g ad m_X9_takesBy [.ref 82, .int x4, .int x1, .int x2, .int x6] μ (fun v μ' => jS g ad m_X9_fire κ 65 [some (.ref 82), some (.int x1), some (.int x2), some (.int x3), some (.int x4), none, some (.int x6)] (jm_ps v [.int x3, .int x6, .ref 82]) μ')))))) :
    jS g ad m_X9_fire κ 40 [some (.ref 82), some (.int x1), some (.int x2), some (.int x3), some (.int x4), some (.int x5), some (.int x6)] [] μ := by
  refine jr_iload dX9_fire_40 rfl ?_
  refine jr_iconst (4 : Int32) dX9_fire_42 (by decide) ?_
  obtain ⟨hA, hB⟩ := h
  refine jr_icmp_ge 85 dX9_fire_43 rfl (fun c => ?_) (fun c => ?_)
  · have h := hA c
    refine jr_iload dX9_fire_85 rfl ?_
    obtain ⟨hA, hB⟩ := h
    refine jr_if_ne 103 dX9_fire_87 rfl (fun c => ?_) (fun c => ?_)
    · have h := hA c
      refine jr_iload dX9_fire_103 rfl ?_
      obtain ⟨hA, hB⟩ := h
      refine jr_if_eq 113 dX9_fire_105 rfl (fun c => ?_) (fun c => ?_)
      · have h := hA c
        refine jr_bipush (-4 : Int32) dX9_fire_113 (by decide) ?_
        exact js_iret hE rfl dX9_fire_115 rfl h
      · have h := hB c
        refine jr_bipush (-5 : Int32) dX9_fire_108 (by decide) ?_
        refine jr_goto 115 dX9_fire_110 rfl ?_
        exact js_iret hE rfl dX9_fire_115 rfl h
    · have h := hB c
      refine jr_aload_n dX9_fire_90 rfl ?_
      refine jr_get 9 0 jf_RX9_7 dX9_fire_91 ga_82 rfl (.ref 83) rfl ?_
      refine jr_iconst (3 : Int32) dX9_fire_94 (by decide) ?_
      refine jr_ialdn 3 dX9_fire_95 ga_83 (jm_inD (by decide)) rfl ?_
      refine jr_iconst (4 : Int32) dX9_fire_96 (by decide) ?_
      refine jr_iadd dX9_fire_97 ?_
      refine jr_bipush (32 : Int32) dX9_fire_98 (by decide) ?_
      obtain ⟨hA, hB⟩ := h
      refine jr_icmp_le 116 dX9_fire_100 rfl (fun c => ?_) (fun c => ?_)
      · have h := hA c
        refine jr_aload_n dX9_fire_116 rfl ?_
        refine js_drop 5 [some (.ref 82), some (.int x1), some (.int x2), some (.int x3), some (.int x4), none, some (.int x6)] rfl ?_
        refine js_drop 6 [some (.ref 82), some (.int x1), some (.int x2), some (.int x3), some (.int x4), none, none] rfl ?_
        refine js_callV (st := []) [] jc_RX9_153 rfl dX9_fire_117 ga_82 rfl rfl rfl rfl (kk := ?_)
        exact h
      · have h := hB c
        refine jr_iload dX9_fire_103 rfl ?_
        obtain ⟨hA, hB⟩ := h
        refine jr_if_eq 113 dX9_fire_105 rfl (fun c => ?_) (fun c => ?_)
        · have h := hA c
          refine jr_bipush (-4 : Int32) dX9_fire_113 (by decide) ?_
          exact js_iret hE rfl dX9_fire_115 rfl h
        · have h := hB c
          refine jr_bipush (-5 : Int32) dX9_fire_108 (by decide) ?_
          refine jr_goto 115 dX9_fire_110 rfl ?_
          exact js_iret hE rfl dX9_fire_115 rfl h
  · have h := hB c
    refine jr_iload dX9_fire_46 rfl ?_
    obtain ⟨hA, hB⟩ := h
    refine jr_if_ne 72 dX9_fire_48 rfl (fun c => ?_) (fun c => ?_)
    · have h := hA c
      refine jr_iconst (1 : Int32) dX9_fire_72 (by decide) ?_
      refine jr_goto 77 dX9_fire_73 rfl ?_
      refine jr_istore [some (.ref 82), some (.int x1), some (.int x2), some (.int x3), some (.int x4), some (.int (1 : Int32)), some (.int x6)] dX9_fire_77 rfl rfl rfl ?_
      refine jr_iinc [some (.ref 82), some (.int x1), some (.int x2), some (.int x3), some (.int x4), some (.int (1 : Int32)), some (.int (x6 + 1))] dX9_fire_79 rfl rfl rfl rfl rfl ?_
      refine jr_goto 40 dX9_fire_82 rfl ?_
      exact h
    · have h := hB c
      refine jr_aload_n dX9_fire_51 rfl ?_
      refine jr_iload dX9_fire_52 rfl ?_
      refine jr_iload_n dX9_fire_54 rfl ?_
      refine jr_aload_n dX9_fire_55 rfl ?_
      refine jr_iload dX9_fire_56 rfl ?_
      refine jr_iload_n dX9_fire_58 rfl ?_
      refine jr_iload_n dX9_fire_59 rfl ?_
      refine jr_iload dX9_fire_60 rfl ?_
      refine js_drop 5 [some (.ref 82), some (.int x1), some (.int x2), some (.int x3), some (.int x4), none, some (.int x6)] rfl ?_
      refine js_callV (st := [.int x3, .int x6, .ref 82]) [.int x4, .int x1, .int x2, .int x6] jc_RX9_84 rfl dX9_fire_62 ga_82 rfl rfl rfl rfl (kk := ?_)
      exact h

set_option maxRecDepth 100000 in
set_option maxHeartbeats 4000000 in
theorem sX9_fire_120 {g : jm_G} {ad : Nat → Nat} {κ : jm_K} {P : Option Value → (Nat → Nat → Int32) → Prop} (hE : jE g ad m_X9_fire P κ) {μ : Nat → Nat → Int32}  (x1 : Int32) (x2 : Int32) (x3 : Int32) (x4 : Int32)
    (h : jS g ad m_X9_fire κ 123 [some (.ref 82), some (.int x1), some (.int x2), some (.int x3), some (.int x4), none, some (.int (0 : Int32))] [] μ) :
    jS g ad m_X9_fire κ 120 [some (.ref 82), some (.int x1), some (.int x2), some (.int x3), some (.int x4), none, none] [] μ := by
  refine jr_iconst (0 : Int32) dX9_fire_120 (by decide) ?_
  refine jr_istore [some (.ref 82), some (.int x1), some (.int x2), some (.int x3), some (.int x4), none, some (.int (0 : Int32))] dX9_fire_121 rfl rfl rfl ?_
  exact h

set_option maxRecDepth 100000 in
set_option maxHeartbeats 4000000 in
theorem sX9_fire_65 {g : jm_G} {ad : Nat → Nat} {κ : jm_K} {P : Option Value → (Nat → Nat → Int32) → Prop} (hE : jE g ad m_X9_fire P κ) {μ : Nat → Nat → Int32}  (x1 : Int32) (x2 : Int32) (x3 : Int32) (x4 : Int32) (x6 : Int32) (r : Int32) (y1 : Int32) (y2 : Int32)
    (h : jD g ad m_X9_isThere [.ref 82, .int y2, .int (y1 + r)] μ (fun v μ' => jS g ad m_X9_fire κ 69 [some (.ref 82), some (.int x1), some (.int x2), some (.int x3), some (.int x4), none, some (.int x6)] (jm_ps v []) μ')) :
    jS g ad m_X9_fire κ 65 [some (.ref 82), some (.int x1), some (.int x2), some (.int x3), some (.int x4), none, some (.int x6)] [.int r, .int y1, .int y2, .ref 82] μ := by
  refine jr_iadd dX9_fire_65 ?_
  refine js_callV (st := []) [.int y2, .int (y1 + r)] jc_RX9_159 rfl dX9_fire_66 ga_82 rfl rfl rfl rfl (kk := ?_)
  exact h

set_option maxRecDepth 100000 in
set_option maxHeartbeats 4000000 in
theorem sX9_fire_123 {g : jm_G} {ad : Nat → Nat} {κ : jm_K} {P : Option Value → (Nat → Nat → Int32) → Prop} (hE : jE g ad m_X9_fire P κ) {μ : Nat → Nat → Int32}  (x1 : Int32) (x2 : Int32) (x3 : Int32) (x4 : Int32) (x6 : Int32)
    (h : (((4 : Int32) ≤ x6 →
    P (some (.int (μ 83 3))) μ) ∧
    (¬ (4 : Int32) ≤ x6 →
    jD g ad m_X9_takesBy [.ref 82, .int x4, .int x1, .int x2, .int x6] μ (fun v μ' => jS g ad m_X9_fire κ 143 [some (.ref 82), some (.int x1), some (.int x2), some (.int x3), some (.int x4), none, some (.int x6)] (jm_ps v [.int x3, .int x6, .ref 82]) μ')))) :
    jS g ad m_X9_fire κ 123 [some (.ref 82), some (.int x1), some (.int x2), some (.int x3), some (.int x4), none, some (.int x6)] [] μ := by
  refine jr_iload dX9_fire_123 rfl ?_
  refine jr_iconst (4 : Int32) dX9_fire_125 (by decide) ?_
  obtain ⟨hA, hB⟩ := h
  refine jr_icmp_ge 154 dX9_fire_126 rfl (fun c => ?_) (fun c => ?_)
  · have h := hA c
    refine jr_aload_n dX9_fire_154 rfl ?_
    refine jr_get 9 0 jf_RX9_7 dX9_fire_155 ga_82 rfl (.ref 83) rfl ?_
    refine jr_iconst (3 : Int32) dX9_fire_158 (by decide) ?_
    refine jr_ialdn 3 dX9_fire_159 ga_83 (jm_inD (by decide)) rfl ?_
    exact js_iret hE rfl dX9_fire_160 rfl h
  · have h := hB c
    refine jr_aload_n dX9_fire_129 rfl ?_
    refine jr_iload dX9_fire_130 rfl ?_
    refine jr_iload_n dX9_fire_132 rfl ?_
    refine jr_aload_n dX9_fire_133 rfl ?_
    refine jr_iload dX9_fire_134 rfl ?_
    refine jr_iload_n dX9_fire_136 rfl ?_
    refine jr_iload_n dX9_fire_137 rfl ?_
    refine jr_iload dX9_fire_138 rfl ?_
    refine js_callV (st := [.int x3, .int x6, .ref 82]) [.int x4, .int x1, .int x2, .int x6] jc_RX9_84 rfl dX9_fire_140 ga_82 rfl rfl rfl rfl (kk := ?_)
    exact h

set_option maxRecDepth 100000 in
set_option maxHeartbeats 4000000 in
theorem sX9_fire_69 {g : jm_G} {ad : Nat → Nat} {κ : jm_K} {P : Option Value → (Nat → Nat → Int32) → Prop} (hE : jE g ad m_X9_fire P κ) {μ : Nat → Nat → Int32}  (x1 : Int32) (x2 : Int32) (x3 : Int32) (x4 : Int32) (x6 : Int32) (r : Int32)
    (h : ((r = 0 →
    jS g ad m_X9_fire κ 40 [some (.ref 82), some (.int x1), some (.int x2), some (.int x3), some (.int x4), some (.int (0 : Int32)), some (.int (x6 + 1))] [] μ) ∧
    (¬ r = 0 →
    jS g ad m_X9_fire κ 40 [some (.ref 82), some (.int x1), some (.int x2), some (.int x3), some (.int x4), some (.int (1 : Int32)), some (.int (x6 + 1))] [] μ))) :
    jS g ad m_X9_fire κ 69 [some (.ref 82), some (.int x1), some (.int x2), some (.int x3), some (.int x4), none, some (.int x6)] [.int r] μ := by
  obtain ⟨hA, hB⟩ := h
  refine jr_if_eq 76 dX9_fire_69 rfl (fun c => ?_) (fun c => ?_)
  · have h := hA c
    refine jr_iconst (0 : Int32) dX9_fire_76 (by decide) ?_
    refine jr_istore [some (.ref 82), some (.int x1), some (.int x2), some (.int x3), some (.int x4), some (.int (0 : Int32)), some (.int x6)] dX9_fire_77 rfl rfl rfl ?_
    refine jr_iinc [some (.ref 82), some (.int x1), some (.int x2), some (.int x3), some (.int x4), some (.int (0 : Int32)), some (.int (x6 + 1))] dX9_fire_79 rfl rfl rfl rfl rfl ?_
    refine jr_goto 40 dX9_fire_82 rfl ?_
    exact h
  · have h := hB c
    refine jr_iconst (1 : Int32) dX9_fire_72 (by decide) ?_
    refine jr_goto 77 dX9_fire_73 rfl ?_
    refine jr_istore [some (.ref 82), some (.int x1), some (.int x2), some (.int x3), some (.int x4), some (.int (1 : Int32)), some (.int x6)] dX9_fire_77 rfl rfl rfl ?_
    refine jr_iinc [some (.ref 82), some (.int x1), some (.int x2), some (.int x3), some (.int x4), some (.int (1 : Int32)), some (.int (x6 + 1))] dX9_fire_79 rfl rfl rfl rfl rfl ?_
    refine jr_goto 40 dX9_fire_82 rfl ?_
    exact h

set_option maxRecDepth 100000 in
set_option maxHeartbeats 4000000 in
theorem sX9_fire_143 {g : jm_G} {ad : Nat → Nat} {κ : jm_K} {P : Option Value → (Nat → Nat → Int32) → Prop} (hE : jE g ad m_X9_fire P κ) {μ : Nat → Nat → Int32}  (x1 : Int32) (x2 : Int32) (x3 : Int32) (x4 : Int32) (x6 : Int32) (r : Int32) (y1 : Int32) (y2 : Int32)
    (h : jD g ad m_X9_comes [.ref 82, .int y2, .int (y1 + r)] μ (fun v μ' => jS g ad m_X9_fire κ 147 [some (.ref 82), some (.int x1), some (.int x2), some (.int x3), some (.int x4), none, some (.int x6)] (jm_ps v []) μ')) :
    jS g ad m_X9_fire κ 143 [some (.ref 82), some (.int x1), some (.int x2), some (.int x3), some (.int x4), none, some (.int x6)] [.int r, .int y1, .int y2, .ref 82] μ := by
  refine jr_iadd dX9_fire_143 ?_
  refine js_callV (st := []) [.int y2, .int (y1 + r)] jc_RX9_166 rfl dX9_fire_144 ga_82 rfl rfl rfl rfl (kk := ?_)
  exact h

set_option maxRecDepth 100000 in
set_option maxHeartbeats 4000000 in
theorem sX9_fire_147 {g : jm_G} {ad : Nat → Nat} {κ : jm_K} {P : Option Value → (Nat → Nat → Int32) → Prop} (hE : jE g ad m_X9_fire P κ) {μ : Nat → Nat → Int32}  (x1 : Int32) (x2 : Int32) (x3 : Int32) (x4 : Int32) (x6 : Int32) (r : Int32)
    (h : jS g ad m_X9_fire κ 123 [some (.ref 82), some (.int x1), some (.int x2), some (.int x3), some (.int x4), none, some (.int (x6 + 1))] [] μ) :
    jS g ad m_X9_fire κ 147 [some (.ref 82), some (.int x1), some (.int x2), some (.int x3), some (.int x4), none, some (.int x6)] [.int r] μ := by
  refine jr_pop dX9_fire_147 rfl ?_
  refine jr_iinc [some (.ref 82), some (.int x1), some (.int x2), some (.int x3), some (.int x4), none, some (.int (x6 + 1))] dX9_fire_148 rfl rfl rfl rfl rfl ?_
  refine jr_goto 123 dX9_fire_151 rfl ?_
  exact h

set_option maxRecDepth 100000 in
set_option maxHeartbeats 4000000 in
theorem sX9_forget_0 {g : jm_G} {ad : Nat → Nat} {κ : jm_K} {P : Option Value → (Nat → Nat → Int32) → Prop} (hE : jE g ad m_X9_forget P κ) {μ : Nat → Nat → Int32}  (p1 : Int32)
    (h : jD g ad m_X9_isPulse [.ref 82, .int p1] μ (fun v μ' => jS g ad m_X9_forget κ 5 [some (.ref 82), some (.int p1), none] (jm_ps v []) μ')) :
    jS g ad m_X9_forget κ 0 [some (.ref 82), some (.int p1), none] [] μ := by
  refine jr_aload_n dX9_forget_0 rfl ?_
  refine jr_iload_n dX9_forget_1 rfl ?_
  refine js_callV (st := []) [.int p1] jc_RX9_173 rfl dX9_forget_2 ga_82 rfl rfl rfl rfl (kk := ?_)
  exact h

set_option maxRecDepth 100000 in
set_option maxHeartbeats 4000000 in
theorem sX9_forget_5 {g : jm_G} {ad : Nat → Nat} {κ : jm_K} {P : Option Value → (Nat → Nat → Int32) → Prop} (hE : jE g ad m_X9_forget P κ) {μ : Nat → Nat → Int32}  (x1 : Int32) (r : Int32)
    (h : ((¬ r = 0 →
    jD g ad m_X9_record [.ref 82] μ (fun v μ' => jS g ad m_X9_forget κ 14 [some (.ref 82), some (.int x1), none] (jm_ps v []) μ')) ∧
    (r = 0 →
    P (some (.int (-1 : Int32))) μ))) :
    jS g ad m_X9_forget κ 5 [some (.ref 82), some (.int x1), none] [.int r] μ := by
  obtain ⟨hA, hB⟩ := h
  refine jr_if_ne 10 dX9_forget_5 rfl (fun c => ?_) (fun c => ?_)
  · have h := hA c
    refine jr_aload_n dX9_forget_10 rfl ?_
    refine js_callV (st := []) [] jc_RX9_153 rfl dX9_forget_11 ga_82 rfl rfl rfl rfl (kk := ?_)
    exact h
  · have h := hB c
    refine jr_iconst (-1 : Int32) dX9_forget_8 (by decide) ?_
    exact js_iret hE rfl dX9_forget_9 rfl h

set_option maxRecDepth 100000 in
set_option maxHeartbeats 4000000 in
theorem sX9_forget_14 {g : jm_G} {ad : Nat → Nat} {κ : jm_K} {P : Option Value → (Nat → Nat → Int32) → Prop} (hE : jE g ad m_X9_forget P κ) {μ : Nat → Nat → Int32}  (x1 : Int32)
    (h : jD g ad m_X9_timeOf [.ref 82, .int x1] μ (fun v μ' => jS g ad m_X9_forget κ 19 [some (.ref 82), some (.int x1), none] (jm_ps v []) μ')) :
    jS g ad m_X9_forget κ 14 [some (.ref 82), some (.int x1), none] [] μ := by
  refine jr_aload_n dX9_forget_14 rfl ?_
  refine jr_iload_n dX9_forget_15 rfl ?_
  refine js_callV (st := []) [.int x1] jc_RX9_90 rfl dX9_forget_16 ga_82 rfl rfl rfl rfl (kk := ?_)
  exact h

set_option maxRecDepth 100000 in
set_option maxHeartbeats 4000000 in
theorem sX9_forget_19 {g : jm_G} {ad : Nat → Nat} {κ : jm_K} {P : Option Value → (Nat → Nat → Int32) → Prop} (hE : jE g ad m_X9_forget P κ) {μ : Nat → Nat → Int32}  (x1 : Int32) (r : Int32)
    (h : jD g ad m_X9_goes [.ref 82, .int x1] μ (fun v μ' => jS g ad m_X9_forget κ 25 [none, none, some (.int r)] (jm_ps v []) μ')) :
    jS g ad m_X9_forget κ 19 [some (.ref 82), some (.int x1), none] [.int r] μ := by
  refine jr_istore_n [some (.ref 82), some (.int x1), some (.int r)] dX9_forget_19 rfl rfl rfl ?_
  refine jr_aload_n dX9_forget_20 rfl ?_
  refine jr_iload_n dX9_forget_21 rfl ?_
  refine js_drop 0 [none, some (.int x1), some (.int r)] rfl ?_
  refine js_drop 1 [none, none, some (.int r)] rfl ?_
  refine js_callV (st := []) [.int x1] jc_RX9_176 rfl dX9_forget_22 ga_82 rfl rfl rfl rfl (kk := ?_)
  exact h

set_option maxRecDepth 100000 in
set_option maxHeartbeats 4000000 in
theorem sX9_forget_25 {g : jm_G} {ad : Nat → Nat} {κ : jm_K} {P : Option Value → (Nat → Nat → Int32) → Prop} (hE : jE g ad m_X9_forget P κ) {μ : Nat → Nat → Int32}  (x2 : Int32)
    (h : P (some (.int x2)) μ) :
    jS g ad m_X9_forget κ 25 [none, none, some (.int x2)] [] μ := by
  refine jr_iload_n dX9_forget_25 rfl ?_
  exact js_iret hE rfl dX9_forget_26 rfl h

set_option maxRecDepth 100000 in
set_option maxHeartbeats 4000000 in
theorem sX9_clear_0 {g : jm_G} {ad : Nat → Nat} {κ : jm_K} {P : Option Value → (Nat → Nat → Int32) → Prop} (hE : jE g ad m_X9_clear P κ) {μ : Nat → Nat → Int32}  
    (h : jD g ad m_X9_record [.ref 82] μ (fun v μ' => jS g ad m_X9_clear κ 4 [some (.ref 82), none] (jm_ps v []) μ')) :
    jS g ad m_X9_clear κ 0 [some (.ref 82), none] [] μ := by
  refine jr_aload_n dX9_clear_0 rfl ?_
  refine js_callV (st := []) [] jc_RX9_153 rfl dX9_clear_1 ga_82 rfl rfl rfl rfl (kk := ?_)
  exact h

set_option maxRecDepth 100000 in
set_option maxHeartbeats 4000000 in
theorem sX9_clear_4 {g : jm_G} {ad : Nat → Nat} {κ : jm_K} {P : Option Value → (Nat → Nat → Int32) → Prop} (hE : jE g ad m_X9_clear P κ) {μ : Nat → Nat → Int32}  
    (h : (∀ μ1 : Nat → Nat → Int32, μ1 = jm_st μ 83 3 (0 : Int32) →
    P (some (.int (μ 83 3))) μ1)) :
    jS g ad m_X9_clear κ 4 [some (.ref 82), none] [] μ := by
  refine jr_aload_n dX9_clear_4 rfl ?_
  refine jr_get 9 0 jf_RX9_7 dX9_clear_5 ga_82 rfl (.ref 83) rfl ?_
  refine jr_iconst (3 : Int32) dX9_clear_8 (by decide) ?_
  refine jr_ialdn 3 dX9_clear_9 ga_83 (jm_inD (by decide)) rfl ?_
  refine jr_istore_n [some (.ref 82), some (.int (μ 83 3))] dX9_clear_10 rfl rfl rfl ?_
  refine jr_aload_n dX9_clear_11 rfl ?_
  refine jr_get 9 0 jf_RX9_7 dX9_clear_12 ga_82 rfl (.ref 83) rfl ?_
  refine jr_iconst (3 : Int32) dX9_clear_15 (by decide) ?_
  refine jr_iconst (0 : Int32) dX9_clear_16 (by decide) ?_
  refine jr_iastn 3 dX9_clear_17 ga_83 (jm_inD (by decide)) rfl ?_
  obtain ⟨μ1, e1⟩ : ∃ x : Nat → Nat → Int32, x = jm_st μ 83 3 (0 : Int32) := ⟨_, rfl⟩
  have h := h μ1 e1
  refine js_mem e1 ?_
  refine jr_iload_n dX9_clear_18 rfl ?_
  exact js_iret hE rfl dX9_clear_19 rfl h

set_option maxRecDepth 100000 in
set_option maxHeartbeats 4000000 in
theorem sX9_takes_0 {g : jm_G} {ad : Nat → Nat} {κ : jm_K} {P : Option Value → (Nat → Nat → Int32) → Prop} (hE : jE g ad m_X9_takes P κ) {μ : Nat → Nat → Int32}  (p1 : Int32) (p2 : Int32) (p3 : Int32)
    (h : jD g ad m_X9_isPoint [.int p1, .int p2] μ (fun v μ' => jS g ad m_X9_takes κ 5 [some (.ref 82), some (.int p1), some (.int p2), some (.int p3)] (jm_ps v []) μ')) :
    jS g ad m_X9_takes κ 0 [some (.ref 82), some (.int p1), some (.int p2), some (.int p3)] [] μ := by
  refine jr_iload_n dX9_takes_0 rfl ?_
  refine jr_iload_n dX9_takes_1 rfl ?_
  refine js_callS (st := []) [.int p1, .int p2] jc_RX9_169 rfl dX9_takes_2 rfl rfl rfl (kk := ?_)
  exact h

set_option maxRecDepth 100000 in
set_option maxHeartbeats 4000000 in
theorem sX9_takes_5 {g : jm_G} {ad : Nat → Nat} {κ : jm_K} {P : Option Value → (Nat → Nat → Int32) → Prop} (hE : jE g ad m_X9_takes P κ) {μ : Nat → Nat → Int32}  (x1 : Int32) (x2 : Int32) (x3 : Int32) (r : Int32)
    (h : ((r = 0 →
    P (some (.int (-1 : Int32))) μ) ∧
    (¬ r = 0 →
    jD g ad m_X9_isEar [.int x3] μ (fun v μ' => jS g ad m_X9_takes κ 12 [some (.ref 82), some (.int x1), some (.int x2), some (.int x3)] (jm_ps v []) μ')))) :
    jS g ad m_X9_takes κ 5 [some (.ref 82), some (.int x1), some (.int x2), some (.int x3)] [.int r] μ := by
  obtain ⟨hA, hB⟩ := h
  refine jr_if_eq 34 dX9_takes_5 rfl (fun c => ?_) (fun c => ?_)
  · have h := hA c
    refine jr_iconst (-1 : Int32) dX9_takes_34 (by decide) ?_
    exact js_iret hE rfl dX9_takes_35 rfl h
  · have h := hB c
    refine jr_iload_n dX9_takes_8 rfl ?_
    refine js_callS (st := []) [.int x3] jc_RX9_156 rfl dX9_takes_9 rfl rfl rfl (kk := ?_)
    exact h

set_option maxRecDepth 100000 in
set_option maxHeartbeats 4000000 in
theorem sX9_takes_12 {g : jm_G} {ad : Nat → Nat} {κ : jm_K} {P : Option Value → (Nat → Nat → Int32) → Prop} (hE : jE g ad m_X9_takes P κ) {μ : Nat → Nat → Int32}  (x1 : Int32) (x2 : Int32) (x3 : Int32) (r : Int32)
    (h : ((r = 0 →
    P (some (.int (-1 : Int32))) μ) ∧
    (¬ r = 0 →
    jD g ad m_X9_speedBy [.int (μ 83 0)] μ (fun v μ' => jS g ad m_X9_takes κ 25 [none, some (.int x1), some (.int x2), some (.int x3)] (jm_ps v [.ref 82]) μ')))) :
    jS g ad m_X9_takes κ 12 [some (.ref 82), some (.int x1), some (.int x2), some (.int x3)] [.int r] μ := by
  obtain ⟨hA, hB⟩ := h
  refine jr_if_eq 34 dX9_takes_12 rfl (fun c => ?_) (fun c => ?_)
  · have h := hA c
    refine jr_iconst (-1 : Int32) dX9_takes_34 (by decide) ?_
    exact js_iret hE rfl dX9_takes_35 rfl h
  · have h := hB c
    refine jr_aload_n dX9_takes_15 rfl ?_
    refine jr_aload_n dX9_takes_16 rfl ?_
    refine jr_get 9 0 jf_RX9_7 dX9_takes_17 ga_82 rfl (.ref 83) rfl ?_
    refine jr_iconst (0 : Int32) dX9_takes_20 (by decide) ?_
    refine jr_ialdn 0 dX9_takes_21 ga_83 (jm_inD (by decide)) rfl ?_
    refine js_drop 0 [none, some (.int x1), some (.int x2), some (.int x3)] rfl ?_
    refine js_callS (st := [.ref 82]) [.int (μ 83 0)] jc_RX9_127 rfl dX9_takes_22 rfl rfl rfl (kk := ?_)
    exact h

set_option maxRecDepth 100000 in
set_option maxHeartbeats 4000000 in
theorem sX9_takes_25 {g : jm_G} {ad : Nat → Nat} {κ : jm_K} {P : Option Value → (Nat → Nat → Int32) → Prop} (hE : jE g ad m_X9_takes P κ) {μ : Nat → Nat → Int32}  (x1 : Int32) (x2 : Int32) (x3 : Int32) (r : Int32)
    (h : jD g ad m_X9_takesBy [.ref 82, .int r, .int x1, .int x2, .int x3] μ (fun v μ' => jS g ad m_X9_takes κ 31 [none, none, none, none] (jm_ps v []) μ')) :
    jS g ad m_X9_takes κ 25 [none, some (.int x1), some (.int x2), some (.int x3)] [.int r, .ref 82] μ := by
  refine jr_iload_n dX9_takes_25 rfl ?_
  refine jr_iload_n dX9_takes_26 rfl ?_
  refine jr_iload_n dX9_takes_27 rfl ?_
  refine js_drop 1 [none, none, some (.int x2), some (.int x3)] rfl ?_
  refine js_drop 2 [none, none, none, some (.int x3)] rfl ?_
  refine js_drop 3 [none, none, none, none] rfl ?_
  refine js_callV (st := []) [.int r, .int x1, .int x2, .int x3] jc_RX9_84 rfl dX9_takes_28 ga_82 rfl rfl rfl rfl (kk := ?_)
  exact h

set_option maxRecDepth 100000 in
set_option maxHeartbeats 4000000 in
theorem sX9_takes_31 {g : jm_G} {ad : Nat → Nat} {κ : jm_K} {P : Option Value → (Nat → Nat → Int32) → Prop} (hE : jE g ad m_X9_takes P κ) {μ : Nat → Nat → Int32}  (r : Int32)
    (h : P (some (.int r)) μ) :
    jS g ad m_X9_takes κ 31 [none, none, none, none] [.int r] μ := by
  refine jr_goto 35 dX9_takes_31 rfl ?_
  exact js_iret hE rfl dX9_takes_35 rfl h

set_option maxRecDepth 100000 in
set_option maxHeartbeats 4000000 in
theorem sX9_pulse_0 {g : jm_G} {ad : Nat → Nat} {κ : jm_K} {P : Option Value → (Nat → Nat → Int32) → Prop} (hE : jE g ad m_X9_pulse P κ) {μ : Nat → Nat → Int32}  (p1 : Int32) (p2 : Int32)
    (h : jD g ad m_X9_isPulse [.ref 82, .int p1] μ (fun v μ' => jS g ad m_X9_pulse κ 5 [some (.ref 82), some (.int p1), some (.int p2)] (jm_ps v []) μ')) :
    jS g ad m_X9_pulse κ 0 [some (.ref 82), some (.int p1), some (.int p2)] [] μ := by
  refine jr_aload_n dX9_pulse_0 rfl ?_
  refine jr_iload_n dX9_pulse_1 rfl ?_
  refine js_callV (st := []) [.int p1] jc_RX9_173 rfl dX9_pulse_2 ga_82 rfl rfl rfl rfl (kk := ?_)
  exact h

set_option maxRecDepth 100000 in
set_option maxHeartbeats 4000000 in
theorem sX9_pulse_5 {g : jm_G} {ad : Nat → Nat} {κ : jm_K} {P : Option Value → (Nat → Nat → Int32) → Prop} (hE : jE g ad m_X9_pulse P κ) {μ : Nat → Nat → Int32}  (x1 : Int32) (x2 : Int32) (r : Int32)
    (h : ((¬ r = 0 →
    ((x2.toInt < 0 ∨ 2 < x2.toInt →
    P (some (.int (-2 : Int32))) μ) ∧
    (x2.toInt = 0 →
    jD g ad m_X9_earOf [.ref 82, .int x1] μ (fun v μ' => jS g ad m_X9_pulse κ 41 [none, none, none] (jm_ps v []) μ')) ∧
    (x2.toInt = 1 →
    jD g ad m_X9_timeOf [.ref 82, .int x1] μ (fun v μ' => jS g ad m_X9_pulse κ 47 [none, none, none] (jm_ps v []) μ')) ∧
    (x2.toInt = 2 →
    jD g ad m_X9_find [.ref 82] μ (fun v μ' => jS g ad m_X9_pulse κ 52 [some (.ref 82), some (.int x1), none] (jm_ps v []) μ')))) ∧
    (r = 0 →
    P (some (.int (-1 : Int32))) μ))) :
    jS g ad m_X9_pulse κ 5 [some (.ref 82), some (.int x1), some (.int x2)] [.int r] μ := by
  obtain ⟨hA, hB⟩ := h
  refine jr_if_ne 10 dX9_pulse_5 rfl (fun c => ?_) (fun c => ?_)
  · have h := hA c
    refine jr_iload_n dX9_pulse_10 rfl ?_
    obtain ⟨hD, h⟩ := h
    by_cases c : x2.toInt < 0 ∨ 2 < x2.toInt
    · have h := hD c
      refine jr_tableOut 59 dX9_pulse_11 c rfl ?_
      refine jr_bipush (-2 : Int32) dX9_pulse_59 (by decide) ?_
      exact js_iret hE rfl dX9_pulse_61 rfl h
    rcases (show x2.toInt = 0 ∨ x2.toInt = 1 ∨ x2.toInt = 2 by omega) with c | c | c
    · have h := h.1 c
      refine jr_tableIn 0 25 36 dX9_pulse_11 c (by decide) rfl rfl ?_
      refine jr_aload_n dX9_pulse_36 rfl ?_
      refine jr_iload_n dX9_pulse_37 rfl ?_
      refine js_drop 0 [none, some (.int x1), some (.int x2)] rfl ?_
      refine js_drop 1 [none, none, some (.int x2)] rfl ?_
      refine js_drop 2 [none, none, none] rfl ?_
      refine js_callV (st := []) [.int x1] jc_RX9_87 rfl dX9_pulse_38 ga_82 rfl rfl rfl rfl (kk := ?_)
      exact h
    · have h := h.2.1 c
      refine jr_tableIn 1 31 42 dX9_pulse_11 c (by decide) rfl rfl ?_
      refine jr_aload_n dX9_pulse_42 rfl ?_
      refine jr_iload_n dX9_pulse_43 rfl ?_
      refine js_drop 0 [none, some (.int x1), some (.int x2)] rfl ?_
      refine js_drop 1 [none, none, some (.int x2)] rfl ?_
      refine js_drop 2 [none, none, none] rfl ?_
      refine js_callV (st := []) [.int x1] jc_RX9_90 rfl dX9_pulse_44 ga_82 rfl rfl rfl rfl (kk := ?_)
      exact h
    · have h := h.2.2 c
      refine jr_tableIn 2 37 48 dX9_pulse_11 c (by decide) rfl rfl ?_
      refine jr_aload_n dX9_pulse_48 rfl ?_
      refine js_drop 2 [some (.ref 82), some (.int x1), none] rfl ?_
      refine js_callV (st := []) [] jc_RX9_179 rfl dX9_pulse_49 ga_82 rfl rfl rfl rfl (kk := ?_)
      exact h
  · have h := hB c
    refine jr_iconst (-1 : Int32) dX9_pulse_8 (by decide) ?_
    exact js_iret hE rfl dX9_pulse_9 rfl h

set_option maxRecDepth 100000 in
set_option maxHeartbeats 4000000 in
theorem sX9_pulse_41 {g : jm_G} {ad : Nat → Nat} {κ : jm_K} {P : Option Value → (Nat → Nat → Int32) → Prop} (hE : jE g ad m_X9_pulse P κ) {μ : Nat → Nat → Int32}  (r : Int32)
    (h : P (some (.int r)) μ) :
    jS g ad m_X9_pulse κ 41 [none, none, none] [.int r] μ := by
  exact js_iret hE rfl dX9_pulse_41 rfl h

set_option maxRecDepth 100000 in
set_option maxHeartbeats 4000000 in
theorem sX9_pulse_47 {g : jm_G} {ad : Nat → Nat} {κ : jm_K} {P : Option Value → (Nat → Nat → Int32) → Prop} (hE : jE g ad m_X9_pulse P κ) {μ : Nat → Nat → Int32}  (r : Int32)
    (h : P (some (.int r)) μ) :
    jS g ad m_X9_pulse κ 47 [none, none, none] [.int r] μ := by
  exact js_iret hE rfl dX9_pulse_47 rfl h

set_option maxRecDepth 100000 in
set_option maxHeartbeats 4000000 in
theorem sX9_pulse_52 {g : jm_G} {ad : Nat → Nat} {κ : jm_K} {P : Option Value → (Nat → Nat → Int32) → Prop} (hE : jE g ad m_X9_pulse P κ) {μ : Nat → Nat → Int32}  (x1 : Int32)
    (h : vp_in x1 32 ∧
    P (some (.int (μ 91 x1.toNatClampNeg))) μ) :
    jS g ad m_X9_pulse κ 52 [some (.ref 82), some (.int x1), none] [] μ := by
  refine jr_aload_n dX9_pulse_52 rfl ?_
  refine jr_get 9 12 jf_RX9_34 dX9_pulse_53 ga_82 rfl (.ref 91) rfl ?_
  refine jr_iload_n dX9_pulse_56 rfl ?_
  obtain ⟨o1, h⟩ := h
  refine jr_ialdn _ dX9_pulse_57 ga_91 o1 rfl ?_
  exact js_iret hE rfl dX9_pulse_58 rfl h

set_option maxRecDepth 100000 in
set_option maxHeartbeats 4000000 in
theorem sX9_isShot_0 {g : jm_G} {ad : Nat → Nat} {κ : jm_K} {P : Option Value → (Nat → Nat → Int32) → Prop} (hE : jE g ad m_X9_isShot P κ) {μ : Nat → Nat → Int32}  (p1 : Int32)
    (h : jD g ad m_X9_find [.ref 82] μ (fun v μ' => jS g ad m_X9_isShot κ 4 [some (.ref 82), some (.int p1)] (jm_ps v []) μ')) :
    jS g ad m_X9_isShot κ 0 [some (.ref 82), some (.int p1)] [] μ := by
  refine jr_aload_n dX9_isShot_0 rfl ?_
  refine js_callV (st := []) [] jc_RX9_179 rfl dX9_isShot_1 ga_82 rfl rfl rfl rfl (kk := ?_)
  exact h

set_option maxRecDepth 100000 in
set_option maxHeartbeats 4000000 in
theorem sX9_isShot_4 {g : jm_G} {ad : Nat → Nat} {κ : jm_K} {P : Option Value → (Nat → Nat → Int32) → Prop} (hE : jE g ad m_X9_isShot P κ) {μ : Nat → Nat → Int32}  (x1 : Int32)
    (h : jD g ad m_X9_within [.int x1, .int (0 : Int32), .int ((μ 82 11) - (1 : Int32))] μ (fun v μ' => jS g ad m_X9_isShot κ 15 [none, none] (jm_ps v []) μ')) :
    jS g ad m_X9_isShot κ 4 [some (.ref 82), some (.int x1)] [] μ := by
  refine jr_iload_n dX9_isShot_4 rfl ?_
  refine jr_iconst (0 : Int32) dX9_isShot_5 (by decide) ?_
  refine jr_aload_n dX9_isShot_6 rfl ?_
  refine jr_get 9 11 jf_RX9_121 dX9_isShot_7 ga_82 rfl (.int (μ 82 11)) rfl ?_
  refine jr_iconst (1 : Int32) dX9_isShot_10 (by decide) ?_
  refine jr_isub dX9_isShot_11 ?_
  refine js_drop 0 [none, some (.int x1)] rfl ?_
  refine js_drop 1 [none, none] rfl ?_
  refine js_callS (st := []) [.int x1, .int (0 : Int32), .int ((μ 82 11) - (1 : Int32))] jc_RX9_70 rfl dX9_isShot_12 rfl rfl rfl (kk := ?_)
  exact h

set_option maxRecDepth 100000 in
set_option maxHeartbeats 4000000 in
theorem sX9_isShot_15 {g : jm_G} {ad : Nat → Nat} {κ : jm_K} {P : Option Value → (Nat → Nat → Int32) → Prop} (hE : jE g ad m_X9_isShot P κ) {μ : Nat → Nat → Int32}  (r : Int32)
    (h : ((r = 0 ∨ r = 1) ∧ P (some (.int r)) μ)) :
    jS g ad m_X9_isShot κ 15 [none, none] [.int r] μ := by
  exact js_zret hE rfl dX9_isShot_15 rfl h.1 h.2

set_option maxRecDepth 100000 in
set_option maxHeartbeats 4000000 in
theorem sX9_shot_0 {g : jm_G} {ad : Nat → Nat} {κ : jm_K} {P : Option Value → (Nat → Nat → Int32) → Prop} (hE : jE g ad m_X9_shot P κ) {μ : Nat → Nat → Int32}  (p1 : Int32) (p2 : Int32)
    (h : jD g ad m_X9_isShot [.ref 82, .int p1] μ (fun v μ' => jS g ad m_X9_shot κ 5 [some (.ref 82), some (.int p1), some (.int p2)] (jm_ps v []) μ')) :
    jS g ad m_X9_shot κ 0 [some (.ref 82), some (.int p1), some (.int p2)] [] μ := by
  refine jr_aload_n dX9_shot_0 rfl ?_
  refine jr_iload_n dX9_shot_1 rfl ?_
  refine js_callV (st := []) [.int p1] jc_RX9_182 rfl dX9_shot_2 ga_82 rfl rfl rfl rfl (kk := ?_)
  exact h

set_option maxRecDepth 100000 in
set_option maxHeartbeats 4000000 in
theorem sX9_shot_5 {g : jm_G} {ad : Nat → Nat} {κ : jm_K} {P : Option Value → (Nat → Nat → Int32) → Prop} (hE : jE g ad m_X9_shot P κ) {μ : Nat → Nat → Int32}  (x1 : Int32) (x2 : Int32) (r : Int32)
    (h : ((¬ r = 0 →
    ((x2.toInt < 0 ∨ 8 < x2.toInt →
    P (some (.int (-2 : Int32))) μ) ∧
    (x2.toInt = 0 →
    vp_in x1 8 ∧
    P (some (.int ((μ 92 x1.toNatClampNeg) - (μ 92 x1.toNatClampNeg) / (41 : Int32) * (41 : Int32)))) μ) ∧
    (x2.toInt = 1 →
    vp_in x1 8 ∧
    P (some (.int ((μ 92 x1.toNatClampNeg) / (41 : Int32)))) μ) ∧
    (x2.toInt = 2 →
    vp_in x1 8 ∧
    P (some (.int (μ 93 x1.toNatClampNeg))) μ) ∧
    (x2.toInt = 3 →
    vp_in x1 8 ∧
    P (some (.int ((μ 94 x1.toNatClampNeg) + (10000 : Int32)))) μ) ∧
    (x2.toInt = 4 →
    jD g ad m_X9_ringOf [.ref 82, .int x1] μ (fun v μ' => jS g ad m_X9_shot κ 103 [none, none, none] (jm_ps v []) μ')) ∧
    (x2.toInt = 5 →
    vp_in ((((4 : Int32) * x1) + x2) - (5 : Int32)) 32 ∧
    P (some (.int (μ 95 ((((4 : Int32) * x1) + x2) - (5 : Int32)).toNatClampNeg))) μ) ∧
    (x2.toInt = 6 →
    vp_in ((((4 : Int32) * x1) + x2) - (5 : Int32)) 32 ∧
    P (some (.int (μ 95 ((((4 : Int32) * x1) + x2) - (5 : Int32)).toNatClampNeg))) μ) ∧
    (x2.toInt = 7 →
    vp_in ((((4 : Int32) * x1) + x2) - (5 : Int32)) 32 ∧
    P (some (.int (μ 95 ((((4 : Int32) * x1) + x2) - (5 : Int32)).toNatClampNeg))) μ) ∧
    (x2.toInt = 8 →
    vp_in ((((4 : Int32) * x1) + x2) - (5 : Int32)) 32 ∧
    P (some (.int (μ 95 ((((4 : Int32) * x1) + x2) - (5 : Int32)).toNatClampNeg))) μ))) ∧
    (r = 0 →
    P (some (.int (-1 : Int32))) μ))) :
    jS g ad m_X9_shot κ 5 [some (.ref 82), some (.int x1), some (.int x2)] [.int r] μ := by
  obtain ⟨hA, hB⟩ := h
  refine jr_if_ne 10 dX9_shot_5 rfl (fun c => ?_) (fun c => ?_)
  · have h := hA c
    refine jr_iload_n dX9_shot_10 rfl ?_
    obtain ⟨hD, h⟩ := h
    by_cases c : x2.toInt < 0 ∨ 8 < x2.toInt
    · have h := hD c
      refine jr_tableOut 117 dX9_shot_11 c rfl ?_
      refine jr_bipush (-2 : Int32) dX9_shot_117 (by decide) ?_
      exact js_iret hE rfl dX9_shot_119 rfl h
    rcases (show x2.toInt = 0 ∨ x2.toInt = 1 ∨ x2.toInt = 2 ∨ x2.toInt = 3 ∨ x2.toInt = 4 ∨ x2.toInt = 5 ∨ x2.toInt = 6 ∨ x2.toInt = 7 ∨ x2.toInt = 8 by omega) with c | c | c | c | c | c | c | c | c
    · have h := h.1 c
      refine jr_tableIn 0 49 60 dX9_shot_11 c (by decide) rfl rfl ?_
      refine jr_aload_n dX9_shot_60 rfl ?_
      refine jr_get 9 13 jf_RX9_37 dX9_shot_61 ga_82 rfl (.ref 92) rfl ?_
      refine jr_iload_n dX9_shot_64 rfl ?_
      obtain ⟨o1, h⟩ := h
      refine jr_ialdn _ dX9_shot_65 ga_92 o1 rfl ?_
      refine jr_bipush (41 : Int32) dX9_shot_66 (by decide) ?_
      refine jr_irem dX9_shot_68 (by decide) ?_
      exact js_iret hE rfl dX9_shot_69 rfl h
    · have h := h.2.1 c
      refine jr_tableIn 1 59 70 dX9_shot_11 c (by decide) rfl rfl ?_
      refine jr_aload_n dX9_shot_70 rfl ?_
      refine jr_get 9 13 jf_RX9_37 dX9_shot_71 ga_82 rfl (.ref 92) rfl ?_
      refine jr_iload_n dX9_shot_74 rfl ?_
      obtain ⟨o2, h⟩ := h
      refine jr_ialdn _ dX9_shot_75 ga_92 o2 rfl ?_
      refine jr_bipush (41 : Int32) dX9_shot_76 (by decide) ?_
      refine jr_idiv dX9_shot_78 (by decide) ?_
      exact js_iret hE rfl dX9_shot_79 rfl h
    · have h := h.2.2.1 c
      refine jr_tableIn 2 69 80 dX9_shot_11 c (by decide) rfl rfl ?_
      refine jr_aload_n dX9_shot_80 rfl ?_
      refine jr_get 9 14 jf_RX9_40 dX9_shot_81 ga_82 rfl (.ref 93) rfl ?_
      refine jr_iload_n dX9_shot_84 rfl ?_
      obtain ⟨o3, h⟩ := h
      refine jr_ialdn _ dX9_shot_85 ga_93 o3 rfl ?_
      exact js_iret hE rfl dX9_shot_86 rfl h
    · have h := h.2.2.2.1 c
      refine jr_tableIn 3 76 87 dX9_shot_11 c (by decide) rfl rfl ?_
      refine jr_aload_n dX9_shot_87 rfl ?_
      refine jr_get 9 15 jf_RX9_43 dX9_shot_88 ga_82 rfl (.ref 94) rfl ?_
      refine jr_iload_n dX9_shot_91 rfl ?_
      obtain ⟨o4, h⟩ := h
      refine jr_ialdn _ dX9_shot_92 ga_94 o4 rfl ?_
      refine jr_sipush (10000 : Int32) dX9_shot_93 (by decide) ?_
      refine jr_iadd dX9_shot_96 ?_
      exact js_iret hE rfl dX9_shot_97 rfl h
    · have h := h.2.2.2.2.1 c
      refine jr_tableIn 4 87 98 dX9_shot_11 c (by decide) rfl rfl ?_
      refine jr_aload_n dX9_shot_98 rfl ?_
      refine jr_iload_n dX9_shot_99 rfl ?_
      refine js_drop 0 [none, some (.int x1), some (.int x2)] rfl ?_
      refine js_drop 1 [none, none, some (.int x2)] rfl ?_
      refine js_drop 2 [none, none, none] rfl ?_
      refine js_callV (st := []) [.int x1] jc_RX9_146 rfl dX9_shot_100 ga_82 rfl rfl rfl rfl (kk := ?_)
      exact h
    · have h := h.2.2.2.2.2.1 c
      refine jr_tableIn 5 93 104 dX9_shot_11 c (by decide) rfl rfl ?_
      refine jr_aload_n dX9_shot_104 rfl ?_
      refine jr_get 9 16 jf_RX9_46 dX9_shot_105 ga_82 rfl (.ref 95) rfl ?_
      refine jr_iconst (4 : Int32) dX9_shot_108 (by decide) ?_
      refine jr_iload_n dX9_shot_109 rfl ?_
      refine jr_imul dX9_shot_110 ?_
      refine jr_iload_n dX9_shot_111 rfl ?_
      refine jr_iadd dX9_shot_112 ?_
      refine jr_iconst (5 : Int32) dX9_shot_113 (by decide) ?_
      refine jr_isub dX9_shot_114 ?_
      obtain ⟨o5, h⟩ := h
      refine jr_ialdn _ dX9_shot_115 ga_95 o5 rfl ?_
      exact js_iret hE rfl dX9_shot_116 rfl h
    · have h := h.2.2.2.2.2.2.1 c
      refine jr_tableIn 6 93 104 dX9_shot_11 c (by decide) rfl rfl ?_
      refine jr_aload_n dX9_shot_104 rfl ?_
      refine jr_get 9 16 jf_RX9_46 dX9_shot_105 ga_82 rfl (.ref 95) rfl ?_
      refine jr_iconst (4 : Int32) dX9_shot_108 (by decide) ?_
      refine jr_iload_n dX9_shot_109 rfl ?_
      refine jr_imul dX9_shot_110 ?_
      refine jr_iload_n dX9_shot_111 rfl ?_
      refine jr_iadd dX9_shot_112 ?_
      refine jr_iconst (5 : Int32) dX9_shot_113 (by decide) ?_
      refine jr_isub dX9_shot_114 ?_
      obtain ⟨o6, h⟩ := h
      refine jr_ialdn _ dX9_shot_115 ga_95 o6 rfl ?_
      exact js_iret hE rfl dX9_shot_116 rfl h
    · have h := h.2.2.2.2.2.2.2.1 c
      refine jr_tableIn 7 93 104 dX9_shot_11 c (by decide) rfl rfl ?_
      refine jr_aload_n dX9_shot_104 rfl ?_
      refine jr_get 9 16 jf_RX9_46 dX9_shot_105 ga_82 rfl (.ref 95) rfl ?_
      refine jr_iconst (4 : Int32) dX9_shot_108 (by decide) ?_
      refine jr_iload_n dX9_shot_109 rfl ?_
      refine jr_imul dX9_shot_110 ?_
      refine jr_iload_n dX9_shot_111 rfl ?_
      refine jr_iadd dX9_shot_112 ?_
      refine jr_iconst (5 : Int32) dX9_shot_113 (by decide) ?_
      refine jr_isub dX9_shot_114 ?_
      obtain ⟨o7, h⟩ := h
      refine jr_ialdn _ dX9_shot_115 ga_95 o7 rfl ?_
      exact js_iret hE rfl dX9_shot_116 rfl h
    · have h := h.2.2.2.2.2.2.2.2 c
      refine jr_tableIn 8 93 104 dX9_shot_11 c (by decide) rfl rfl ?_
      refine jr_aload_n dX9_shot_104 rfl ?_
      refine jr_get 9 16 jf_RX9_46 dX9_shot_105 ga_82 rfl (.ref 95) rfl ?_
      refine jr_iconst (4 : Int32) dX9_shot_108 (by decide) ?_
      refine jr_iload_n dX9_shot_109 rfl ?_
      refine jr_imul dX9_shot_110 ?_
      refine jr_iload_n dX9_shot_111 rfl ?_
      refine jr_iadd dX9_shot_112 ?_
      refine jr_iconst (5 : Int32) dX9_shot_113 (by decide) ?_
      refine jr_isub dX9_shot_114 ?_
      obtain ⟨o8, h⟩ := h
      refine jr_ialdn _ dX9_shot_115 ga_95 o8 rfl ?_
      exact js_iret hE rfl dX9_shot_116 rfl h
  · have h := hB c
    refine jr_iconst (-1 : Int32) dX9_shot_8 (by decide) ?_
    exact js_iret hE rfl dX9_shot_9 rfl h

set_option maxRecDepth 100000 in
set_option maxHeartbeats 4000000 in
theorem sX9_shot_103 {g : jm_G} {ad : Nat → Nat} {κ : jm_K} {P : Option Value → (Nat → Nat → Int32) → Prop} (hE : jE g ad m_X9_shot P κ) {μ : Nat → Nat → Int32}  (r : Int32)
    (h : P (some (.int r)) μ) :
    jS g ad m_X9_shot κ 103 [none, none, none] [.int r] μ := by
  exact js_iret hE rfl dX9_shot_103 rfl h

set_option maxRecDepth 100000 in
set_option maxHeartbeats 4000000 in
theorem sX9_bestShot_0 {g : jm_G} {ad : Nat → Nat} {κ : jm_K} {P : Option Value → (Nat → Nat → Int32) → Prop} (hE : jE g ad m_X9_bestShot P κ) {μ : Nat → Nat → Int32}  
    (h : jS g ad m_X9_bestShot κ 10 [some (.ref 82), some (.int (-6 : Int32)), some (.int ((μ 82 11) - (1 : Int32)))] [] μ) :
    jS g ad m_X9_bestShot κ 0 [some (.ref 82), none, none] [] μ := by
  refine jr_bipush (-6 : Int32) dX9_bestShot_0 (by decide) ?_
  refine jr_istore_n [some (.ref 82), some (.int (-6 : Int32)), none] dX9_bestShot_2 rfl rfl rfl ?_
  refine jr_aload_n dX9_bestShot_3 rfl ?_
  refine jr_get 9 11 jf_RX9_121 dX9_bestShot_4 ga_82 rfl (.int (μ 82 11)) rfl ?_
  refine jr_iconst (1 : Int32) dX9_bestShot_7 (by decide) ?_
  refine jr_isub dX9_bestShot_8 ?_
  refine jr_istore_n [some (.ref 82), some (.int (-6 : Int32)), some (.int ((μ 82 11) - (1 : Int32)))] dX9_bestShot_9 rfl rfl rfl ?_
  exact h

set_option maxRecDepth 100000 in
set_option maxHeartbeats 4000000 in
theorem sX9_bestShot_10 {g : jm_G} {ad : Nat → Nat} {κ : jm_K} {P : Option Value → (Nat → Nat → Int32) → Prop} (hE : jE g ad m_X9_bestShot P κ) {μ : Nat → Nat → Int32}  (x1 : Int32) (x2 : Int32)
    (h : ((x2 < 0 →
    P (some (.int x1)) μ) ∧
    (¬ x2 < 0 →
    ((x1 = (-6 : Int32) →
    jS g ad m_X9_bestShot κ 10 [some (.ref 82), some (.int x2), some (.int (x2 + (-1)))] [] μ) ∧
    (¬ x1 = (-6 : Int32) →
    jD g ad m_X9_ringOf [.ref 82, .int x2] μ (fun v μ' => jS g ad m_X9_bestShot κ 25 [some (.ref 82), some (.int x1), some (.int x2)] (jm_ps v []) μ')))))) :
    jS g ad m_X9_bestShot κ 10 [some (.ref 82), some (.int x1), some (.int x2)] [] μ := by
  refine jr_iload_n dX9_bestShot_10 rfl ?_
  obtain ⟨hA, hB⟩ := h
  refine jr_if_lt 45 dX9_bestShot_11 rfl (fun c => ?_) (fun c => ?_)
  · have h := hA c
    refine jr_iload_n dX9_bestShot_45 rfl ?_
    exact js_iret hE rfl dX9_bestShot_46 rfl h
  · have h := hB c
    refine jr_iload_n dX9_bestShot_14 rfl ?_
    refine jr_bipush (-6 : Int32) dX9_bestShot_15 (by decide) ?_
    obtain ⟨hA, hB⟩ := h
    refine jr_icmp_eq 33 dX9_bestShot_17 rfl (fun c => ?_) (fun c => ?_)
    · have h := hA c
      refine jr_iload_n dX9_bestShot_33 rfl ?_
      refine jr_goto 38 dX9_bestShot_34 rfl ?_
      refine jr_istore_n [some (.ref 82), some (.int x2), some (.int x2)] dX9_bestShot_38 rfl rfl rfl ?_
      refine jr_iinc [some (.ref 82), some (.int x2), some (.int (x2 + (-1)))] dX9_bestShot_39 rfl rfl rfl rfl rfl ?_
      refine jr_goto 10 dX9_bestShot_42 rfl ?_
      exact h
    · have h := hB c
      refine jr_aload_n dX9_bestShot_20 rfl ?_
      refine jr_iload_n dX9_bestShot_21 rfl ?_
      refine js_callV (st := []) [.int x2] jc_RX9_146 rfl dX9_bestShot_22 ga_82 rfl rfl rfl rfl (kk := ?_)
      exact h

set_option maxRecDepth 100000 in
set_option maxHeartbeats 4000000 in
theorem sX9_bestShot_25 {g : jm_G} {ad : Nat → Nat} {κ : jm_K} {P : Option Value → (Nat → Nat → Int32) → Prop} (hE : jE g ad m_X9_bestShot P κ) {μ : Nat → Nat → Int32}  (x1 : Int32) (x2 : Int32) (r : Int32)
    (h : jD g ad m_X9_ringOf [.ref 82, .int x1] μ (fun v μ' => jS g ad m_X9_bestShot κ 30 [some (.ref 82), some (.int x1), some (.int x2)] (jm_ps v [.int r]) μ')) :
    jS g ad m_X9_bestShot κ 25 [some (.ref 82), some (.int x1), some (.int x2)] [.int r] μ := by
  refine jr_aload_n dX9_bestShot_25 rfl ?_
  refine jr_iload_n dX9_bestShot_26 rfl ?_
  refine js_callV (st := [.int r]) [.int x1] jc_RX9_146 rfl dX9_bestShot_27 ga_82 rfl rfl rfl rfl (kk := ?_)
  exact h

set_option maxRecDepth 100000 in
set_option maxHeartbeats 4000000 in
theorem sX9_bestShot_30 {g : jm_G} {ad : Nat → Nat} {κ : jm_K} {P : Option Value → (Nat → Nat → Int32) → Prop} (hE : jE g ad m_X9_bestShot P κ) {μ : Nat → Nat → Int32}  (x1 : Int32) (x2 : Int32) (r : Int32) (y1 : Int32)
    (h : ((y1 < r →
    jS g ad m_X9_bestShot κ 10 [some (.ref 82), some (.int x1), some (.int (x2 + (-1)))] [] μ) ∧
    (¬ y1 < r →
    jS g ad m_X9_bestShot κ 10 [some (.ref 82), some (.int x2), some (.int (x2 + (-1)))] [] μ))) :
    jS g ad m_X9_bestShot κ 30 [some (.ref 82), some (.int x1), some (.int x2)] [.int r, .int y1] μ := by
  obtain ⟨hA, hB⟩ := h
  refine jr_icmp_lt 37 dX9_bestShot_30 rfl (fun c => ?_) (fun c => ?_)
  · have h := hA c
    refine jr_iload_n dX9_bestShot_37 rfl ?_
    refine jr_istore_n [some (.ref 82), some (.int x1), some (.int x2)] dX9_bestShot_38 rfl rfl rfl ?_
    refine jr_iinc [some (.ref 82), some (.int x1), some (.int (x2 + (-1)))] dX9_bestShot_39 rfl rfl rfl rfl rfl ?_
    refine jr_goto 10 dX9_bestShot_42 rfl ?_
    exact h
  · have h := hB c
    refine jr_iload_n dX9_bestShot_33 rfl ?_
    refine jr_goto 38 dX9_bestShot_34 rfl ?_
    refine jr_istore_n [some (.ref 82), some (.int x2), some (.int x2)] dX9_bestShot_38 rfl rfl rfl ?_
    refine jr_iinc [some (.ref 82), some (.int x2), some (.int (x2 + (-1)))] dX9_bestShot_39 rfl rfl rfl rfl rfl ?_
    refine jr_goto 10 dX9_bestShot_42 rfl ?_
    exact h

set_option maxRecDepth 100000 in
set_option maxHeartbeats 4000000 in
theorem sX9_widest_0 {g : jm_G} {ad : Nat → Nat} {κ : jm_K} {P : Option Value → (Nat → Nat → Int32) → Prop} (hE : jE g ad m_X9_widest P κ) {μ : Nat → Nat → Int32}  
    (h : jS g ad m_X9_widest κ 4 [some (.ref 82), some (.int (0 : Int32)), some (.int (0 : Int32)), none, none] [] μ) :
    jS g ad m_X9_widest κ 0 [some (.ref 82), none, none, none, none] [] μ := by
  refine jr_iconst (0 : Int32) dX9_widest_0 (by decide) ?_
  refine jr_istore_n [some (.ref 82), some (.int (0 : Int32)), none, none, none] dX9_widest_1 rfl rfl rfl ?_
  refine jr_iconst (0 : Int32) dX9_widest_2 (by decide) ?_
  refine jr_istore_n [some (.ref 82), some (.int (0 : Int32)), some (.int (0 : Int32)), none, none] dX9_widest_3 rfl rfl rfl ?_
  exact h

set_option maxRecDepth 100000 in
set_option maxHeartbeats 4000000 in
theorem sX9_widest_4 {g : jm_G} {ad : Nat → Nat} {κ : jm_K} {P : Option Value → (Nat → Nat → Int32) → Prop} (hE : jE g ad m_X9_widest P κ) {μ : Nat → Nat → Int32}  (x1 : Int32) (x2 : Int32)
    (h : (((μ 82 11) ≤ x2 →
    P (some (.int x1)) μ) ∧
    (¬ (μ 82 11) ≤ x2 →
    jS g ad m_X9_widest κ 14 [some (.ref 82), some (.int x1), some (.int x2), some (.int (0 : Int32)), none] [] μ))) :
    jS g ad m_X9_widest κ 4 [some (.ref 82), some (.int x1), some (.int x2), none, none] [] μ := by
  refine jr_iload_n dX9_widest_4 rfl ?_
  refine jr_aload_n dX9_widest_5 rfl ?_
  refine jr_get 9 11 jf_RX9_121 dX9_widest_6 ga_82 rfl (.int (μ 82 11)) rfl ?_
  obtain ⟨hA, hB⟩ := h
  refine jr_icmp_ge 86 dX9_widest_9 rfl (fun c => ?_) (fun c => ?_)
  · have h := hA c
    refine jr_iload_n dX9_widest_86 rfl ?_
    exact js_iret hE rfl dX9_widest_87 rfl h
  · have h := hB c
    refine jr_iconst (0 : Int32) dX9_widest_12 (by decide) ?_
    refine jr_istore_n [some (.ref 82), some (.int x1), some (.int x2), some (.int (0 : Int32)), none] dX9_widest_13 rfl rfl rfl ?_
    exact h

set_option maxRecDepth 100000 in
set_option maxHeartbeats 4000000 in
theorem sX9_widest_14 {g : jm_G} {ad : Nat → Nat} {κ : jm_K} {P : Option Value → (Nat → Nat → Int32) → Prop} (hE : jE g ad m_X9_widest P κ) {μ : Nat → Nat → Int32}  (x1 : Int32) (x2 : Int32) (x3 : Int32)
    (h : ((x2 ≤ x3 →
    jS g ad m_X9_widest κ 4 [some (.ref 82), some (.int x1), some (.int (x2 + 1)), none, none] [] μ) ∧
    (¬ x2 ≤ x3 →
    vp_in x2 8 ∧
    vp_in x2 8 ∧
    vp_in x3 8 ∧
    vp_in x3 8 ∧
    jD g ad m_X9_distance [.ref 82, .int ((μ 92 x2.toNatClampNeg) - (μ 92 x2.toNatClampNeg) / (41 : Int32) * (41 : Int32)), .int ((μ 92 x2.toNatClampNeg) / (41 : Int32)), .int ((μ 92 x3.toNatClampNeg) - (μ 92 x3.toNatClampNeg) / (41 : Int32) * (41 : Int32)), .int ((μ 92 x3.toNatClampNeg) / (41 : Int32))] μ (fun v μ' => jS g ad m_X9_widest κ 59 [some (.ref 82), some (.int x1), some (.int x2), some (.int x3), none] (jm_ps v []) μ')))) :
    jS g ad m_X9_widest κ 14 [some (.ref 82), some (.int x1), some (.int x2), some (.int x3), none] [] μ := by
  refine jr_iload_n dX9_widest_14 rfl ?_
  refine jr_iload_n dX9_widest_15 rfl ?_
  obtain ⟨hA, hB⟩ := h
  refine jr_icmp_ge 80 dX9_widest_16 rfl (fun c => ?_) (fun c => ?_)
  · have h := hA c
    refine jr_iinc [some (.ref 82), some (.int x1), some (.int (x2 + 1)), some (.int x3), none] dX9_widest_80 rfl rfl rfl rfl rfl ?_
    refine jr_goto 4 dX9_widest_83 rfl ?_
    refine js_drop 3 [some (.ref 82), some (.int x1), some (.int (x2 + 1)), none, none] rfl ?_
    exact h
  · have h := hB c
    refine jr_aload_n dX9_widest_19 rfl ?_
    refine jr_aload_n dX9_widest_20 rfl ?_
    refine jr_get 9 13 jf_RX9_37 dX9_widest_21 ga_82 rfl (.ref 92) rfl ?_
    refine jr_iload_n dX9_widest_24 rfl ?_
    obtain ⟨o1, h⟩ := h
    refine jr_ialdn _ dX9_widest_25 ga_92 o1 rfl ?_
    refine jr_bipush (41 : Int32) dX9_widest_26 (by decide) ?_
    refine jr_irem dX9_widest_28 (by decide) ?_
    refine jr_aload_n dX9_widest_29 rfl ?_
    refine jr_get 9 13 jf_RX9_37 dX9_widest_30 ga_82 rfl (.ref 92) rfl ?_
    refine jr_iload_n dX9_widest_33 rfl ?_
    obtain ⟨o2, h⟩ := h
    refine jr_ialdn _ dX9_widest_34 ga_92 o2 rfl ?_
    refine jr_bipush (41 : Int32) dX9_widest_35 (by decide) ?_
    refine jr_idiv dX9_widest_37 (by decide) ?_
    refine jr_aload_n dX9_widest_38 rfl ?_
    refine jr_get 9 13 jf_RX9_37 dX9_widest_39 ga_82 rfl (.ref 92) rfl ?_
    refine jr_iload_n dX9_widest_42 rfl ?_
    obtain ⟨o3, h⟩ := h
    refine jr_ialdn _ dX9_widest_43 ga_92 o3 rfl ?_
    refine jr_bipush (41 : Int32) dX9_widest_44 (by decide) ?_
    refine jr_irem dX9_widest_46 (by decide) ?_
    refine jr_aload_n dX9_widest_47 rfl ?_
    refine jr_get 9 13 jf_RX9_37 dX9_widest_48 ga_82 rfl (.ref 92) rfl ?_
    refine jr_iload_n dX9_widest_51 rfl ?_
    obtain ⟨o4, h⟩ := h
    refine jr_ialdn _ dX9_widest_52 ga_92 o4 rfl ?_
    refine jr_bipush (41 : Int32) dX9_widest_53 (by decide) ?_
    refine jr_idiv dX9_widest_55 (by decide) ?_
    refine js_callV (st := []) [.int ((μ 92 x2.toNatClampNeg) - (μ 92 x2.toNatClampNeg) / (41 : Int32) * (41 : Int32)), .int ((μ 92 x2.toNatClampNeg) / (41 : Int32)), .int ((μ 92 x3.toNatClampNeg) - (μ 92 x3.toNatClampNeg) / (41 : Int32) * (41 : Int32)), .int ((μ 92 x3.toNatClampNeg) / (41 : Int32))] jc_RX9_77 rfl dX9_widest_56 ga_82 rfl rfl rfl rfl (kk := ?_)
    exact h

set_option maxRecDepth 100000 in
set_option maxHeartbeats 4000000 in
theorem sX9_widest_59 {g : jm_G} {ad : Nat → Nat} {κ : jm_K} {P : Option Value → (Nat → Nat → Int32) → Prop} (hE : jE g ad m_X9_widest P κ) {μ : Nat → Nat → Int32}  (x1 : Int32) (x2 : Int32) (x3 : Int32) (r : Int32)
    (h : ((r ≤ x1 →
    jS g ad m_X9_widest κ 14 [some (.ref 82), some (.int x1), some (.int x2), some (.int (x3 + 1)), none] [] μ) ∧
    (¬ r ≤ x1 →
    jS g ad m_X9_widest κ 14 [some (.ref 82), some (.int r), some (.int x2), some (.int (x3 + 1)), none] [] μ))) :
    jS g ad m_X9_widest κ 59 [some (.ref 82), some (.int x1), some (.int x2), some (.int x3), none] [.int r] μ := by
  refine jr_istore [some (.ref 82), some (.int x1), some (.int x2), some (.int x3), some (.int r)] dX9_widest_59 rfl rfl rfl ?_
  refine jr_iload dX9_widest_61 rfl ?_
  refine jr_iload_n dX9_widest_63 rfl ?_
  obtain ⟨hA, hB⟩ := h
  refine jr_icmp_le 72 dX9_widest_64 rfl (fun c => ?_) (fun c => ?_)
  · have h := hA c
    refine jr_iload_n dX9_widest_72 rfl ?_
    refine jr_istore_n [some (.ref 82), some (.int x1), some (.int x2), some (.int x3), some (.int r)] dX9_widest_73 rfl rfl rfl ?_
    refine jr_iinc [some (.ref 82), some (.int x1), some (.int x2), some (.int (x3 + 1)), some (.int r)] dX9_widest_74 rfl rfl rfl rfl rfl ?_
    refine jr_goto 14 dX9_widest_77 rfl ?_
    refine js_drop 4 [some (.ref 82), some (.int x1), some (.int x2), some (.int (x3 + 1)), none] rfl ?_
    exact h
  · have h := hB c
    refine jr_iload dX9_widest_67 rfl ?_
    refine jr_goto 73 dX9_widest_69 rfl ?_
    refine jr_istore_n [some (.ref 82), some (.int r), some (.int x2), some (.int x3), some (.int r)] dX9_widest_73 rfl rfl rfl ?_
    refine jr_iinc [some (.ref 82), some (.int r), some (.int x2), some (.int (x3 + 1)), some (.int r)] dX9_widest_74 rfl rfl rfl rfl rfl ?_
    refine jr_goto 14 dX9_widest_77 rfl ?_
    refine js_drop 4 [some (.ref 82), some (.int r), some (.int x2), some (.int (x3 + 1)), none] rfl ?_
    exact h

set_option maxRecDepth 100000 in
set_option maxHeartbeats 4000000 in
theorem sX9_count_0 {g : jm_G} {ad : Nat → Nat} {κ : jm_K} {P : Option Value → (Nat → Nat → Int32) → Prop} (hE : jE g ad m_X9_count P κ) {μ : Nat → Nat → Int32}  (p1 : Int32)
    (h : jD g ad m_X9_within [.int p1, .int (0 : Int32), .int (12 : Int32)] μ (fun v μ' => jS g ad m_X9_count κ 7 [some (.ref 82), some (.int p1)] (jm_ps v []) μ')) :
    jS g ad m_X9_count κ 0 [some (.ref 82), some (.int p1)] [] μ := by
  refine jr_iload_n dX9_count_0 rfl ?_
  refine jr_iconst (0 : Int32) dX9_count_1 (by decide) ?_
  refine jr_bipush (12 : Int32) dX9_count_2 (by decide) ?_
  refine js_callS (st := []) [.int p1, .int (0 : Int32), .int (12 : Int32)] jc_RX9_70 rfl dX9_count_4 rfl rfl rfl (kk := ?_)
  exact h

set_option maxRecDepth 100000 in
set_option maxHeartbeats 4000000 in
theorem sX9_count_7 {g : jm_G} {ad : Nat → Nat} {κ : jm_K} {P : Option Value → (Nat → Nat → Int32) → Prop} (hE : jE g ad m_X9_count P κ) {μ : Nat → Nat → Int32}  (x1 : Int32) (r : Int32)
    (h : ((¬ r = 0 →
    jD g ad m_X9_find [.ref 82] μ (fun v μ' => jS g ad m_X9_count κ 17 [some (.ref 82), some (.int x1)] (jm_ps v []) μ')) ∧
    (r = 0 →
    P (some (.int (-2 : Int32))) μ))) :
    jS g ad m_X9_count κ 7 [some (.ref 82), some (.int x1)] [.int r] μ := by
  obtain ⟨hA, hB⟩ := h
  refine jr_if_ne 13 dX9_count_7 rfl (fun c => ?_) (fun c => ?_)
  · have h := hA c
    refine jr_aload_n dX9_count_13 rfl ?_
    refine js_callV (st := []) [] jc_RX9_179 rfl dX9_count_14 ga_82 rfl rfl rfl rfl (kk := ?_)
    exact h
  · have h := hB c
    refine jr_bipush (-2 : Int32) dX9_count_10 (by decide) ?_
    exact js_iret hE rfl dX9_count_12 rfl h

set_option maxRecDepth 100000 in
set_option maxHeartbeats 4000000 in
theorem sX9_count_17 {g : jm_G} {ad : Nat → Nat} {κ : jm_K} {P : Option Value → (Nat → Nat → Int32) → Prop} (hE : jE g ad m_X9_count P κ) {μ : Nat → Nat → Int32}  (x1 : Int32)
    (h : ((x1.toInt < 0 ∨ 11 < x1.toInt →
    P (some (.int (μ 82 3))) μ) ∧
    (x1.toInt = 0 →
    P (some (.int (μ 83 3))) μ) ∧
    (x1.toInt = 1 →
    P (some (.int (μ 82 11))) μ) ∧
    (x1.toInt = 2 →
    P (some (.int ((μ 83 3) - ((4 : Int32) * (μ 82 11))))) μ) ∧
    (x1.toInt = 3 →
    jD g ad m_X9_sumOfRings [.ref 82] μ (fun v μ' => jS g ad m_X9_count κ 110 [none, none] (jm_ps v []) μ')) ∧
    (x1.toInt = 4 →
    jD g ad m_X9_bestShot [.ref 82] μ (fun v μ' => jS g ad m_X9_count κ 115 [none, none] (jm_ps v []) μ')) ∧
    (x1.toInt = 5 →
    jD g ad m_X9_sumOfSpreads [.ref 82] μ (fun v μ' => jS g ad m_X9_count κ 120 [none, none] (jm_ps v []) μ')) ∧
    (x1.toInt = 6 →
    jD g ad m_X9_widest [.ref 82] μ (fun v μ' => jS g ad m_X9_count κ 125 [none, none] (jm_ps v []) μ')) ∧
    (x1.toInt = 7 →
    jD g ad m_X9_speedBy [.int (μ 83 0)] μ (fun v μ' => jS g ad m_X9_count κ 135 [none, none] (jm_ps v []) μ')) ∧
    (x1.toInt = 8 →
    P (some (.int ((μ 83 0) + (100 : Int32)))) μ) ∧
    (x1.toInt = 9 →
    vp_in (x1 - (8 : Int32)) 68 ∧
    P (some (.int (μ 83 (x1 - (8 : Int32)).toNatClampNeg))) μ) ∧
    (x1.toInt = 10 →
    vp_in (x1 - (8 : Int32)) 68 ∧
    P (some (.int (μ 83 (x1 - (8 : Int32)).toNatClampNeg))) μ) ∧
    (x1.toInt = 11 →
    P (some (.int (μ 82 7))) μ))) :
    jS g ad m_X9_count κ 17 [some (.ref 82), some (.int x1)] [] μ := by
  refine jr_iload_n dX9_count_17 rfl ?_
  obtain ⟨hD, h⟩ := h
  by_cases c : x1.toInt < 0 ∨ 11 < x1.toInt
  · have h := hD c
    refine jr_tableOut 161 dX9_count_18 c rfl ?_
    refine jr_aload_n dX9_count_161 rfl ?_
    refine jr_get 9 3 jf_RX9_62 dX9_count_162 ga_82 rfl (.int (μ 82 3)) rfl ?_
    exact js_iret hE rfl dX9_count_165 rfl h
  rcases (show x1.toInt = 0 ∨ x1.toInt = 1 ∨ x1.toInt = 2 ∨ x1.toInt = 3 ∨ x1.toInt = 4 ∨ x1.toInt = 5 ∨ x1.toInt = 6 ∨ x1.toInt = 7 ∨ x1.toInt = 8 ∨ x1.toInt = 9 ∨ x1.toInt = 10 ∨ x1.toInt = 11 by omega) with c | c | c | c | c | c | c | c | c | c | c | c
  · have h := h.1 c
    refine jr_tableIn 0 62 80 dX9_count_18 c (by decide) rfl rfl ?_
    refine jr_aload_n dX9_count_80 rfl ?_
    refine jr_get 9 0 jf_RX9_7 dX9_count_81 ga_82 rfl (.ref 83) rfl ?_
    refine jr_iconst (3 : Int32) dX9_count_84 (by decide) ?_
    refine jr_ialdn 3 dX9_count_85 ga_83 (jm_inD (by decide)) rfl ?_
    exact js_iret hE rfl dX9_count_86 rfl h
  · have h := h.2.1 c
    refine jr_tableIn 1 69 87 dX9_count_18 c (by decide) rfl rfl ?_
    refine jr_aload_n dX9_count_87 rfl ?_
    refine jr_get 9 11 jf_RX9_121 dX9_count_88 ga_82 rfl (.int (μ 82 11)) rfl ?_
    exact js_iret hE rfl dX9_count_91 rfl h
  · have h := h.2.2.1 c
    refine jr_tableIn 2 74 92 dX9_count_18 c (by decide) rfl rfl ?_
    refine jr_aload_n dX9_count_92 rfl ?_
    refine jr_get 9 0 jf_RX9_7 dX9_count_93 ga_82 rfl (.ref 83) rfl ?_
    refine jr_iconst (3 : Int32) dX9_count_96 (by decide) ?_
    refine jr_ialdn 3 dX9_count_97 ga_83 (jm_inD (by decide)) rfl ?_
    refine jr_iconst (4 : Int32) dX9_count_98 (by decide) ?_
    refine jr_aload_n dX9_count_99 rfl ?_
    refine jr_get 9 11 jf_RX9_121 dX9_count_100 ga_82 rfl (.int (μ 82 11)) rfl ?_
    refine jr_imul dX9_count_103 ?_
    refine jr_isub dX9_count_104 ?_
    exact js_iret hE rfl dX9_count_105 rfl h
  · have h := h.2.2.2.1 c
    refine jr_tableIn 3 88 106 dX9_count_18 c (by decide) rfl rfl ?_
    refine jr_aload_n dX9_count_106 rfl ?_
    refine js_drop 0 [none, some (.int x1)] rfl ?_
    refine js_drop 1 [none, none] rfl ?_
    refine js_callV (st := []) [] jc_RX9_185 rfl dX9_count_107 ga_82 rfl rfl rfl rfl (kk := ?_)
    exact h
  · have h := h.2.2.2.2.1 c
    refine jr_tableIn 4 93 111 dX9_count_18 c (by decide) rfl rfl ?_
    refine jr_aload_n dX9_count_111 rfl ?_
    refine js_drop 0 [none, some (.int x1)] rfl ?_
    refine js_drop 1 [none, none] rfl ?_
    refine js_callV (st := []) [] jc_RX9_189 rfl dX9_count_112 ga_82 rfl rfl rfl rfl (kk := ?_)
    exact h
  · have h := h.2.2.2.2.2.1 c
    refine jr_tableIn 5 98 116 dX9_count_18 c (by decide) rfl rfl ?_
    refine jr_aload_n dX9_count_116 rfl ?_
    refine js_drop 0 [none, some (.int x1)] rfl ?_
    refine js_drop 1 [none, none] rfl ?_
    refine js_callV (st := []) [] jc_RX9_192 rfl dX9_count_117 ga_82 rfl rfl rfl rfl (kk := ?_)
    exact h
  · have h := h.2.2.2.2.2.2.1 c
    refine jr_tableIn 6 103 121 dX9_count_18 c (by decide) rfl rfl ?_
    refine jr_aload_n dX9_count_121 rfl ?_
    refine js_drop 0 [none, some (.int x1)] rfl ?_
    refine js_drop 1 [none, none] rfl ?_
    refine js_callV (st := []) [] jc_RX9_195 rfl dX9_count_122 ga_82 rfl rfl rfl rfl (kk := ?_)
    exact h
  · have h := h.2.2.2.2.2.2.2.1 c
    refine jr_tableIn 7 108 126 dX9_count_18 c (by decide) rfl rfl ?_
    refine jr_aload_n dX9_count_126 rfl ?_
    refine jr_get 9 0 jf_RX9_7 dX9_count_127 ga_82 rfl (.ref 83) rfl ?_
    refine jr_iconst (0 : Int32) dX9_count_130 (by decide) ?_
    refine jr_ialdn 0 dX9_count_131 ga_83 (jm_inD (by decide)) rfl ?_
    refine js_drop 0 [none, some (.int x1)] rfl ?_
    refine js_drop 1 [none, none] rfl ?_
    refine js_callS (st := []) [.int (μ 83 0)] jc_RX9_127 rfl dX9_count_132 rfl rfl rfl (kk := ?_)
    exact h
  · have h := h.2.2.2.2.2.2.2.2.1 c
    refine jr_tableIn 8 118 136 dX9_count_18 c (by decide) rfl rfl ?_
    refine jr_aload_n dX9_count_136 rfl ?_
    refine jr_get 9 0 jf_RX9_7 dX9_count_137 ga_82 rfl (.ref 83) rfl ?_
    refine jr_iconst (0 : Int32) dX9_count_140 (by decide) ?_
    refine jr_ialdn 0 dX9_count_141 ga_83 (jm_inD (by decide)) rfl ?_
    refine jr_bipush (100 : Int32) dX9_count_142 (by decide) ?_
    refine jr_iadd dX9_count_144 ?_
    exact js_iret hE rfl dX9_count_145 rfl h
  · have h := h.2.2.2.2.2.2.2.2.2.1 c
    refine jr_tableIn 9 128 146 dX9_count_18 c (by decide) rfl rfl ?_
    refine jr_aload_n dX9_count_146 rfl ?_
    refine jr_get 9 0 jf_RX9_7 dX9_count_147 ga_82 rfl (.ref 83) rfl ?_
    refine jr_iload_n dX9_count_150 rfl ?_
    refine jr_bipush (8 : Int32) dX9_count_151 (by decide) ?_
    refine jr_isub dX9_count_153 ?_
    obtain ⟨o1, h⟩ := h
    refine jr_ialdn _ dX9_count_154 ga_83 o1 rfl ?_
    exact js_iret hE rfl dX9_count_155 rfl h
  · have h := h.2.2.2.2.2.2.2.2.2.2.1 c
    refine jr_tableIn 10 128 146 dX9_count_18 c (by decide) rfl rfl ?_
    refine jr_aload_n dX9_count_146 rfl ?_
    refine jr_get 9 0 jf_RX9_7 dX9_count_147 ga_82 rfl (.ref 83) rfl ?_
    refine jr_iload_n dX9_count_150 rfl ?_
    refine jr_bipush (8 : Int32) dX9_count_151 (by decide) ?_
    refine jr_isub dX9_count_153 ?_
    obtain ⟨o2, h⟩ := h
    refine jr_ialdn _ dX9_count_154 ga_83 o2 rfl ?_
    exact js_iret hE rfl dX9_count_155 rfl h
  · have h := h.2.2.2.2.2.2.2.2.2.2.2 c
    refine jr_tableIn 11 138 156 dX9_count_18 c (by decide) rfl rfl ?_
    refine jr_aload_n dX9_count_156 rfl ?_
    refine jr_get 9 7 jf_RX9_198 dX9_count_157 ga_82 rfl (.int (μ 82 7)) rfl ?_
    exact js_iret hE rfl dX9_count_160 rfl h

set_option maxRecDepth 100000 in
set_option maxHeartbeats 4000000 in
theorem sX9_count_110 {g : jm_G} {ad : Nat → Nat} {κ : jm_K} {P : Option Value → (Nat → Nat → Int32) → Prop} (hE : jE g ad m_X9_count P κ) {μ : Nat → Nat → Int32}  (r : Int32)
    (h : P (some (.int r)) μ) :
    jS g ad m_X9_count κ 110 [none, none] [.int r] μ := by
  exact js_iret hE rfl dX9_count_110 rfl h

set_option maxRecDepth 100000 in
set_option maxHeartbeats 4000000 in
theorem sX9_count_115 {g : jm_G} {ad : Nat → Nat} {κ : jm_K} {P : Option Value → (Nat → Nat → Int32) → Prop} (hE : jE g ad m_X9_count P κ) {μ : Nat → Nat → Int32}  (r : Int32)
    (h : P (some (.int r)) μ) :
    jS g ad m_X9_count κ 115 [none, none] [.int r] μ := by
  exact js_iret hE rfl dX9_count_115 rfl h

set_option maxRecDepth 100000 in
set_option maxHeartbeats 4000000 in
theorem sX9_count_120 {g : jm_G} {ad : Nat → Nat} {κ : jm_K} {P : Option Value → (Nat → Nat → Int32) → Prop} (hE : jE g ad m_X9_count P κ) {μ : Nat → Nat → Int32}  (r : Int32)
    (h : P (some (.int r)) μ) :
    jS g ad m_X9_count κ 120 [none, none] [.int r] μ := by
  exact js_iret hE rfl dX9_count_120 rfl h

set_option maxRecDepth 100000 in
set_option maxHeartbeats 4000000 in
theorem sX9_count_125 {g : jm_G} {ad : Nat → Nat} {κ : jm_K} {P : Option Value → (Nat → Nat → Int32) → Prop} (hE : jE g ad m_X9_count P κ) {μ : Nat → Nat → Int32}  (r : Int32)
    (h : P (some (.int r)) μ) :
    jS g ad m_X9_count κ 125 [none, none] [.int r] μ := by
  exact js_iret hE rfl dX9_count_125 rfl h

set_option maxRecDepth 100000 in
set_option maxHeartbeats 4000000 in
theorem sX9_count_135 {g : jm_G} {ad : Nat → Nat} {κ : jm_K} {P : Option Value → (Nat → Nat → Int32) → Prop} (hE : jE g ad m_X9_count P κ) {μ : Nat → Nat → Int32}  (r : Int32)
    (h : P (some (.int r)) μ) :
    jS g ad m_X9_count κ 135 [none, none] [.int r] μ := by
  exact js_iret hE rfl dX9_count_135 rfl h

set_option maxRecDepth 100000 in
set_option maxHeartbeats 4000000 in
theorem sX9_fits_0 {g : jm_G} {ad : Nat → Nat} {κ : jm_K} {P : Option Value → (Nat → Nat → Int32) → Prop} (hE : jE g ad m_X9_fits P κ) {μ : Nat → Nat → Int32}  (p1 : Int32) (p2 : Int32) (p3 : Int32)
    (h : jD g ad m_X9_isShot [.ref 82, .int p1] μ (fun v μ' => jS g ad m_X9_fits κ 5 [some (.ref 82), some (.int p1), some (.int p2), some (.int p3), none] (jm_ps v []) μ')) :
    jS g ad m_X9_fits κ 0 [some (.ref 82), some (.int p1), some (.int p2), some (.int p3), none] [] μ := by
  refine jr_aload_n dX9_fits_0 rfl ?_
  refine jr_iload_n dX9_fits_1 rfl ?_
  refine js_callV (st := []) [.int p1] jc_RX9_182 rfl dX9_fits_2 ga_82 rfl rfl rfl rfl (kk := ?_)
  exact h

set_option maxRecDepth 100000 in
set_option maxHeartbeats 4000000 in
theorem sX9_fits_5 {g : jm_G} {ad : Nat → Nat} {κ : jm_K} {P : Option Value → (Nat → Nat → Int32) → Prop} (hE : jE g ad m_X9_fits P κ) {μ : Nat → Nat → Int32}  (x1 : Int32) (x2 : Int32) (x3 : Int32) (r : Int32)
    (h : ((r = 0 →
    P (some (.int (-1 : Int32))) μ) ∧
    (¬ r = 0 →
    jD g ad m_X9_isPoint [.int x2, .int x3] μ (fun v μ' => jS g ad m_X9_fits κ 13 [some (.ref 82), some (.int x1), some (.int x2), some (.int x3), none] (jm_ps v []) μ')))) :
    jS g ad m_X9_fits κ 5 [some (.ref 82), some (.int x1), some (.int x2), some (.int x3), none] [.int r] μ := by
  obtain ⟨hA, hB⟩ := h
  refine jr_if_eq 16 dX9_fits_5 rfl (fun c => ?_) (fun c => ?_)
  · have h := hA c
    refine jr_iconst (-1 : Int32) dX9_fits_16 (by decide) ?_
    exact js_iret hE rfl dX9_fits_17 rfl h
  · have h := hB c
    refine jr_iload_n dX9_fits_8 rfl ?_
    refine jr_iload_n dX9_fits_9 rfl ?_
    refine js_callS (st := []) [.int x2, .int x3] jc_RX9_169 rfl dX9_fits_10 rfl rfl rfl (kk := ?_)
    exact h

set_option maxRecDepth 100000 in
set_option maxHeartbeats 4000000 in
theorem sX9_fits_13 {g : jm_G} {ad : Nat → Nat} {κ : jm_K} {P : Option Value → (Nat → Nat → Int32) → Prop} (hE : jE g ad m_X9_fits P κ) {μ : Nat → Nat → Int32}  (x1 : Int32) (x2 : Int32) (x3 : Int32) (r : Int32)
    (h : ((¬ r = 0 →
    jS g ad m_X9_fits κ 21 [some (.ref 82), some (.int x1), some (.int x2), some (.int x3), some (.int (0 : Int32))] [] μ) ∧
    (r = 0 →
    P (some (.int (-1 : Int32))) μ))) :
    jS g ad m_X9_fits κ 13 [some (.ref 82), some (.int x1), some (.int x2), some (.int x3), none] [.int r] μ := by
  obtain ⟨hA, hB⟩ := h
  refine jr_if_ne 18 dX9_fits_13 rfl (fun c => ?_) (fun c => ?_)
  · have h := hA c
    refine jr_iconst (0 : Int32) dX9_fits_18 (by decide) ?_
    refine jr_istore [some (.ref 82), some (.int x1), some (.int x2), some (.int x3), some (.int (0 : Int32))] dX9_fits_19 rfl rfl rfl ?_
    exact h
  · have h := hB c
    refine jr_iconst (-1 : Int32) dX9_fits_16 (by decide) ?_
    exact js_iret hE rfl dX9_fits_17 rfl h

set_option maxRecDepth 100000 in
set_option maxHeartbeats 4000000 in
theorem sX9_fits_21 {g : jm_G} {ad : Nat → Nat} {κ : jm_K} {P : Option Value → (Nat → Nat → Int32) → Prop} (hE : jE g ad m_X9_fits P κ) {μ : Nat → Nat → Int32}  (x1 : Int32) (x2 : Int32) (x3 : Int32) (x4 : Int32)
    (h : (((4 : Int32) ≤ x4 →
    jD g ad m_X9_spreadAt [.ref 82, .int (((41 : Int32) * x3) + x2)] μ (fun v μ' => jS g ad m_X9_fits κ 61 [none, none, none, none, none] (jm_ps v []) μ')) ∧
    (¬ (4 : Int32) ≤ x4 →
    vp_in (((4 : Int32) * x1) + x4) 32 ∧
    vp_in x4 4 ∧
    (∀ μ3 : Nat → Nat → Int32, μ3 = jm_st μ 96 x4.toNatClampNeg (μ 95 (((4 : Int32) * x1) + x4).toNatClampNeg) →
    jS g ad m_X9_fits κ 21 [some (.ref 82), some (.int x1), some (.int x2), some (.int x3), some (.int (x4 + 1))] [] μ3)))) :
    jS g ad m_X9_fits κ 21 [some (.ref 82), some (.int x1), some (.int x2), some (.int x3), some (.int x4)] [] μ := by
  refine jr_iload dX9_fits_21 rfl ?_
  refine jr_iconst (4 : Int32) dX9_fits_23 (by decide) ?_
  obtain ⟨hA, hB⟩ := h
  refine jr_icmp_ge 51 dX9_fits_24 rfl (fun c => ?_) (fun c => ?_)
  · have h := hA c
    refine jr_aload_n dX9_fits_51 rfl ?_
    refine jr_bipush (41 : Int32) dX9_fits_52 (by decide) ?_
    refine jr_iload_n dX9_fits_54 rfl ?_
    refine jr_imul dX9_fits_55 ?_
    refine jr_iload_n dX9_fits_56 rfl ?_
    refine jr_iadd dX9_fits_57 ?_
    refine js_drop 0 [none, some (.int x1), some (.int x2), some (.int x3), some (.int x4)] rfl ?_
    refine js_drop 1 [none, none, some (.int x2), some (.int x3), some (.int x4)] rfl ?_
    refine js_drop 2 [none, none, none, some (.int x3), some (.int x4)] rfl ?_
    refine js_drop 3 [none, none, none, none, some (.int x4)] rfl ?_
    refine js_drop 4 [none, none, none, none, none] rfl ?_
    refine js_callV (st := []) [.int (((41 : Int32) * x3) + x2)] jc_RX9_98 rfl dX9_fits_58 ga_82 rfl rfl rfl rfl (kk := ?_)
    exact h
  · have h := hB c
    refine jr_aload_n dX9_fits_27 rfl ?_
    refine jr_get 9 17 jf_RX9_49 dX9_fits_28 ga_82 rfl (.ref 96) rfl ?_
    refine jr_iload dX9_fits_31 rfl ?_
    refine jr_aload_n dX9_fits_33 rfl ?_
    refine jr_get 9 16 jf_RX9_46 dX9_fits_34 ga_82 rfl (.ref 95) rfl ?_
    refine jr_iconst (4 : Int32) dX9_fits_37 (by decide) ?_
    refine jr_iload_n dX9_fits_38 rfl ?_
    refine jr_imul dX9_fits_39 ?_
    refine jr_iload dX9_fits_40 rfl ?_
    refine jr_iadd dX9_fits_42 ?_
    obtain ⟨o1, h⟩ := h
    refine jr_ialdn _ dX9_fits_43 ga_95 o1 rfl ?_
    obtain ⟨o2, h⟩ := h
    refine jr_iastn _ dX9_fits_44 ga_96 o2 rfl ?_
    obtain ⟨μ3, e3⟩ : ∃ x : Nat → Nat → Int32, x = jm_st μ 96 x4.toNatClampNeg (μ 95 (((4 : Int32) * x1) + x4).toNatClampNeg) := ⟨_, rfl⟩
    have h := h μ3 e3
    refine js_mem e3 ?_
    refine jr_iinc [some (.ref 82), some (.int x1), some (.int x2), some (.int x3), some (.int (x4 + 1))] dX9_fits_45 rfl rfl rfl rfl rfl ?_
    refine jr_goto 21 dX9_fits_48 rfl ?_
    exact h

set_option maxRecDepth 100000 in
set_option maxHeartbeats 4000000 in
theorem sX9_fits_61 {g : jm_G} {ad : Nat → Nat} {κ : jm_K} {P : Option Value → (Nat → Nat → Int32) → Prop} (hE : jE g ad m_X9_fits P κ) {μ : Nat → Nat → Int32}  (r : Int32)
    (h : P (some (.int r)) μ) :
    jS g ad m_X9_fits κ 61 [none, none, none, none, none] [.int r] μ := by
  exact js_iret hE rfl dX9_fits_61 rfl h

set_option maxRecDepth 100000 in
set_option maxHeartbeats 4000000 in
theorem sX9_mean_0 {g : jm_G} {ad : Nat → Nat} {κ : jm_K} {P : Option Value → (Nat → Nat → Int32) → Prop} (hE : jE g ad m_X9_mean P κ) {μ : Nat → Nat → Int32}  (p1 : Int32)
    (h : jD g ad m_X9_within [.int p1, .int (0 : Int32), .int (1 : Int32)] μ (fun v μ' => jS g ad m_X9_mean κ 6 [some (.ref 82), some (.int p1), none, none] (jm_ps v []) μ')) :
    jS g ad m_X9_mean κ 0 [some (.ref 82), some (.int p1), none, none] [] μ := by
  refine jr_iload_n dX9_mean_0 rfl ?_
  refine jr_iconst (0 : Int32) dX9_mean_1 (by decide) ?_
  refine jr_iconst (1 : Int32) dX9_mean_2 (by decide) ?_
  refine js_callS (st := []) [.int p1, .int (0 : Int32), .int (1 : Int32)] jc_RX9_70 rfl dX9_mean_3 rfl rfl rfl (kk := ?_)
  exact h

set_option maxRecDepth 100000 in
set_option maxHeartbeats 4000000 in
theorem sX9_mean_6 {g : jm_G} {ad : Nat → Nat} {κ : jm_K} {P : Option Value → (Nat → Nat → Int32) → Prop} (hE : jE g ad m_X9_mean P κ) {μ : Nat → Nat → Int32}  (x1 : Int32) (r : Int32)
    (h : ((¬ r = 0 →
    jD g ad m_X9_find [.ref 82] μ (fun v μ' => jS g ad m_X9_mean κ 16 [some (.ref 82), some (.int x1), none, none] (jm_ps v []) μ')) ∧
    (r = 0 →
    P (some (.int (-2 : Int32))) μ))) :
    jS g ad m_X9_mean κ 6 [some (.ref 82), some (.int x1), none, none] [.int r] μ := by
  obtain ⟨hA, hB⟩ := h
  refine jr_if_ne 12 dX9_mean_6 rfl (fun c => ?_) (fun c => ?_)
  · have h := hA c
    refine jr_aload_n dX9_mean_12 rfl ?_
    refine js_callV (st := []) [] jc_RX9_179 rfl dX9_mean_13 ga_82 rfl rfl rfl rfl (kk := ?_)
    exact h
  · have h := hB c
    refine jr_bipush (-2 : Int32) dX9_mean_9 (by decide) ?_
    exact js_iret hE rfl dX9_mean_11 rfl h

set_option maxRecDepth 100000 in
set_option maxHeartbeats 4000000 in
theorem sX9_mean_16 {g : jm_G} {ad : Nat → Nat} {κ : jm_K} {P : Option Value → (Nat → Nat → Int32) → Prop} (hE : jE g ad m_X9_mean P κ) {μ : Nat → Nat → Int32}  (x1 : Int32)
    (h : jS g ad m_X9_mean κ 20 [some (.ref 82), some (.int x1), some (.int (0 : Int32)), some (.int (0 : Int32))] [] μ) :
    jS g ad m_X9_mean κ 16 [some (.ref 82), some (.int x1), none, none] [] μ := by
  refine jr_iconst (0 : Int32) dX9_mean_16 (by decide) ?_
  refine jr_istore_n [some (.ref 82), some (.int x1), some (.int (0 : Int32)), none] dX9_mean_17 rfl rfl rfl ?_
  refine jr_iconst (0 : Int32) dX9_mean_18 (by decide) ?_
  refine jr_istore_n [some (.ref 82), some (.int x1), some (.int (0 : Int32)), some (.int (0 : Int32))] dX9_mean_19 rfl rfl rfl ?_
  exact h

set_option maxRecDepth 100000 in
set_option maxHeartbeats 4000000 in
theorem sX9_mean_20 {g : jm_G} {ad : Nat → Nat} {κ : jm_K} {P : Option Value → (Nat → Nat → Int32) → Prop} (hE : jE g ad m_X9_mean P κ) {μ : Nat → Nat → Int32}  (x1 : Int32) (x2 : Int32) (x3 : Int32)
    (h : (((μ 82 11) ≤ x3 →
    ((¬ (μ 82 11) = 0 →
    (μ 82 11) ≠ 0 ∧
    P (some (.int (((100 : Int32) * x2) / (μ 82 11)))) μ) ∧
    ((μ 82 11) = 0 →
    P (some (.int (-6 : Int32))) μ))) ∧
    (¬ (μ 82 11) ≤ x3 →
    ((¬ x1 = 0 →
    vp_in x3 8 ∧
    jS g ad m_X9_mean κ 20 [some (.ref 82), some (.int x1), some (.int (x2 + ((μ 92 x3.toNatClampNeg) / (41 : Int32)))), some (.int (x3 + 1))] [] μ) ∧
    (x1 = 0 →
    vp_in x3 8 ∧
    jS g ad m_X9_mean κ 20 [some (.ref 82), some (.int x1), some (.int (x2 + ((μ 92 x3.toNatClampNeg) - (μ 92 x3.toNatClampNeg) / (41 : Int32) * (41 : Int32)))), some (.int (x3 + 1))] [] μ))))) :
    jS g ad m_X9_mean κ 20 [some (.ref 82), some (.int x1), some (.int x2), some (.int x3)] [] μ := by
  refine jr_iload_n dX9_mean_20 rfl ?_
  refine jr_aload_n dX9_mean_21 rfl ?_
  refine jr_get 9 11 jf_RX9_121 dX9_mean_22 ga_82 rfl (.int (μ 82 11)) rfl ?_
  obtain ⟨hA, hB⟩ := h
  refine jr_icmp_ge 62 dX9_mean_25 rfl (fun c => ?_) (fun c => ?_)
  · have h := hA c
    refine jr_aload_n dX9_mean_62 rfl ?_
    refine jr_get 9 11 jf_RX9_121 dX9_mean_63 ga_82 rfl (.int (μ 82 11)) rfl ?_
    obtain ⟨hA, hB⟩ := h
    refine jr_if_ne 74 dX9_mean_66 rfl (fun c => ?_) (fun c => ?_)
    · have h := hA c
      refine jr_bipush (100 : Int32) dX9_mean_74 (by decide) ?_
      refine jr_iload_n dX9_mean_76 rfl ?_
      refine jr_imul dX9_mean_77 ?_
      refine jr_aload_n dX9_mean_78 rfl ?_
      refine jr_get 9 11 jf_RX9_121 dX9_mean_79 ga_82 rfl (.int (μ 82 11)) rfl ?_
      obtain ⟨o1, h⟩ := h
      refine jr_idiv dX9_mean_82 o1 ?_
      exact js_iret hE rfl dX9_mean_83 rfl h
    · have h := hB c
      refine jr_bipush (-6 : Int32) dX9_mean_69 (by decide) ?_
      refine jr_goto 83 dX9_mean_71 rfl ?_
      exact js_iret hE rfl dX9_mean_83 rfl h
  · have h := hB c
    refine jr_iload_n dX9_mean_28 rfl ?_
    refine jr_iload_n dX9_mean_29 rfl ?_
    obtain ⟨hA, hB⟩ := h
    refine jr_if_ne 45 dX9_mean_30 rfl (fun c => ?_) (fun c => ?_)
    · have h := hA c
      refine jr_aload_n dX9_mean_45 rfl ?_
      refine jr_get 9 13 jf_RX9_37 dX9_mean_46 ga_82 rfl (.ref 92) rfl ?_
      refine jr_iload_n dX9_mean_49 rfl ?_
      obtain ⟨o2, h⟩ := h
      refine jr_ialdn _ dX9_mean_50 ga_92 o2 rfl ?_
      refine jr_bipush (41 : Int32) dX9_mean_51 (by decide) ?_
      refine jr_idiv dX9_mean_53 (by decide) ?_
      refine jr_iadd dX9_mean_54 ?_
      refine jr_istore_n [some (.ref 82), some (.int x1), some (.int (x2 + ((μ 92 x3.toNatClampNeg) / (41 : Int32)))), some (.int x3)] dX9_mean_55 rfl rfl rfl ?_
      refine jr_iinc [some (.ref 82), some (.int x1), some (.int (x2 + ((μ 92 x3.toNatClampNeg) / (41 : Int32)))), some (.int (x3 + 1))] dX9_mean_56 rfl rfl rfl rfl rfl ?_
      refine jr_goto 20 dX9_mean_59 rfl ?_
      exact h
    · have h := hB c
      refine jr_aload_n dX9_mean_33 rfl ?_
      refine jr_get 9 13 jf_RX9_37 dX9_mean_34 ga_82 rfl (.ref 92) rfl ?_
      refine jr_iload_n dX9_mean_37 rfl ?_
      obtain ⟨o3, h⟩ := h
      refine jr_ialdn _ dX9_mean_38 ga_92 o3 rfl ?_
      refine jr_bipush (41 : Int32) dX9_mean_39 (by decide) ?_
      refine jr_irem dX9_mean_41 (by decide) ?_
      refine jr_goto 54 dX9_mean_42 rfl ?_
      refine jr_iadd dX9_mean_54 ?_
      refine jr_istore_n [some (.ref 82), some (.int x1), some (.int (x2 + ((μ 92 x3.toNatClampNeg) - (μ 92 x3.toNatClampNeg) / (41 : Int32) * (41 : Int32)))), some (.int x3)] dX9_mean_55 rfl rfl rfl ?_
      refine jr_iinc [some (.ref 82), some (.int x1), some (.int (x2 + ((μ 92 x3.toNatClampNeg) - (μ 92 x3.toNatClampNeg) / (41 : Int32) * (41 : Int32)))), some (.int (x3 + 1))] dX9_mean_56 rfl rfl rfl rfl rfl ?_
      refine jr_goto 20 dX9_mean_59 rfl ?_
      exact h

set_option maxRecDepth 100000 in
set_option maxHeartbeats 4000000 in
theorem sX9_ifHeat_0 {g : jm_G} {ad : Nat → Nat} {κ : jm_K} {P : Option Value → (Nat → Nat → Int32) → Prop} (hE : jE g ad m_X9_ifHeat P κ) {μ : Nat → Nat → Int32}  (p1 : Int32) (p2 : Int32)
    (h : jD g ad m_X9_within [.int p1, .int (-30 : Int32), .int (50 : Int32)] μ (fun v μ' => jS g ad m_X9_ifHeat κ 8 [some (.ref 82), some (.int p1), some (.int p2)] (jm_ps v []) μ')) :
    jS g ad m_X9_ifHeat κ 0 [some (.ref 82), some (.int p1), some (.int p2)] [] μ := by
  refine jr_iload_n dX9_ifHeat_0 rfl ?_
  refine jr_bipush (-30 : Int32) dX9_ifHeat_1 (by decide) ?_
  refine jr_bipush (50 : Int32) dX9_ifHeat_3 (by decide) ?_
  refine js_callS (st := []) [.int p1, .int (-30 : Int32), .int (50 : Int32)] jc_RX9_70 rfl dX9_ifHeat_5 rfl rfl rfl (kk := ?_)
  exact h

set_option maxRecDepth 100000 in
set_option maxHeartbeats 4000000 in
theorem sX9_ifHeat_8 {g : jm_G} {ad : Nat → Nat} {κ : jm_K} {P : Option Value → (Nat → Nat → Int32) → Prop} (hE : jE g ad m_X9_ifHeat P κ) {μ : Nat → Nat → Int32}  (x1 : Int32) (x2 : Int32) (r : Int32)
    (h : ((r = 0 →
    P (some (.int (-2 : Int32))) μ) ∧
    (¬ r = 0 →
    jD g ad m_X9_within [.int x2, .int (0 : Int32), .int (2 : Int32)] μ (fun v μ' => jS g ad m_X9_ifHeat κ 17 [some (.ref 82), some (.int x1), some (.int x2)] (jm_ps v []) μ')))) :
    jS g ad m_X9_ifHeat κ 8 [some (.ref 82), some (.int x1), some (.int x2)] [.int r] μ := by
  obtain ⟨hA, hB⟩ := h
  refine jr_if_eq 20 dX9_ifHeat_8 rfl (fun c => ?_) (fun c => ?_)
  · have h := hA c
    refine jr_bipush (-2 : Int32) dX9_ifHeat_20 (by decide) ?_
    exact js_iret hE rfl dX9_ifHeat_22 rfl h
  · have h := hB c
    refine jr_iload_n dX9_ifHeat_11 rfl ?_
    refine jr_iconst (0 : Int32) dX9_ifHeat_12 (by decide) ?_
    refine jr_iconst (2 : Int32) dX9_ifHeat_13 (by decide) ?_
    refine js_callS (st := []) [.int x2, .int (0 : Int32), .int (2 : Int32)] jc_RX9_70 rfl dX9_ifHeat_14 rfl rfl rfl (kk := ?_)
    exact h

set_option maxRecDepth 100000 in
set_option maxHeartbeats 4000000 in
theorem sX9_ifHeat_17 {g : jm_G} {ad : Nat → Nat} {κ : jm_K} {P : Option Value → (Nat → Nat → Int32) → Prop} (hE : jE g ad m_X9_ifHeat P κ) {μ : Nat → Nat → Int32}  (x1 : Int32) (x2 : Int32) (r : Int32)
    (h : ((¬ r = 0 →
    jD g ad m_X9_findShots [.ref 82, .int x1] μ (fun v μ' => jS g ad m_X9_ifHeat κ 28 [some (.ref 82), none, some (.int x2)] (jm_ps v []) μ')) ∧
    (r = 0 →
    P (some (.int (-2 : Int32))) μ))) :
    jS g ad m_X9_ifHeat κ 17 [some (.ref 82), some (.int x1), some (.int x2)] [.int r] μ := by
  obtain ⟨hA, hB⟩ := h
  refine jr_if_ne 23 dX9_ifHeat_17 rfl (fun c => ?_) (fun c => ?_)
  · have h := hA c
    refine jr_aload_n dX9_ifHeat_23 rfl ?_
    refine jr_iload_n dX9_ifHeat_24 rfl ?_
    refine js_drop 1 [some (.ref 82), none, some (.int x2)] rfl ?_
    refine js_callV (st := []) [.int x1] jc_RX9_143 rfl dX9_ifHeat_25 ga_82 rfl rfl rfl rfl (kk := ?_)
    exact h
  · have h := hB c
    refine jr_bipush (-2 : Int32) dX9_ifHeat_20 (by decide) ?_
    exact js_iret hE rfl dX9_ifHeat_22 rfl h

set_option maxRecDepth 100000 in
set_option maxHeartbeats 4000000 in
theorem sX9_ifHeat_28 {g : jm_G} {ad : Nat → Nat} {κ : jm_K} {P : Option Value → (Nat → Nat → Int32) → Prop} (hE : jE g ad m_X9_ifHeat P κ) {μ : Nat → Nat → Int32}  (x2 : Int32)
    (h : ((¬ x2 = 0 →
    ((¬ x2 = (1 : Int32) →
    jD g ad m_X9_sumOfSpreads [.ref 82] μ (fun v μ' => jS g ad m_X9_ifHeat κ 55 [none, none, none] (jm_ps v []) μ')) ∧
    (x2 = (1 : Int32) →
    jD g ad m_X9_sumOfRings [.ref 82] μ (fun v μ' => jS g ad m_X9_ifHeat κ 48 [none, none, none] (jm_ps v []) μ')))) ∧
    (x2 = 0 →
    P (some (.int (μ 82 11))) μ))) :
    jS g ad m_X9_ifHeat κ 28 [some (.ref 82), none, some (.int x2)] [] μ := by
  refine jr_iload_n dX9_ifHeat_28 rfl ?_
  obtain ⟨hA, hB⟩ := h
  refine jr_if_ne 39 dX9_ifHeat_29 rfl (fun c => ?_) (fun c => ?_)
  · have h := hA c
    refine jr_iload_n dX9_ifHeat_39 rfl ?_
    refine jr_iconst (1 : Int32) dX9_ifHeat_40 (by decide) ?_
    obtain ⟨hA, hB⟩ := h
    refine jr_icmp_ne 51 dX9_ifHeat_41 rfl (fun c => ?_) (fun c => ?_)
    · have h := hA c
      refine jr_aload_n dX9_ifHeat_51 rfl ?_
      refine js_drop 0 [none, none, some (.int x2)] rfl ?_
      refine js_drop 2 [none, none, none] rfl ?_
      refine js_callV (st := []) [] jc_RX9_192 rfl dX9_ifHeat_52 ga_82 rfl rfl rfl rfl (kk := ?_)
      exact h
    · have h := hB c
      refine jr_aload_n dX9_ifHeat_44 rfl ?_
      refine js_drop 0 [none, none, some (.int x2)] rfl ?_
      refine js_drop 2 [none, none, none] rfl ?_
      refine js_callV (st := []) [] jc_RX9_185 rfl dX9_ifHeat_45 ga_82 rfl rfl rfl rfl (kk := ?_)
      exact h
  · have h := hB c
    refine jr_aload_n dX9_ifHeat_32 rfl ?_
    refine jr_get 9 11 jf_RX9_121 dX9_ifHeat_33 ga_82 rfl (.int (μ 82 11)) rfl ?_
    refine jr_goto 55 dX9_ifHeat_36 rfl ?_
    exact js_iret hE rfl dX9_ifHeat_55 rfl h

set_option maxRecDepth 100000 in
set_option maxHeartbeats 4000000 in
theorem sX9_ifHeat_55 {g : jm_G} {ad : Nat → Nat} {κ : jm_K} {P : Option Value → (Nat → Nat → Int32) → Prop} (hE : jE g ad m_X9_ifHeat P κ) {μ : Nat → Nat → Int32}  (r : Int32)
    (h : P (some (.int r)) μ) :
    jS g ad m_X9_ifHeat κ 55 [none, none, none] [.int r] μ := by
  exact js_iret hE rfl dX9_ifHeat_55 rfl h

set_option maxRecDepth 100000 in
set_option maxHeartbeats 4000000 in
theorem sX9_ifHeat_48 {g : jm_G} {ad : Nat → Nat} {κ : jm_K} {P : Option Value → (Nat → Nat → Int32) → Prop} (hE : jE g ad m_X9_ifHeat P κ) {μ : Nat → Nat → Int32}  (r : Int32)
    (h : P (some (.int r)) μ) :
    jS g ad m_X9_ifHeat κ 48 [none, none, none] [.int r] μ := by
  refine jr_goto 55 dX9_ifHeat_48 rfl ?_
  exact js_iret hE rfl dX9_ifHeat_55 rfl h

set_option maxRecDepth 100000 in
set_option maxHeartbeats 4000000 in
theorem sX9_bestHeat_0 {g : jm_G} {ad : Nat → Nat} {κ : jm_K} {P : Option Value → (Nat → Nat → Int32) → Prop} (hE : jE g ad m_X9_bestHeat P κ) {μ : Nat → Nat → Int32}  
    (h : jS g ad m_X9_bestHeat κ 11 [some (.ref 82), some (.int (-6 : Int32)), some (.int (0 : Int32)), some (.int (0 : Int32)), some (.int (-30 : Int32)), none] [] μ) :
    jS g ad m_X9_bestHeat κ 0 [some (.ref 82), none, none, none, none, none] [] μ := by
  refine jr_bipush (-6 : Int32) dX9_bestHeat_0 (by decide) ?_
  refine jr_istore_n [some (.ref 82), some (.int (-6 : Int32)), none, none, none, none] dX9_bestHeat_2 rfl rfl rfl ?_
  refine jr_iconst (0 : Int32) dX9_bestHeat_3 (by decide) ?_
  refine jr_istore_n [some (.ref 82), some (.int (-6 : Int32)), some (.int (0 : Int32)), none, none, none] dX9_bestHeat_4 rfl rfl rfl ?_
  refine jr_iconst (0 : Int32) dX9_bestHeat_5 (by decide) ?_
  refine jr_istore_n [some (.ref 82), some (.int (-6 : Int32)), some (.int (0 : Int32)), some (.int (0 : Int32)), none, none] dX9_bestHeat_6 rfl rfl rfl ?_
  refine jr_bipush (-30 : Int32) dX9_bestHeat_7 (by decide) ?_
  refine jr_istore [some (.ref 82), some (.int (-6 : Int32)), some (.int (0 : Int32)), some (.int (0 : Int32)), some (.int (-30 : Int32)), none] dX9_bestHeat_9 rfl rfl rfl ?_
  exact h

set_option maxRecDepth 100000 in
set_option maxHeartbeats 4000000 in
theorem sX9_bestHeat_11 {g : jm_G} {ad : Nat → Nat} {κ : jm_K} {P : Option Value → (Nat → Nat → Int32) → Prop} (hE : jE g ad m_X9_bestHeat P κ) {μ : Nat → Nat → Int32}  (x1 : Int32) (x2 : Int32) (x3 : Int32) (x4 : Int32)
    (h : (((50 : Int32) < x4 →
    P (some (.int x1)) μ) ∧
    (¬ (50 : Int32) < x4 →
    jD g ad m_X9_findShots [.ref 82, .int x4] μ (fun v μ' => jS g ad m_X9_bestHeat κ 24 [some (.ref 82), some (.int x1), some (.int x2), some (.int x3), some (.int x4), none] (jm_ps v []) μ')))) :
    jS g ad m_X9_bestHeat κ 11 [some (.ref 82), some (.int x1), some (.int x2), some (.int x3), some (.int x4), none] [] μ := by
  refine jr_iload dX9_bestHeat_11 rfl ?_
  refine jr_bipush (50 : Int32) dX9_bestHeat_13 (by decide) ?_
  obtain ⟨hA, hB⟩ := h
  refine jr_icmp_gt 110 dX9_bestHeat_15 rfl (fun c => ?_) (fun c => ?_)
  · have h := hA c
    refine jr_iload_n dX9_bestHeat_110 rfl ?_
    exact js_iret hE rfl dX9_bestHeat_111 rfl h
  · have h := hB c
    refine jr_aload_n dX9_bestHeat_18 rfl ?_
    refine jr_iload dX9_bestHeat_19 rfl ?_
    refine js_callV (st := []) [.int x4] jc_RX9_143 rfl dX9_bestHeat_21 ga_82 rfl rfl rfl rfl (kk := ?_)
    exact h

set_option maxRecDepth 100000 in
set_option maxHeartbeats 4000000 in
theorem sX9_bestHeat_24 {g : jm_G} {ad : Nat → Nat} {κ : jm_K} {P : Option Value → (Nat → Nat → Int32) → Prop} (hE : jE g ad m_X9_bestHeat P κ) {μ : Nat → Nat → Int32}  (x1 : Int32) (x2 : Int32) (x3 : Int32) (x4 : Int32)
    (h : ((x1 = (-6 : Int32) →
    jS g ad m_X9_bestHeat κ 61 [some (.ref 82), some (.int x1), some (.int x2), some (.int x3), some (.int x4), some (.int (1 : Int32))] [] μ) ∧
    (¬ x1 = (-6 : Int32) →
    ((x2 < (μ 82 11) →
    jS g ad m_X9_bestHeat κ 61 [some (.ref 82), some (.int x1), some (.int x2), some (.int x3), some (.int x4), some (.int (1 : Int32))] [] μ) ∧
    (¬ x2 < (μ 82 11) →
    ((¬ (μ 82 11) = x2 →
    jS g ad m_X9_bestHeat κ 61 [some (.ref 82), some (.int x1), some (.int x2), some (.int x3), some (.int x4), some (.int (0 : Int32))] [] μ) ∧
    ((μ 82 11) = x2 →
    jD g ad m_X9_sumOfSpreads [.ref 82] μ (fun v μ' => jS g ad m_X9_bestHeat κ 50 [some (.ref 82), some (.int x1), some (.int x2), some (.int x3), some (.int x4), none] (jm_ps v []) μ')))))))) :
    jS g ad m_X9_bestHeat κ 24 [some (.ref 82), some (.int x1), some (.int x2), some (.int x3), some (.int x4), none] [] μ := by
  refine jr_iload_n dX9_bestHeat_24 rfl ?_
  refine jr_bipush (-6 : Int32) dX9_bestHeat_25 (by decide) ?_
  obtain ⟨hA, hB⟩ := h
  refine jr_icmp_eq 54 dX9_bestHeat_27 rfl (fun c => ?_) (fun c => ?_)
  · have h := hA c
    refine jr_iconst (1 : Int32) dX9_bestHeat_54 (by decide) ?_
    refine jr_goto 59 dX9_bestHeat_55 rfl ?_
    refine jr_istore [some (.ref 82), some (.int x1), some (.int x2), some (.int x3), some (.int x4), some (.int (1 : Int32))] dX9_bestHeat_59 rfl rfl rfl ?_
    exact h
  · have h := hB c
    refine jr_aload_n dX9_bestHeat_30 rfl ?_
    refine jr_get 9 11 jf_RX9_121 dX9_bestHeat_31 ga_82 rfl (.int (μ 82 11)) rfl ?_
    refine jr_iload_n dX9_bestHeat_34 rfl ?_
    obtain ⟨hA, hB⟩ := h
    refine jr_icmp_gt 54 dX9_bestHeat_35 rfl (fun c => ?_) (fun c => ?_)
    · have h := hA c
      refine jr_iconst (1 : Int32) dX9_bestHeat_54 (by decide) ?_
      refine jr_goto 59 dX9_bestHeat_55 rfl ?_
      refine jr_istore [some (.ref 82), some (.int x1), some (.int x2), some (.int x3), some (.int x4), some (.int (1 : Int32))] dX9_bestHeat_59 rfl rfl rfl ?_
      exact h
    · have h := hB c
      refine jr_aload_n dX9_bestHeat_38 rfl ?_
      refine jr_get 9 11 jf_RX9_121 dX9_bestHeat_39 ga_82 rfl (.int (μ 82 11)) rfl ?_
      refine jr_iload_n dX9_bestHeat_42 rfl ?_
      obtain ⟨hA, hB⟩ := h
      refine jr_icmp_ne 58 dX9_bestHeat_43 rfl (fun c => ?_) (fun c => ?_)
      · have h := hA c
        refine jr_iconst (0 : Int32) dX9_bestHeat_58 (by decide) ?_
        refine jr_istore [some (.ref 82), some (.int x1), some (.int x2), some (.int x3), some (.int x4), some (.int (0 : Int32))] dX9_bestHeat_59 rfl rfl rfl ?_
        exact h
      · have h := hB c
        refine jr_aload_n dX9_bestHeat_46 rfl ?_
        refine js_callV (st := []) [] jc_RX9_192 rfl dX9_bestHeat_47 ga_82 rfl rfl rfl rfl (kk := ?_)
        exact h

set_option maxRecDepth 100000 in
set_option maxHeartbeats 4000000 in
theorem sX9_bestHeat_61 {g : jm_G} {ad : Nat → Nat} {κ : jm_K} {P : Option Value → (Nat → Nat → Int32) → Prop} (hE : jE g ad m_X9_bestHeat P κ) {μ : Nat → Nat → Int32}  (x1 : Int32) (x2 : Int32) (x3 : Int32) (x4 : Int32) (x5 : Int32)
    (h : ((x5 = 0 →
    jS g ad m_X9_bestHeat κ 76 [some (.ref 82), some (.int x1), some (.int x2), some (.int x3), some (.int x4), some (.int x5)] [] μ) ∧
    (¬ x5 = 0 →
    jS g ad m_X9_bestHeat κ 76 [some (.ref 82), some (.int (x4 + (100 : Int32))), some (.int x2), some (.int x3), some (.int x4), some (.int x5)] [] μ))) :
    jS g ad m_X9_bestHeat κ 61 [some (.ref 82), some (.int x1), some (.int x2), some (.int x3), some (.int x4), some (.int x5)] [] μ := by
  refine jr_iload dX9_bestHeat_61 rfl ?_
  obtain ⟨hA, hB⟩ := h
  refine jr_if_eq 74 dX9_bestHeat_63 rfl (fun c => ?_) (fun c => ?_)
  · have h := hA c
    refine jr_iload_n dX9_bestHeat_74 rfl ?_
    refine jr_istore_n [some (.ref 82), some (.int x1), some (.int x2), some (.int x3), some (.int x4), some (.int x5)] dX9_bestHeat_75 rfl rfl rfl ?_
    exact h
  · have h := hB c
    refine jr_iload dX9_bestHeat_66 rfl ?_
    refine jr_bipush (100 : Int32) dX9_bestHeat_68 (by decide) ?_
    refine jr_iadd dX9_bestHeat_70 ?_
    refine jr_goto 75 dX9_bestHeat_71 rfl ?_
    refine jr_istore_n [some (.ref 82), some (.int (x4 + (100 : Int32))), some (.int x2), some (.int x3), some (.int x4), some (.int x5)] dX9_bestHeat_75 rfl rfl rfl ?_
    exact h

set_option maxRecDepth 100000 in
set_option maxHeartbeats 4000000 in
theorem sX9_bestHeat_50 {g : jm_G} {ad : Nat → Nat} {κ : jm_K} {P : Option Value → (Nat → Nat → Int32) → Prop} (hE : jE g ad m_X9_bestHeat P κ) {μ : Nat → Nat → Int32}  (x1 : Int32) (x2 : Int32) (x3 : Int32) (x4 : Int32) (r : Int32)
    (h : ((x3 ≤ r →
    jS g ad m_X9_bestHeat κ 61 [some (.ref 82), some (.int x1), some (.int x2), some (.int x3), some (.int x4), some (.int (0 : Int32))] [] μ) ∧
    (¬ x3 ≤ r →
    jS g ad m_X9_bestHeat κ 61 [some (.ref 82), some (.int x1), some (.int x2), some (.int x3), some (.int x4), some (.int (1 : Int32))] [] μ))) :
    jS g ad m_X9_bestHeat κ 50 [some (.ref 82), some (.int x1), some (.int x2), some (.int x3), some (.int x4), none] [.int r] μ := by
  refine jr_iload_n dX9_bestHeat_50 rfl ?_
  obtain ⟨hA, hB⟩ := h
  refine jr_icmp_ge 58 dX9_bestHeat_51 rfl (fun c => ?_) (fun c => ?_)
  · have h := hA c
    refine jr_iconst (0 : Int32) dX9_bestHeat_58 (by decide) ?_
    refine jr_istore [some (.ref 82), some (.int x1), some (.int x2), some (.int x3), some (.int x4), some (.int (0 : Int32))] dX9_bestHeat_59 rfl rfl rfl ?_
    exact h
  · have h := hB c
    refine jr_iconst (1 : Int32) dX9_bestHeat_54 (by decide) ?_
    refine jr_goto 59 dX9_bestHeat_55 rfl ?_
    refine jr_istore [some (.ref 82), some (.int x1), some (.int x2), some (.int x3), some (.int x4), some (.int (1 : Int32))] dX9_bestHeat_59 rfl rfl rfl ?_
    exact h

set_option maxRecDepth 100000 in
set_option maxHeartbeats 4000000 in
theorem sX9_bestHeat_76 {g : jm_G} {ad : Nat → Nat} {κ : jm_K} {P : Option Value → (Nat → Nat → Int32) → Prop} (hE : jE g ad m_X9_bestHeat P κ) {μ : Nat → Nat → Int32}  (x1 : Int32) (x2 : Int32) (x3 : Int32) (x4 : Int32) (x5 : Int32)
    (h : ((x5 = 0 →
    jS g ad m_X9_bestHeat κ 90 [some (.ref 82), some (.int x1), some (.int x2), some (.int x3), some (.int x4), some (.int x5)] [] μ) ∧
    (¬ x5 = 0 →
    jS g ad m_X9_bestHeat κ 90 [some (.ref 82), some (.int x1), some (.int (μ 82 11)), some (.int x3), some (.int x4), some (.int x5)] [] μ))) :
    jS g ad m_X9_bestHeat κ 76 [some (.ref 82), some (.int x1), some (.int x2), some (.int x3), some (.int x4), some (.int x5)] [] μ := by
  refine jr_iload dX9_bestHeat_76 rfl ?_
  obtain ⟨hA, hB⟩ := h
  refine jr_if_eq 88 dX9_bestHeat_78 rfl (fun c => ?_) (fun c => ?_)
  · have h := hA c
    refine jr_iload_n dX9_bestHeat_88 rfl ?_
    refine jr_istore_n [some (.ref 82), some (.int x1), some (.int x2), some (.int x3), some (.int x4), some (.int x5)] dX9_bestHeat_89 rfl rfl rfl ?_
    exact h
  · have h := hB c
    refine jr_aload_n dX9_bestHeat_81 rfl ?_
    refine jr_get 9 11 jf_RX9_121 dX9_bestHeat_82 ga_82 rfl (.int (μ 82 11)) rfl ?_
    refine jr_goto 89 dX9_bestHeat_85 rfl ?_
    refine jr_istore_n [some (.ref 82), some (.int x1), some (.int (μ 82 11)), some (.int x3), some (.int x4), some (.int x5)] dX9_bestHeat_89 rfl rfl rfl ?_
    exact h

set_option maxRecDepth 100000 in
set_option maxHeartbeats 4000000 in
theorem sX9_bestHeat_90 {g : jm_G} {ad : Nat → Nat} {κ : jm_K} {P : Option Value → (Nat → Nat → Int32) → Prop} (hE : jE g ad m_X9_bestHeat P κ) {μ : Nat → Nat → Int32}  (x1 : Int32) (x2 : Int32) (x3 : Int32) (x4 : Int32) (x5 : Int32)
    (h : ((x5 = 0 →
    jS g ad m_X9_bestHeat κ 11 [some (.ref 82), some (.int x1), some (.int x2), some (.int x3), some (.int (x4 + 10)), none] [] μ) ∧
    (¬ x5 = 0 →
    jD g ad m_X9_sumOfSpreads [.ref 82] μ (fun v μ' => jS g ad m_X9_bestHeat κ 99 [some (.ref 82), some (.int x1), some (.int x2), none, some (.int x4), none] (jm_ps v []) μ')))) :
    jS g ad m_X9_bestHeat κ 90 [some (.ref 82), some (.int x1), some (.int x2), some (.int x3), some (.int x4), some (.int x5)] [] μ := by
  refine jr_iload dX9_bestHeat_90 rfl ?_
  obtain ⟨hA, hB⟩ := h
  refine jr_if_eq 102 dX9_bestHeat_92 rfl (fun c => ?_) (fun c => ?_)
  · have h := hA c
    refine jr_iload_n dX9_bestHeat_102 rfl ?_
    refine jr_istore_n [some (.ref 82), some (.int x1), some (.int x2), some (.int x3), some (.int x4), some (.int x5)] dX9_bestHeat_103 rfl rfl rfl ?_
    refine jr_iinc [some (.ref 82), some (.int x1), some (.int x2), some (.int x3), some (.int (x4 + 10)), some (.int x5)] dX9_bestHeat_104 rfl rfl rfl rfl rfl ?_
    refine jr_goto 11 dX9_bestHeat_107 rfl ?_
    refine js_drop 5 [some (.ref 82), some (.int x1), some (.int x2), some (.int x3), some (.int (x4 + 10)), none] rfl ?_
    exact h
  · have h := hB c
    refine jr_aload_n dX9_bestHeat_95 rfl ?_
    refine js_drop 3 [some (.ref 82), some (.int x1), some (.int x2), none, some (.int x4), some (.int x5)] rfl ?_
    refine js_drop 5 [some (.ref 82), some (.int x1), some (.int x2), none, some (.int x4), none] rfl ?_
    refine js_callV (st := []) [] jc_RX9_192 rfl dX9_bestHeat_96 ga_82 rfl rfl rfl rfl (kk := ?_)
    exact h

set_option maxRecDepth 100000 in
set_option maxHeartbeats 4000000 in
theorem sX9_bestHeat_99 {g : jm_G} {ad : Nat → Nat} {κ : jm_K} {P : Option Value → (Nat → Nat → Int32) → Prop} (hE : jE g ad m_X9_bestHeat P κ) {μ : Nat → Nat → Int32}  (x1 : Int32) (x2 : Int32) (x4 : Int32) (r : Int32)
    (h : jS g ad m_X9_bestHeat κ 11 [some (.ref 82), some (.int x1), some (.int x2), some (.int r), some (.int (x4 + 10)), none] [] μ) :
    jS g ad m_X9_bestHeat κ 99 [some (.ref 82), some (.int x1), some (.int x2), none, some (.int x4), none] [.int r] μ := by
  refine jr_goto 103 dX9_bestHeat_99 rfl ?_
  refine jr_istore_n [some (.ref 82), some (.int x1), some (.int x2), some (.int r), some (.int x4), none] dX9_bestHeat_103 rfl rfl rfl ?_
  refine jr_iinc [some (.ref 82), some (.int x1), some (.int x2), some (.int r), some (.int (x4 + 10)), none] dX9_bestHeat_104 rfl rfl rfl rfl rfl ?_
  refine jr_goto 11 dX9_bestHeat_107 rfl ?_
  exact h

set_option maxRecDepth 100000 in
set_option maxHeartbeats 4000000 in
theorem sX9_ifForgot_0 {g : jm_G} {ad : Nat → Nat} {κ : jm_K} {P : Option Value → (Nat → Nat → Int32) → Prop} (hE : jE g ad m_X9_ifForgot P κ) {μ : Nat → Nat → Int32}  (p1 : Int32)
    (h : jD g ad m_X9_isPulse [.ref 82, .int p1] μ (fun v μ' => jS g ad m_X9_ifForgot κ 5 [some (.ref 82), some (.int p1)] (jm_ps v []) μ')) :
    jS g ad m_X9_ifForgot κ 0 [some (.ref 82), some (.int p1)] [] μ := by
  refine jr_aload_n dX9_ifForgot_0 rfl ?_
  refine jr_iload_n dX9_ifForgot_1 rfl ?_
  refine js_callV (st := []) [.int p1] jc_RX9_173 rfl dX9_ifForgot_2 ga_82 rfl rfl rfl rfl (kk := ?_)
  exact h

set_option maxRecDepth 100000 in
set_option maxHeartbeats 4000000 in
theorem sX9_ifForgot_5 {g : jm_G} {ad : Nat → Nat} {κ : jm_K} {P : Option Value → (Nat → Nat → Int32) → Prop} (hE : jE g ad m_X9_ifForgot P κ) {μ : Nat → Nat → Int32}  (x1 : Int32) (r : Int32)
    (h : ((¬ r = 0 →
    jD g ad m_X9_moves [.ref 83, .int (0 : Int32), .ref 84, .int (0 : Int32)] μ (fun v μ' => jS g ad m_X9_ifForgot κ 23 [some (.ref 82), some (.int x1)] (jm_ps v []) μ')) ∧
    (r = 0 →
    P (some (.int (-1 : Int32))) μ))) :
    jS g ad m_X9_ifForgot κ 5 [some (.ref 82), some (.int x1)] [.int r] μ := by
  obtain ⟨hA, hB⟩ := h
  refine jr_if_ne 10 dX9_ifForgot_5 rfl (fun c => ?_) (fun c => ?_)
  · have h := hA c
    refine jr_aload_n dX9_ifForgot_10 rfl ?_
    refine jr_get 9 0 jf_RX9_7 dX9_ifForgot_11 ga_82 rfl (.ref 83) rfl ?_
    refine jr_iconst (0 : Int32) dX9_ifForgot_14 (by decide) ?_
    refine jr_aload_n dX9_ifForgot_15 rfl ?_
    refine jr_get 9 1 jf_RX9_13 dX9_ifForgot_16 ga_82 rfl (.ref 84) rfl ?_
    refine jr_iconst (0 : Int32) dX9_ifForgot_19 (by decide) ?_
    refine js_callS (st := []) [.ref 83, .int (0 : Int32), .ref 84, .int (0 : Int32)] jc_RX9_66 rfl dX9_ifForgot_20 rfl rfl rfl (kk := ?_)
    exact h
  · have h := hB c
    refine jr_iconst (-1 : Int32) dX9_ifForgot_8 (by decide) ?_
    exact js_iret hE rfl dX9_ifForgot_9 rfl h

set_option maxRecDepth 100000 in
set_option maxHeartbeats 4000000 in
theorem sX9_ifForgot_23 {g : jm_G} {ad : Nat → Nat} {κ : jm_K} {P : Option Value → (Nat → Nat → Int32) → Prop} (hE : jE g ad m_X9_ifForgot P κ) {μ : Nat → Nat → Int32}  (x1 : Int32)
    (h : jD g ad m_X9_goes [.ref 82, .int x1] μ (fun v μ' => jS g ad m_X9_ifForgot κ 28 [some (.ref 82), none] (jm_ps v []) μ')) :
    jS g ad m_X9_ifForgot κ 23 [some (.ref 82), some (.int x1)] [] μ := by
  refine jr_aload_n dX9_ifForgot_23 rfl ?_
  refine jr_iload_n dX9_ifForgot_24 rfl ?_
  refine js_drop 1 [some (.ref 82), none] rfl ?_
  refine js_callV (st := []) [.int x1] jc_RX9_176 rfl dX9_ifForgot_25 ga_82 rfl rfl rfl rfl (kk := ?_)
  exact h

set_option maxRecDepth 100000 in
set_option maxHeartbeats 4000000 in
theorem sX9_ifForgot_28 {g : jm_G} {ad : Nat → Nat} {κ : jm_K} {P : Option Value → (Nat → Nat → Int32) → Prop} (hE : jE g ad m_X9_ifForgot P κ) {μ : Nat → Nat → Int32}  
    (h : jD g ad m_X9_find [.ref 82] μ (fun v μ' => jS g ad m_X9_ifForgot κ 32 [some (.ref 82), none] (jm_ps v []) μ')) :
    jS g ad m_X9_ifForgot κ 28 [some (.ref 82), none] [] μ := by
  refine jr_aload_n dX9_ifForgot_28 rfl ?_
  refine js_callV (st := []) [] jc_RX9_179 rfl dX9_ifForgot_29 ga_82 rfl rfl rfl rfl (kk := ?_)
  exact h

set_option maxRecDepth 100000 in
set_option maxHeartbeats 4000000 in
theorem sX9_ifForgot_32 {g : jm_G} {ad : Nat → Nat} {κ : jm_K} {P : Option Value → (Nat → Nat → Int32) → Prop} (hE : jE g ad m_X9_ifForgot P κ) {μ : Nat → Nat → Int32}  
    (h : jD g ad m_X9_moves [.ref 84, .int (0 : Int32), .ref 83, .int (0 : Int32)] μ (fun v μ' => jS g ad m_X9_ifForgot κ 45 [some (.ref 82), none] (jm_ps v []) μ')) :
    jS g ad m_X9_ifForgot κ 32 [some (.ref 82), none] [] μ := by
  refine jr_aload_n dX9_ifForgot_32 rfl ?_
  refine jr_get 9 1 jf_RX9_13 dX9_ifForgot_33 ga_82 rfl (.ref 84) rfl ?_
  refine jr_iconst (0 : Int32) dX9_ifForgot_36 (by decide) ?_
  refine jr_aload_n dX9_ifForgot_37 rfl ?_
  refine jr_get 9 0 jf_RX9_7 dX9_ifForgot_38 ga_82 rfl (.ref 83) rfl ?_
  refine jr_iconst (0 : Int32) dX9_ifForgot_41 (by decide) ?_
  refine js_callS (st := []) [.ref 84, .int (0 : Int32), .ref 83, .int (0 : Int32)] jc_RX9_66 rfl dX9_ifForgot_42 rfl rfl rfl (kk := ?_)
  exact h

set_option maxRecDepth 100000 in
set_option maxHeartbeats 4000000 in
theorem sX9_ifForgot_45 {g : jm_G} {ad : Nat → Nat} {κ : jm_K} {P : Option Value → (Nat → Nat → Int32) → Prop} (hE : jE g ad m_X9_ifForgot P κ) {μ : Nat → Nat → Int32}  
    (h : P (some (.int (μ 82 11))) μ) :
    jS g ad m_X9_ifForgot κ 45 [some (.ref 82), none] [] μ := by
  refine jr_aload_n dX9_ifForgot_45 rfl ?_
  refine jr_get 9 11 jf_RX9_121 dX9_ifForgot_46 ga_82 rfl (.int (μ 82 11)) rfl ?_
  exact js_iret hE rfl dX9_ifForgot_49 rfl h

set_option maxRecDepth 100000 in
set_option maxHeartbeats 4000000 in
theorem sX9_put_0 {g : jm_G} {ad : Nat → Nat} {κ : jm_K} {P : Option Value → (Nat → Nat → Int32) → Prop} (hE : jE g ad m_X9_put P κ) {μ : Nat → Nat → Int32}  (p1 : Int64)
    (h : jS g ad m_X9_put κ 8 [some (.ref 82), some (.long p1), none, some (.int (0 : Int32)), some (.long p1), none, some (.int (1 : Int32)), none] [] μ) :
    jS g ad m_X9_put κ 0 [some (.ref 82), some (.long p1), none, none, none, none, none, none] [] μ := by
  refine jr_iconst (0 : Int32) dX9_put_0 (by decide) ?_
  refine jr_istore_n [some (.ref 82), some (.long p1), none, some (.int (0 : Int32)), none, none, none, none] dX9_put_1 rfl rfl rfl ?_
  refine jr_lload_n dX9_put_2 rfl ?_
  refine jr_lstore [some (.ref 82), some (.long p1), none, some (.int (0 : Int32)), some (.long p1), none, none, none] dX9_put_3 rfl rfl rfl ?_
  refine jr_iconst (1 : Int32) dX9_put_5 (by decide) ?_
  refine jr_istore [some (.ref 82), some (.long p1), none, some (.int (0 : Int32)), some (.long p1), none, some (.int (1 : Int32)), none] dX9_put_6 rfl rfl rfl ?_
  exact h

set_option maxRecDepth 100000 in
set_option maxHeartbeats 4000000 in
theorem sX9_put_8 {g : jm_G} {ad : Nat → Nat} {κ : jm_K} {P : Option Value → (Nat → Nat → Int32) → Prop} (hE : jE g ad m_X9_put P κ) {μ : Nat → Nat → Int32}  (x1 : Int64) (x3 : Int32) (x4 : Int64) (x6 : Int32)
    (h : (((8 : Int32) ≤ x3 →
    ((x3 = 0 →
    P (some (.int (-2 : Int32))) μ) ∧
    (¬ x3 = 0 →
    ((x6 = 0 →
    P (some (.int (-2 : Int32))) μ) ∧
    (¬ x6 = 0 →
    (((lg_cmp x4 (0 : Int64)) = 0 →
    ((((μ 82 7) + x3) ≤ (80 : Int32) →
    jS g ad m_X9_put κ 105 [some (.ref 82), some (.long x1), none, none, none, none, none, some (.int (x3 - (1 : Int32)))] [] μ) ∧
    (¬ ((μ 82 7) + x3) ≤ (80 : Int32) →
    P (some (.int (-4 : Int32))) μ))) ∧
    (¬ (lg_cmp x4 (0 : Int64)) = 0 →
    P (some (.int (-2 : Int32))) μ))))))) ∧
    (¬ (8 : Int32) ≤ x3 →
    (((lg_cmp (x4 &&& (255 : Int64)) (0 : Int64)) = 0 →
    ((x3 = 0 →
    P (some (.int (-2 : Int32))) μ) ∧
    (¬ x3 = 0 →
    ((x6 = 0 →
    P (some (.int (-2 : Int32))) μ) ∧
    (¬ x6 = 0 →
    (((lg_cmp x4 (0 : Int64)) = 0 →
    ((((μ 82 7) + x3) ≤ (80 : Int32) →
    jS g ad m_X9_put κ 105 [some (.ref 82), some (.long x1), none, none, none, none, none, some (.int (x3 - (1 : Int32)))] [] μ) ∧
    (¬ ((μ 82 7) + x3) ≤ (80 : Int32) →
    P (some (.int (-4 : Int32))) μ))) ∧
    (¬ (lg_cmp x4 (0 : Int64)) = 0 →
    P (some (.int (-2 : Int32))) μ))))))) ∧
    (¬ (lg_cmp (x4 &&& (255 : Int64)) (0 : Int64)) = 0 →
    ((x6 = 0 →
    jS g ad m_X9_put κ 8 [some (.ref 82), some (.long x1), none, some (.int (x3 + 1)), some (.long ((x4.toUInt64 >>> ((8 : Int32).toInt64.toUInt64 &&& Int64.toUInt64 63)).toInt64)), none, some (.int (0 : Int32)), none] [] μ) ∧
    (¬ x6 = 0 →
    jD g ad m_X9_within [.int ((x4 &&& (255 : Int64)).toInt32), .int (33 : Int32), .int (126 : Int32)] μ (fun v μ' => jS g ad m_X9_put κ 44 [some (.ref 82), some (.long x1), none, some (.int x3), some (.long x4), none, none, none] (jm_ps v []) μ')))))))) :
    jS g ad m_X9_put κ 8 [some (.ref 82), some (.long x1), none, some (.int x3), some (.long x4), none, some (.int x6), none] [] μ := by
  refine jr_iload_n dX9_put_8 rfl ?_
  refine jr_bipush (8 : Int32) dX9_put_9 (by decide) ?_
  obtain ⟨hA, hB⟩ := h
  refine jr_icmp_ge 67 dX9_put_11 rfl (fun c => ?_) (fun c => ?_)
  · have h := hA c
    refine jr_iload_n dX9_put_67 rfl ?_
    obtain ⟨hA, hB⟩ := h
    refine jr_if_eq 83 dX9_put_68 rfl (fun c => ?_) (fun c => ?_)
    · have h := hA c
      refine jr_bipush (-2 : Int32) dX9_put_83 (by decide) ?_
      exact js_iret hE rfl dX9_put_85 rfl h
    · have h := hB c
      refine jr_iload dX9_put_71 rfl ?_
      obtain ⟨hA, hB⟩ := h
      refine jr_if_eq 83 dX9_put_73 rfl (fun c => ?_) (fun c => ?_)
      · have h := hA c
        refine jr_bipush (-2 : Int32) dX9_put_83 (by decide) ?_
        exact js_iret hE rfl dX9_put_85 rfl h
      · have h := hB c
        refine jr_lload dX9_put_76 rfl ?_
        refine jr_lconst (0 : Int64) dX9_put_78 (by decide) ?_
        refine jr_lcmp dX9_put_79 ?_
        obtain ⟨hA, hB⟩ := h
        refine jr_if_eq 86 dX9_put_80 rfl (fun c => ?_) (fun c => ?_)
        · have h := hA c
          refine jr_aload_n dX9_put_86 rfl ?_
          refine jr_get 9 7 jf_RX9_198 dX9_put_87 ga_82 rfl (.int (μ 82 7)) rfl ?_
          refine jr_iload_n dX9_put_90 rfl ?_
          refine jr_iadd dX9_put_91 ?_
          refine jr_bipush (80 : Int32) dX9_put_92 (by decide) ?_
          obtain ⟨hA, hB⟩ := h
          refine jr_icmp_le 100 dX9_put_94 rfl (fun c => ?_) (fun c => ?_)
          · have h := hA c
            refine jr_iload_n dX9_put_100 rfl ?_
            refine jr_iconst (1 : Int32) dX9_put_101 (by decide) ?_
            refine jr_isub dX9_put_102 ?_
            refine jr_istore [some (.ref 82), some (.long x1), none, some (.int x3), some (.long x4), none, some (.int x6), some (.int (x3 - (1 : Int32)))] dX9_put_103 rfl rfl rfl ?_
            refine js_drop 3 [some (.ref 82), some (.long x1), none, none, some (.long x4), none, some (.int x6), some (.int (x3 - (1 : Int32)))] rfl ?_
            refine js_drop 4 [some (.ref 82), some (.long x1), none, none, none, none, some (.int x6), some (.int (x3 - (1 : Int32)))] rfl ?_
            refine js_drop 6 [some (.ref 82), some (.long x1), none, none, none, none, none, some (.int (x3 - (1 : Int32)))] rfl ?_
            exact h
          · have h := hB c
            refine jr_bipush (-4 : Int32) dX9_put_97 (by decide) ?_
            exact js_iret hE rfl dX9_put_99 rfl h
        · have h := hB c
          refine jr_bipush (-2 : Int32) dX9_put_83 (by decide) ?_
          exact js_iret hE rfl dX9_put_85 rfl h
  · have h := hB c
    refine jr_lload dX9_put_14 rfl ?_
    refine jr_ldc2 (255 : Int64) dX9_put_16 jk_RX9_201 ?_
    refine jr_land dX9_put_19 ?_
    refine jr_lconst (0 : Int64) dX9_put_20 (by decide) ?_
    refine jr_lcmp dX9_put_21 ?_
    obtain ⟨hA, hB⟩ := h
    refine jr_if_eq 67 dX9_put_22 rfl (fun c => ?_) (fun c => ?_)
    · have h := hA c
      refine jr_iload_n dX9_put_67 rfl ?_
      obtain ⟨hA, hB⟩ := h
      refine jr_if_eq 83 dX9_put_68 rfl (fun c => ?_) (fun c => ?_)
      · have h := hA c
        refine jr_bipush (-2 : Int32) dX9_put_83 (by decide) ?_
        exact js_iret hE rfl dX9_put_85 rfl h
      · have h := hB c
        refine jr_iload dX9_put_71 rfl ?_
        obtain ⟨hA, hB⟩ := h
        refine jr_if_eq 83 dX9_put_73 rfl (fun c => ?_) (fun c => ?_)
        · have h := hA c
          refine jr_bipush (-2 : Int32) dX9_put_83 (by decide) ?_
          exact js_iret hE rfl dX9_put_85 rfl h
        · have h := hB c
          refine jr_lload dX9_put_76 rfl ?_
          refine jr_lconst (0 : Int64) dX9_put_78 (by decide) ?_
          refine jr_lcmp dX9_put_79 ?_
          obtain ⟨hA, hB⟩ := h
          refine jr_if_eq 86 dX9_put_80 rfl (fun c => ?_) (fun c => ?_)
          · have h := hA c
            refine jr_aload_n dX9_put_86 rfl ?_
            refine jr_get 9 7 jf_RX9_198 dX9_put_87 ga_82 rfl (.int (μ 82 7)) rfl ?_
            refine jr_iload_n dX9_put_90 rfl ?_
            refine jr_iadd dX9_put_91 ?_
            refine jr_bipush (80 : Int32) dX9_put_92 (by decide) ?_
            obtain ⟨hA, hB⟩ := h
            refine jr_icmp_le 100 dX9_put_94 rfl (fun c => ?_) (fun c => ?_)
            · have h := hA c
              refine jr_iload_n dX9_put_100 rfl ?_
              refine jr_iconst (1 : Int32) dX9_put_101 (by decide) ?_
              refine jr_isub dX9_put_102 ?_
              refine jr_istore [some (.ref 82), some (.long x1), none, some (.int x3), some (.long x4), none, some (.int x6), some (.int (x3 - (1 : Int32)))] dX9_put_103 rfl rfl rfl ?_
              refine js_drop 3 [some (.ref 82), some (.long x1), none, none, some (.long x4), none, some (.int x6), some (.int (x3 - (1 : Int32)))] rfl ?_
              refine js_drop 4 [some (.ref 82), some (.long x1), none, none, none, none, some (.int x6), some (.int (x3 - (1 : Int32)))] rfl ?_
              refine js_drop 6 [some (.ref 82), some (.long x1), none, none, none, none, none, some (.int (x3 - (1 : Int32)))] rfl ?_
              exact h
            · have h := hB c
              refine jr_bipush (-4 : Int32) dX9_put_97 (by decide) ?_
              exact js_iret hE rfl dX9_put_99 rfl h
          · have h := hB c
            refine jr_bipush (-2 : Int32) dX9_put_83 (by decide) ?_
            exact js_iret hE rfl dX9_put_85 rfl h
    · have h := hB c
      refine jr_iload dX9_put_25 rfl ?_
      obtain ⟨hA, hB⟩ := h
      refine jr_if_eq 51 dX9_put_27 rfl (fun c => ?_) (fun c => ?_)
      · have h := hA c
        refine jr_iconst (0 : Int32) dX9_put_51 (by decide) ?_
        refine jr_istore [some (.ref 82), some (.long x1), none, some (.int x3), some (.long x4), none, some (.int (0 : Int32)), none] dX9_put_52 rfl rfl rfl ?_
        refine jr_lload dX9_put_54 rfl ?_
        refine jr_bipush (8 : Int32) dX9_put_56 (by decide) ?_
        refine jr_lushr dX9_put_58 ?_
        refine jr_lstore [some (.ref 82), some (.long x1), none, some (.int x3), some (.long ((x4.toUInt64 >>> ((8 : Int32).toInt64.toUInt64 &&& Int64.toUInt64 63)).toInt64)), none, some (.int (0 : Int32)), none] dX9_put_59 rfl rfl rfl ?_
        refine jr_iinc [some (.ref 82), some (.long x1), none, some (.int (x3 + 1)), some (.long ((x4.toUInt64 >>> ((8 : Int32).toInt64.toUInt64 &&& Int64.toUInt64 63)).toInt64)), none, some (.int (0 : Int32)), none] dX9_put_61 rfl rfl rfl rfl rfl ?_
        refine jr_goto 8 dX9_put_64 rfl ?_
        exact h
      · have h := hB c
        refine jr_lload dX9_put_30 rfl ?_
        refine jr_ldc2 (255 : Int64) dX9_put_32 jk_RX9_201 ?_
        refine jr_land dX9_put_35 ?_
        refine jr_l2i _ dX9_put_36 rfl ?_
        refine jr_bipush (33 : Int32) dX9_put_37 (by decide) ?_
        refine jr_bipush (126 : Int32) dX9_put_39 (by decide) ?_
        refine js_drop 6 [some (.ref 82), some (.long x1), none, some (.int x3), some (.long x4), none, none, none] rfl ?_
        refine js_callS (st := []) [.int ((x4 &&& (255 : Int64)).toInt32), .int (33 : Int32), .int (126 : Int32)] jc_RX9_70 rfl dX9_put_41 rfl rfl rfl (kk := ?_)
        exact h

set_option maxRecDepth 100000 in
set_option maxHeartbeats 4000000 in
theorem sX9_put_105 {g : jm_G} {ad : Nat → Nat} {κ : jm_K} {P : Option Value → (Nat → Nat → Int32) → Prop} (hE : jE g ad m_X9_put P κ) {μ : Nat → Nat → Int32}  (x1 : Int64) (x7 : Int32)
    (h : ((x7 < 0 →
    P (some (.int (μ 82 7))) μ) ∧
    (¬ x7 < 0 →
    vp_in (μ 82 7) 80 ∧
    (∀ μ2 : Nat → Nat → Int32, μ2 = jm_st μ 88 (μ 82 7).toNatClampNeg ((((x1.toUInt64 >>> (((8 : Int32) * x7).toInt64.toUInt64 &&& Int64.toUInt64 63)).toInt64) &&& (255 : Int64)).toInt32) →
    (∀ μ3 : Nat → Nat → Int32, μ3 = jm_st μ2 82 7 ((μ2 82 7) + (1 : Int32)) →
    jS g ad m_X9_put κ 105 [some (.ref 82), some (.long x1), none, none, none, none, none, some (.int (x7 + (-1)))] [] μ3))))) :
    jS g ad m_X9_put κ 105 [some (.ref 82), some (.long x1), none, none, none, none, none, some (.int x7)] [] μ := by
  refine jr_iload dX9_put_105 rfl ?_
  obtain ⟨hA, hB⟩ := h
  refine jr_if_lt 147 dX9_put_107 rfl (fun c => ?_) (fun c => ?_)
  · have h := hA c
    refine jr_aload_n dX9_put_147 rfl ?_
    refine jr_get 9 7 jf_RX9_198 dX9_put_148 ga_82 rfl (.int (μ 82 7)) rfl ?_
    exact js_iret hE rfl dX9_put_151 rfl h
  · have h := hB c
    refine jr_aload_n dX9_put_110 rfl ?_
    refine jr_get 9 6 jf_RX9_25 dX9_put_111 ga_82 rfl (.ref 88) rfl ?_
    refine jr_aload_n dX9_put_114 rfl ?_
    refine jr_get 9 7 jf_RX9_198 dX9_put_115 ga_82 rfl (.int (μ 82 7)) rfl ?_
    refine jr_lload_n dX9_put_118 rfl ?_
    refine jr_bipush (8 : Int32) dX9_put_119 (by decide) ?_
    refine jr_iload dX9_put_121 rfl ?_
    refine jr_imul dX9_put_123 ?_
    refine jr_lushr dX9_put_124 ?_
    refine jr_ldc2 (255 : Int64) dX9_put_125 jk_RX9_201 ?_
    refine jr_land dX9_put_128 ?_
    refine jr_l2i _ dX9_put_129 rfl ?_
    obtain ⟨o1, h⟩ := h
    refine jr_iastn _ dX9_put_130 ga_88 o1 rfl ?_
    obtain ⟨μ2, e2⟩ : ∃ x : Nat → Nat → Int32, x = jm_st μ 88 (μ 82 7).toNatClampNeg ((((x1.toUInt64 >>> (((8 : Int32) * x7).toInt64.toUInt64 &&& Int64.toUInt64 63)).toInt64) &&& (255 : Int64)).toInt32) := ⟨_, rfl⟩
    have h := h μ2 e2
    refine js_mem e2 ?_
    refine jr_aload_n dX9_put_131 rfl ?_
    refine jr_dup dX9_put_132 rfl ?_
    refine jr_get 9 7 jf_RX9_198 dX9_put_133 ga_82 rfl (.int (μ2 82 7)) rfl ?_
    refine jr_iconst (1 : Int32) dX9_put_136 (by decide) ?_
    refine jr_iadd dX9_put_137 ?_
    refine jr_putI 9 7 jf_RX9_198 dX9_put_138 ga_82 rfl ?_
    obtain ⟨μ3, e3⟩ : ∃ x : Nat → Nat → Int32, x = jm_st μ2 82 7 ((μ2 82 7) + (1 : Int32)) := ⟨_, rfl⟩
    have h := h μ3 e3
    refine js_mem e3 ?_
    refine jr_iinc [some (.ref 82), some (.long x1), none, none, none, none, none, some (.int (x7 + (-1)))] dX9_put_141 rfl rfl rfl rfl rfl ?_
    refine jr_goto 105 dX9_put_144 rfl ?_
    exact h

set_option maxRecDepth 100000 in
set_option maxHeartbeats 4000000 in
theorem sX9_put_44 {g : jm_G} {ad : Nat → Nat} {κ : jm_K} {P : Option Value → (Nat → Nat → Int32) → Prop} (hE : jE g ad m_X9_put P κ) {μ : Nat → Nat → Int32}  (x1 : Int64) (x3 : Int32) (x4 : Int64) (r : Int32)
    (h : ((r = 0 →
    jS g ad m_X9_put κ 8 [some (.ref 82), some (.long x1), none, some (.int (x3 + 1)), some (.long ((x4.toUInt64 >>> ((8 : Int32).toInt64.toUInt64 &&& Int64.toUInt64 63)).toInt64)), none, some (.int (0 : Int32)), none] [] μ) ∧
    (¬ r = 0 →
    jS g ad m_X9_put κ 8 [some (.ref 82), some (.long x1), none, some (.int (x3 + 1)), some (.long ((x4.toUInt64 >>> ((8 : Int32).toInt64.toUInt64 &&& Int64.toUInt64 63)).toInt64)), none, some (.int (1 : Int32)), none] [] μ))) :
    jS g ad m_X9_put κ 44 [some (.ref 82), some (.long x1), none, some (.int x3), some (.long x4), none, none, none] [.int r] μ := by
  obtain ⟨hA, hB⟩ := h
  refine jr_if_eq 51 dX9_put_44 rfl (fun c => ?_) (fun c => ?_)
  · have h := hA c
    refine jr_iconst (0 : Int32) dX9_put_51 (by decide) ?_
    refine jr_istore [some (.ref 82), some (.long x1), none, some (.int x3), some (.long x4), none, some (.int (0 : Int32)), none] dX9_put_52 rfl rfl rfl ?_
    refine jr_lload dX9_put_54 rfl ?_
    refine jr_bipush (8 : Int32) dX9_put_56 (by decide) ?_
    refine jr_lushr dX9_put_58 ?_
    refine jr_lstore [some (.ref 82), some (.long x1), none, some (.int x3), some (.long ((x4.toUInt64 >>> ((8 : Int32).toInt64.toUInt64 &&& Int64.toUInt64 63)).toInt64)), none, some (.int (0 : Int32)), none] dX9_put_59 rfl rfl rfl ?_
    refine jr_iinc [some (.ref 82), some (.long x1), none, some (.int (x3 + 1)), some (.long ((x4.toUInt64 >>> ((8 : Int32).toInt64.toUInt64 &&& Int64.toUInt64 63)).toInt64)), none, some (.int (0 : Int32)), none] dX9_put_61 rfl rfl rfl rfl rfl ?_
    refine jr_goto 8 dX9_put_64 rfl ?_
    exact h
  · have h := hB c
    refine jr_iconst (1 : Int32) dX9_put_47 (by decide) ?_
    refine jr_goto 52 dX9_put_48 rfl ?_
    refine jr_istore [some (.ref 82), some (.long x1), none, some (.int x3), some (.long x4), none, some (.int (1 : Int32)), none] dX9_put_52 rfl rfl rfl ?_
    refine jr_lload dX9_put_54 rfl ?_
    refine jr_bipush (8 : Int32) dX9_put_56 (by decide) ?_
    refine jr_lushr dX9_put_58 ?_
    refine jr_lstore [some (.ref 82), some (.long x1), none, some (.int x3), some (.long ((x4.toUInt64 >>> ((8 : Int32).toInt64.toUInt64 &&& Int64.toUInt64 63)).toInt64)), none, some (.int (1 : Int32)), none] dX9_put_59 rfl rfl rfl ?_
    refine jr_iinc [some (.ref 82), some (.long x1), none, some (.int (x3 + 1)), some (.long ((x4.toUInt64 >>> ((8 : Int32).toInt64.toUInt64 &&& Int64.toUInt64 63)).toInt64)), none, some (.int (1 : Int32)), none] dX9_put_61 rfl rfl rfl rfl rfl ?_
    refine jr_goto 8 dX9_put_64 rfl ?_
    exact h

set_option maxRecDepth 100000 in
set_option maxHeartbeats 4000000 in
theorem sX9_wipe_0 {g : jm_G} {ad : Nat → Nat} {κ : jm_K} {P : Option Value → (Nat → Nat → Int32) → Prop} (hE : jE g ad m_X9_wipe P κ) {μ : Nat → Nat → Int32}  
    (h : (∀ μ1 : Nat → Nat → Int32, μ1 = jm_st μ 82 7 (0 : Int32) →
    P (some (.int (μ 82 7))) μ1)) :
    jS g ad m_X9_wipe κ 0 [some (.ref 82), none] [] μ := by
  refine jr_aload_n dX9_wipe_0 rfl ?_
  refine jr_get 9 7 jf_RX9_198 dX9_wipe_1 ga_82 rfl (.int (μ 82 7)) rfl ?_
  refine jr_istore_n [some (.ref 82), some (.int (μ 82 7))] dX9_wipe_4 rfl rfl rfl ?_
  refine jr_aload_n dX9_wipe_5 rfl ?_
  refine jr_iconst (0 : Int32) dX9_wipe_6 (by decide) ?_
  refine jr_putI 9 7 jf_RX9_198 dX9_wipe_7 ga_82 rfl ?_
  obtain ⟨μ1, e1⟩ : ∃ x : Nat → Nat → Int32, x = jm_st μ 82 7 (0 : Int32) := ⟨_, rfl⟩
  have h := h μ1 e1
  refine js_mem e1 ?_
  refine jr_iload_n dX9_wipe_10 rfl ?_
  exact js_iret hE rfl dX9_wipe_11 rfl h

set_option maxRecDepth 100000 in
set_option maxHeartbeats 4000000 in
theorem sX9_character_0 {g : jm_G} {ad : Nat → Nat} {κ : jm_K} {P : Option Value → (Nat → Nat → Int32) → Prop} (hE : jE g ad m_X9_character P κ) {μ : Nat → Nat → Int32}  (p1 : Int32)
    (h : (((μ 82 7) ≤ p1 →
    P (some (.int (-1 : Int32))) μ) ∧
    (¬ (μ 82 7) ≤ p1 →
    vp_in p1 80 ∧
    P (some (.int (μ 88 p1.toNatClampNeg))) μ))) :
    jS g ad m_X9_character κ 0 [some (.ref 82), some (.int p1)] [] μ := by
  refine jr_iload_n dX9_character_0 rfl ?_
  refine jr_aload_n dX9_character_1 rfl ?_
  refine jr_get 9 7 jf_RX9_198 dX9_character_2 ga_82 rfl (.int (μ 82 7)) rfl ?_
  obtain ⟨hA, hB⟩ := h
  refine jr_icmp_ge 17 dX9_character_5 rfl (fun c => ?_) (fun c => ?_)
  · have h := hA c
    refine jr_iconst (-1 : Int32) dX9_character_17 (by decide) ?_
    exact js_iret hE rfl dX9_character_18 rfl h
  · have h := hB c
    refine jr_aload_n dX9_character_8 rfl ?_
    refine jr_get 9 6 jf_RX9_25 dX9_character_9 ga_82 rfl (.ref 88) rfl ?_
    refine jr_iload_n dX9_character_12 rfl ?_
    obtain ⟨o1, h⟩ := h
    refine jr_ialdn _ dX9_character_13 ga_88 o1 rfl ?_
    refine jr_goto 18 dX9_character_14 rfl ?_
    exact js_iret hE rfl dX9_character_18 rfl h

set_option maxRecDepth 100000 in
set_option maxHeartbeats 4000000 in
theorem sX9_isNext_0 {g : jm_G} {ad : Nat → Nat} {κ : jm_K} {P : Option Value → (Nat → Nat → Int32) → Prop} (hE : jE g ad m_X9_isNext P κ) {μ : Nat → Nat → Int32}  (p1 : Int32)
    (h : jD g ad m_X9_character [.ref 82, .int (μ 82 24)] μ (fun v μ' => jS g ad m_X9_isNext κ 8 [some (.ref 82), some (.int p1), none] (jm_ps v []) μ')) :
    jS g ad m_X9_isNext κ 0 [some (.ref 82), some (.int p1), none] [] μ := by
  refine jr_aload_n dX9_isNext_0 rfl ?_
  refine jr_aload_n dX9_isNext_1 rfl ?_
  refine jr_get 9 24 jf_RX9_203 dX9_isNext_2 ga_82 rfl (.int (μ 82 24)) rfl ?_
  refine js_callV (st := []) [.int (μ 82 24)] jc_RX9_206 rfl dX9_isNext_5 ga_82 rfl rfl rfl rfl (kk := ?_)
  exact h

set_option maxRecDepth 100000 in
set_option maxHeartbeats 4000000 in
theorem sX9_isNext_8 {g : jm_G} {ad : Nat → Nat} {κ : jm_K} {P : Option Value → (Nat → Nat → Int32) → Prop} (hE : jE g ad m_X9_isNext P κ) {μ : Nat → Nat → Int32}  (x1 : Int32) (r : Int32)
    (h : ((¬ r = x1 →
    (((0 : Int32) = 0 →
    (∀ μ1 : Nat → Nat → Int32, μ1 = jm_st μ 82 24 ((μ 82 24) + (0 : Int32)) →
    P (some (.int (0 : Int32))) μ1)) ∧
    (¬ (0 : Int32) = 0 →
    (∀ μ2 : Nat → Nat → Int32, μ2 = jm_st μ 82 24 ((μ 82 24) + (1 : Int32)) →
    P (some (.int (0 : Int32))) μ2)))) ∧
    (r = x1 →
    (((1 : Int32) = 0 →
    (∀ μ3 : Nat → Nat → Int32, μ3 = jm_st μ 82 24 ((μ 82 24) + (0 : Int32)) →
    P (some (.int (1 : Int32))) μ3)) ∧
    (¬ (1 : Int32) = 0 →
    (∀ μ4 : Nat → Nat → Int32, μ4 = jm_st μ 82 24 ((μ 82 24) + (1 : Int32)) →
    P (some (.int (1 : Int32))) μ4)))))) :
    jS g ad m_X9_isNext κ 8 [some (.ref 82), some (.int x1), none] [.int r] μ := by
  refine jr_iload_n dX9_isNext_8 rfl ?_
  obtain ⟨hA, hB⟩ := h
  refine jr_icmp_ne 16 dX9_isNext_9 rfl (fun c => ?_) (fun c => ?_)
  · have h := hA c
    refine jr_iconst (0 : Int32) dX9_isNext_16 (by decide) ?_
    refine jr_istore_n [some (.ref 82), some (.int x1), some (.int (0 : Int32))] dX9_isNext_17 rfl rfl rfl ?_
    refine jr_aload_n dX9_isNext_18 rfl ?_
    refine jr_dup dX9_isNext_19 rfl ?_
    refine jr_get 9 24 jf_RX9_203 dX9_isNext_20 ga_82 rfl (.int (μ 82 24)) rfl ?_
    refine jr_iload_n dX9_isNext_23 rfl ?_
    obtain ⟨hA, hB⟩ := h
    refine jr_if_eq 31 dX9_isNext_24 rfl (fun c => ?_) (fun c => ?_)
    · have h := hA c
      refine jr_iconst (0 : Int32) dX9_isNext_31 (by decide) ?_
      refine jr_iadd dX9_isNext_32 ?_
      refine jr_putI 9 24 jf_RX9_203 dX9_isNext_33 ga_82 rfl ?_
      obtain ⟨μ1, e1⟩ : ∃ x : Nat → Nat → Int32, x = jm_st μ 82 24 ((μ 82 24) + (0 : Int32)) := ⟨_, rfl⟩
      have h := h μ1 e1
      refine js_mem e1 ?_
      refine jr_iload_n dX9_isNext_36 rfl ?_
      exact js_zret hE rfl dX9_isNext_37 rfl (by decide) h
    · have h := hB c
      refine jr_iconst (1 : Int32) dX9_isNext_27 (by decide) ?_
      refine jr_goto 32 dX9_isNext_28 rfl ?_
      refine jr_iadd dX9_isNext_32 ?_
      refine jr_putI 9 24 jf_RX9_203 dX9_isNext_33 ga_82 rfl ?_
      obtain ⟨μ2, e2⟩ : ∃ x : Nat → Nat → Int32, x = jm_st μ 82 24 ((μ 82 24) + (1 : Int32)) := ⟨_, rfl⟩
      have h := h μ2 e2
      refine js_mem e2 ?_
      refine jr_iload_n dX9_isNext_36 rfl ?_
      exact js_zret hE rfl dX9_isNext_37 rfl (by decide) h
  · have h := hB c
    refine jr_iconst (1 : Int32) dX9_isNext_12 (by decide) ?_
    refine jr_goto 17 dX9_isNext_13 rfl ?_
    refine jr_istore_n [some (.ref 82), some (.int x1), some (.int (1 : Int32))] dX9_isNext_17 rfl rfl rfl ?_
    refine jr_aload_n dX9_isNext_18 rfl ?_
    refine jr_dup dX9_isNext_19 rfl ?_
    refine jr_get 9 24 jf_RX9_203 dX9_isNext_20 ga_82 rfl (.int (μ 82 24)) rfl ?_
    refine jr_iload_n dX9_isNext_23 rfl ?_
    obtain ⟨hA, hB⟩ := h
    refine jr_if_eq 31 dX9_isNext_24 rfl (fun c => ?_) (fun c => ?_)
    · have h := hA c
      refine jr_iconst (0 : Int32) dX9_isNext_31 (by decide) ?_
      refine jr_iadd dX9_isNext_32 ?_
      refine jr_putI 9 24 jf_RX9_203 dX9_isNext_33 ga_82 rfl ?_
      obtain ⟨μ3, e3⟩ : ∃ x : Nat → Nat → Int32, x = jm_st μ 82 24 ((μ 82 24) + (0 : Int32)) := ⟨_, rfl⟩
      have h := h μ3 e3
      refine js_mem e3 ?_
      refine jr_iload_n dX9_isNext_36 rfl ?_
      exact js_zret hE rfl dX9_isNext_37 rfl (by decide) h
    · have h := hB c
      refine jr_iconst (1 : Int32) dX9_isNext_27 (by decide) ?_
      refine jr_goto 32 dX9_isNext_28 rfl ?_
      refine jr_iadd dX9_isNext_32 ?_
      refine jr_putI 9 24 jf_RX9_203 dX9_isNext_33 ga_82 rfl ?_
      obtain ⟨μ4, e4⟩ : ∃ x : Nat → Nat → Int32, x = jm_st μ 82 24 ((μ 82 24) + (1 : Int32)) := ⟨_, rfl⟩
      have h := h μ4 e4
      refine js_mem e4 ?_
      refine jr_iload_n dX9_isNext_36 rfl ?_
      exact js_zret hE rfl dX9_isNext_37 rfl (by decide) h

set_option maxRecDepth 100000 in
set_option maxHeartbeats 4000000 in
theorem sX9_takeDigit_0 {g : jm_G} {ad : Nat → Nat} {κ : jm_K} {P : Option Value → (Nat → Nat → Int32) → Prop} (hE : jE g ad m_X9_takeDigit P κ) {μ : Nat → Nat → Int32}  (p1 : Int32)
    (h : jD g ad m_X9_character [.ref 82, .int (μ 82 24)] μ (fun v μ' => jS g ad m_X9_takeDigit κ 8 [some (.ref 82), some (.int p1), none] (jm_ps v []) μ')) :
    jS g ad m_X9_takeDigit κ 0 [some (.ref 82), some (.int p1), none] [] μ := by
  refine jr_aload_n dX9_takeDigit_0 rfl ?_
  refine jr_aload_n dX9_takeDigit_1 rfl ?_
  refine jr_get 9 24 jf_RX9_203 dX9_takeDigit_2 ga_82 rfl (.int (μ 82 24)) rfl ?_
  refine js_callV (st := []) [.int (μ 82 24)] jc_RX9_206 rfl dX9_takeDigit_5 ga_82 rfl rfl rfl rfl (kk := ?_)
  exact h

set_option maxRecDepth 100000 in
set_option maxHeartbeats 4000000 in
theorem sX9_takeDigit_8 {g : jm_G} {ad : Nat → Nat} {κ : jm_K} {P : Option Value → (Nat → Nat → Int32) → Prop} (hE : jE g ad m_X9_takeDigit P κ) {μ : Nat → Nat → Int32}  (x1 : Int32) (r : Int32)
    (h : jD g ad m_X9_within [.int (r - (48 : Int32)), .int (0 : Int32), .int x1] μ (fun v μ' => jS g ad m_X9_takeDigit κ 18 [some (.ref 82), none, some (.int (r - (48 : Int32)))] (jm_ps v []) μ')) :
    jS g ad m_X9_takeDigit κ 8 [some (.ref 82), some (.int x1), none] [.int r] μ := by
  refine jr_bipush (48 : Int32) dX9_takeDigit_8 (by decide) ?_
  refine jr_isub dX9_takeDigit_10 ?_
  refine jr_istore_n [some (.ref 82), some (.int x1), some (.int (r - (48 : Int32)))] dX9_takeDigit_11 rfl rfl rfl ?_
  refine jr_iload_n dX9_takeDigit_12 rfl ?_
  refine jr_iconst (0 : Int32) dX9_takeDigit_13 (by decide) ?_
  refine jr_iload_n dX9_takeDigit_14 rfl ?_
  refine js_drop 1 [some (.ref 82), none, some (.int (r - (48 : Int32)))] rfl ?_
  refine js_callS (st := []) [.int (r - (48 : Int32)), .int (0 : Int32), .int x1] jc_RX9_70 rfl dX9_takeDigit_15 rfl rfl rfl (kk := ?_)
  exact h

set_option maxRecDepth 100000 in
set_option maxHeartbeats 4000000 in
theorem sX9_takeDigit_18 {g : jm_G} {ad : Nat → Nat} {κ : jm_K} {P : Option Value → (Nat → Nat → Int32) → Prop} (hE : jE g ad m_X9_takeDigit P κ) {μ : Nat → Nat → Int32}  (x2 : Int32) (r : Int32)
    (h : ((¬ r = 0 →
    (∀ μ1 : Nat → Nat → Int32, μ1 = jm_st μ 82 24 ((μ 82 24) + (1 : Int32)) →
    P (some (.int x2)) μ1)) ∧
    (r = 0 →
    P (some (.int (-1 : Int32))) μ))) :
    jS g ad m_X9_takeDigit κ 18 [some (.ref 82), none, some (.int x2)] [.int r] μ := by
  obtain ⟨hA, hB⟩ := h
  refine jr_if_ne 23 dX9_takeDigit_18 rfl (fun c => ?_) (fun c => ?_)
  · have h := hA c
    refine jr_aload_n dX9_takeDigit_23 rfl ?_
    refine jr_dup dX9_takeDigit_24 rfl ?_
    refine jr_get 9 24 jf_RX9_203 dX9_takeDigit_25 ga_82 rfl (.int (μ 82 24)) rfl ?_
    refine jr_iconst (1 : Int32) dX9_takeDigit_28 (by decide) ?_
    refine jr_iadd dX9_takeDigit_29 ?_
    refine jr_putI 9 24 jf_RX9_203 dX9_takeDigit_30 ga_82 rfl ?_
    obtain ⟨μ1, e1⟩ : ∃ x : Nat → Nat → Int32, x = jm_st μ 82 24 ((μ 82 24) + (1 : Int32)) := ⟨_, rfl⟩
    have h := h μ1 e1
    refine js_mem e1 ?_
    refine jr_iload_n dX9_takeDigit_33 rfl ?_
    exact js_iret hE rfl dX9_takeDigit_34 rfl h
  · have h := hB c
    refine jr_iconst (-1 : Int32) dX9_takeDigit_21 (by decide) ?_
    exact js_iret hE rfl dX9_takeDigit_22 rfl h

set_option maxRecDepth 100000 in
set_option maxHeartbeats 4000000 in
theorem sX9_takeNumber_0 {g : jm_G} {ad : Nat → Nat} {κ : jm_K} {P : Option Value → (Nat → Nat → Int32) → Prop} (hE : jE g ad m_X9_takeNumber P κ) {μ : Nat → Nat → Int32}  
    (h : jD g ad m_X9_takeDigit [.ref 82, .int (9 : Int32)] μ (fun v μ' => jS g ad m_X9_takeNumber κ 6 [some (.ref 82), none] (jm_ps v []) μ')) :
    jS g ad m_X9_takeNumber κ 0 [some (.ref 82), none] [] μ := by
  refine jr_aload_n dX9_takeNumber_0 rfl ?_
  refine jr_bipush (9 : Int32) dX9_takeNumber_1 (by decide) ?_
  refine js_callV (st := []) [.int (9 : Int32)] jc_RX9_209 rfl dX9_takeNumber_3 ga_82 rfl rfl rfl rfl (kk := ?_)
  exact h

set_option maxRecDepth 100000 in
set_option maxHeartbeats 4000000 in
theorem sX9_takeNumber_6 {g : jm_G} {ad : Nat → Nat} {κ : jm_K} {P : Option Value → (Nat → Nat → Int32) → Prop} (hE : jE g ad m_X9_takeNumber P κ) {μ : Nat → Nat → Int32}  (r : Int32)
    (h : jS g ad m_X9_takeNumber κ 7 [some (.ref 82), some (.int r)] [] μ) :
    jS g ad m_X9_takeNumber κ 6 [some (.ref 82), none] [.int r] μ := by
  refine jr_istore_n [some (.ref 82), some (.int r)] dX9_takeNumber_6 rfl rfl rfl ?_
  exact h

set_option maxRecDepth 100000 in
set_option maxHeartbeats 4000000 in
theorem sX9_takeNumber_7 {g : jm_G} {ad : Nat → Nat} {κ : jm_K} {P : Option Value → (Nat → Nat → Int32) → Prop} (hE : jE g ad m_X9_takeNumber P κ) {μ : Nat → Nat → Int32}  (x1 : Int32)
    (h : ((x1 ≤ 0 →
    P (some (.int x1)) μ) ∧
    (¬ x1 ≤ 0 →
    (((10000 : Int32) ≤ x1 →
    P (some (.int x1)) μ) ∧
    (¬ (10000 : Int32) ≤ x1 →
    jD g ad m_X9_character [.ref 82, .int (μ 82 24)] μ (fun v μ' => jS g ad m_X9_takeNumber κ 26 [some (.ref 82), some (.int x1)] (jm_ps v []) μ')))))) :
    jS g ad m_X9_takeNumber κ 7 [some (.ref 82), some (.int x1)] [] μ := by
  refine jr_iload_n dX9_takeNumber_7 rfl ?_
  obtain ⟨hA, hB⟩ := h
  refine jr_if_le 51 dX9_takeNumber_8 rfl (fun c => ?_) (fun c => ?_)
  · have h := hA c
    refine jr_iload_n dX9_takeNumber_51 rfl ?_
    exact js_iret hE rfl dX9_takeNumber_52 rfl h
  · have h := hB c
    refine jr_iload_n dX9_takeNumber_11 rfl ?_
    refine jr_sipush (10000 : Int32) dX9_takeNumber_12 (by decide) ?_
    obtain ⟨hA, hB⟩ := h
    refine jr_icmp_ge 51 dX9_takeNumber_15 rfl (fun c => ?_) (fun c => ?_)
    · have h := hA c
      refine jr_iload_n dX9_takeNumber_51 rfl ?_
      exact js_iret hE rfl dX9_takeNumber_52 rfl h
    · have h := hB c
      refine jr_aload_n dX9_takeNumber_18 rfl ?_
      refine jr_aload_n dX9_takeNumber_19 rfl ?_
      refine jr_get 9 24 jf_RX9_203 dX9_takeNumber_20 ga_82 rfl (.int (μ 82 24)) rfl ?_
      refine js_callV (st := []) [.int (μ 82 24)] jc_RX9_206 rfl dX9_takeNumber_23 ga_82 rfl rfl rfl rfl (kk := ?_)
      exact h

set_option maxRecDepth 100000 in
set_option maxHeartbeats 4000000 in
theorem sX9_takeNumber_26 {g : jm_G} {ad : Nat → Nat} {κ : jm_K} {P : Option Value → (Nat → Nat → Int32) → Prop} (hE : jE g ad m_X9_takeNumber P κ) {μ : Nat → Nat → Int32}  (x1 : Int32) (r : Int32)
    (h : jD g ad m_X9_within [.int r, .int (48 : Int32), .int (57 : Int32)] μ (fun v μ' => jS g ad m_X9_takeNumber κ 33 [some (.ref 82), some (.int x1)] (jm_ps v []) μ')) :
    jS g ad m_X9_takeNumber κ 26 [some (.ref 82), some (.int x1)] [.int r] μ := by
  refine jr_bipush (48 : Int32) dX9_takeNumber_26 (by decide) ?_
  refine jr_bipush (57 : Int32) dX9_takeNumber_28 (by decide) ?_
  refine js_callS (st := []) [.int r, .int (48 : Int32), .int (57 : Int32)] jc_RX9_70 rfl dX9_takeNumber_30 rfl rfl rfl (kk := ?_)
  exact h

set_option maxRecDepth 100000 in
set_option maxHeartbeats 4000000 in
theorem sX9_takeNumber_33 {g : jm_G} {ad : Nat → Nat} {κ : jm_K} {P : Option Value → (Nat → Nat → Int32) → Prop} (hE : jE g ad m_X9_takeNumber P κ) {μ : Nat → Nat → Int32}  (x1 : Int32) (r : Int32)
    (h : ((r = 0 →
    P (some (.int x1)) μ) ∧
    (¬ r = 0 →
    jD g ad m_X9_takeDigit [.ref 82, .int (9 : Int32)] μ (fun v μ' => jS g ad m_X9_takeNumber κ 46 [some (.ref 82), none] (jm_ps v [.int ((10 : Int32) * x1)]) μ')))) :
    jS g ad m_X9_takeNumber κ 33 [some (.ref 82), some (.int x1)] [.int r] μ := by
  obtain ⟨hA, hB⟩ := h
  refine jr_if_eq 51 dX9_takeNumber_33 rfl (fun c => ?_) (fun c => ?_)
  · have h := hA c
    refine jr_iload_n dX9_takeNumber_51 rfl ?_
    exact js_iret hE rfl dX9_takeNumber_52 rfl h
  · have h := hB c
    refine jr_bipush (10 : Int32) dX9_takeNumber_36 (by decide) ?_
    refine jr_iload_n dX9_takeNumber_38 rfl ?_
    refine jr_imul dX9_takeNumber_39 ?_
    refine jr_aload_n dX9_takeNumber_40 rfl ?_
    refine jr_bipush (9 : Int32) dX9_takeNumber_41 (by decide) ?_
    refine js_drop 1 [some (.ref 82), none] rfl ?_
    refine js_callV (st := [.int ((10 : Int32) * x1)]) [.int (9 : Int32)] jc_RX9_209 rfl dX9_takeNumber_43 ga_82 rfl rfl rfl rfl (kk := ?_)
    exact h

set_option maxRecDepth 100000 in
set_option maxHeartbeats 4000000 in
theorem sX9_takeNumber_46 {g : jm_G} {ad : Nat → Nat} {κ : jm_K} {P : Option Value → (Nat → Nat → Int32) → Prop} (hE : jE g ad m_X9_takeNumber P κ) {μ : Nat → Nat → Int32}  (r : Int32) (y1 : Int32)
    (h : jS g ad m_X9_takeNumber κ 7 [some (.ref 82), some (.int (y1 + r))] [] μ) :
    jS g ad m_X9_takeNumber κ 46 [some (.ref 82), none] [.int r, .int y1] μ := by
  refine jr_iadd dX9_takeNumber_46 ?_
  refine jr_istore_n [some (.ref 82), some (.int (y1 + r))] dX9_takeNumber_47 rfl rfl rfl ?_
  refine jr_goto 7 dX9_takeNumber_48 rfl ?_
  exact h

set_option maxRecDepth 100000 in
set_option maxHeartbeats 4000000 in
theorem sX9_readsPulse_0 {g : jm_G} {ad : Nat → Nat} {κ : jm_K} {P : Option Value → (Nat → Nat → Int32) → Prop} (hE : jE g ad m_X9_readsPulse P κ) {μ : Nat → Nat → Int32}  
    (h : jD g ad m_X9_takeDigit [.ref 82, .int (3 : Int32)] μ (fun v μ' => jS g ad m_X9_readsPulse κ 6 [some (.ref 82)] (jm_ps v [.ref 82]) μ')) :
    jS g ad m_X9_readsPulse κ 0 [some (.ref 82)] [] μ := by
  refine jr_aload_n dX9_readsPulse_0 rfl ?_
  refine jr_aload_n dX9_readsPulse_1 rfl ?_
  refine jr_iconst (3 : Int32) dX9_readsPulse_2 (by decide) ?_
  refine js_callV (st := [.ref 82]) [.int (3 : Int32)] jc_RX9_209 rfl dX9_readsPulse_3 ga_82 rfl rfl rfl rfl (kk := ?_)
  exact h

set_option maxRecDepth 100000 in
set_option maxHeartbeats 4000000 in
theorem sX9_readsPulse_6 {g : jm_G} {ad : Nat → Nat} {κ : jm_K} {P : Option Value → (Nat → Nat → Int32) → Prop} (hE : jE g ad m_X9_readsPulse P κ) {μ : Nat → Nat → Int32}  (r : Int32)
    (h : (∀ μ1 : Nat → Nat → Int32, μ1 = jm_st μ 82 25 r →
    (((μ1 82 25) < 0 →
    (∀ μ2 : Nat → Nat → Int32, μ2 = jm_st μ1 82 26 (-1 : Int32) →
    (((μ2 82 26) < 0 →
    P (some (.int (0 : Int32))) μ2) ∧
    (¬ (μ2 82 26) < 0 →
    P (some (.int (1 : Int32))) μ2)))) ∧
    (¬ (μ1 82 25) < 0 →
    jD g ad m_X9_isNext [.ref 82, .int (58 : Int32)] μ1 (fun v μ' => jS g ad m_X9_readsPulse κ 23 [some (.ref 82)] (jm_ps v [.ref 82]) μ'))))) :
    jS g ad m_X9_readsPulse κ 6 [some (.ref 82)] [.int r, .ref 82] μ := by
  refine jr_putI 9 25 jf_RX9_212 dX9_readsPulse_6 ga_82 rfl ?_
  obtain ⟨μ1, e1⟩ : ∃ x : Nat → Nat → Int32, x = jm_st μ 82 25 r := ⟨_, rfl⟩
  have h := h μ1 e1
  refine js_mem e1 ?_
  refine jr_aload_n dX9_readsPulse_9 rfl ?_
  refine jr_aload_n dX9_readsPulse_10 rfl ?_
  refine jr_get 9 25 jf_RX9_212 dX9_readsPulse_11 ga_82 rfl (.int (μ1 82 25)) rfl ?_
  obtain ⟨hA, hB⟩ := h
  refine jr_if_lt 33 dX9_readsPulse_14 rfl (fun c => ?_) (fun c => ?_)
  · have h := hA c
    refine jr_iconst (-1 : Int32) dX9_readsPulse_33 (by decide) ?_
    refine jr_putI 9 26 jf_RX9_221 dX9_readsPulse_34 ga_82 rfl ?_
    obtain ⟨μ2, e2⟩ : ∃ x : Nat → Nat → Int32, x = jm_st μ1 82 26 (-1 : Int32) := ⟨_, rfl⟩
    have h := h μ2 e2
    refine js_mem e2 ?_
    refine jr_aload_n dX9_readsPulse_37 rfl ?_
    refine jr_get 9 26 jf_RX9_221 dX9_readsPulse_38 ga_82 rfl (.int (μ2 82 26)) rfl ?_
    obtain ⟨hA, hB⟩ := h
    refine jr_if_lt 48 dX9_readsPulse_41 rfl (fun c => ?_) (fun c => ?_)
    · have h := hA c
      refine jr_iconst (0 : Int32) dX9_readsPulse_48 (by decide) ?_
      exact js_zret hE rfl dX9_readsPulse_49 rfl (by decide) h
    · have h := hB c
      refine jr_iconst (1 : Int32) dX9_readsPulse_44 (by decide) ?_
      refine jr_goto 49 dX9_readsPulse_45 rfl ?_
      exact js_zret hE rfl dX9_readsPulse_49 rfl (by decide) h
  · have h := hB c
    refine jr_aload_n dX9_readsPulse_17 rfl ?_
    refine jr_bipush (58 : Int32) dX9_readsPulse_18 (by decide) ?_
    refine js_callV (st := [.ref 82]) [.int (58 : Int32)] jc_RX9_215 rfl dX9_readsPulse_20 ga_82 rfl rfl rfl rfl (kk := ?_)
    exact h

set_option maxRecDepth 100000 in
set_option maxHeartbeats 4000000 in
theorem sX9_readsPulse_23 {g : jm_G} {ad : Nat → Nat} {κ : jm_K} {P : Option Value → (Nat → Nat → Int32) → Prop} (hE : jE g ad m_X9_readsPulse P κ) {μ : Nat → Nat → Int32}  (r : Int32)
    (h : ((r = 0 →
    (∀ μ1 : Nat → Nat → Int32, μ1 = jm_st μ 82 26 (-1 : Int32) →
    (((μ1 82 26) < 0 →
    P (some (.int (0 : Int32))) μ1) ∧
    (¬ (μ1 82 26) < 0 →
    P (some (.int (1 : Int32))) μ1)))) ∧
    (¬ r = 0 →
    jD g ad m_X9_takeNumber [.ref 82] μ (fun v μ' => jS g ad m_X9_readsPulse κ 30 [some (.ref 82)] (jm_ps v [.ref 82]) μ')))) :
    jS g ad m_X9_readsPulse κ 23 [some (.ref 82)] [.int r, .ref 82] μ := by
  obtain ⟨hA, hB⟩ := h
  refine jr_if_eq 33 dX9_readsPulse_23 rfl (fun c => ?_) (fun c => ?_)
  · have h := hA c
    refine jr_iconst (-1 : Int32) dX9_readsPulse_33 (by decide) ?_
    refine jr_putI 9 26 jf_RX9_221 dX9_readsPulse_34 ga_82 rfl ?_
    obtain ⟨μ1, e1⟩ : ∃ x : Nat → Nat → Int32, x = jm_st μ 82 26 (-1 : Int32) := ⟨_, rfl⟩
    have h := h μ1 e1
    refine js_mem e1 ?_
    refine jr_aload_n dX9_readsPulse_37 rfl ?_
    refine jr_get 9 26 jf_RX9_221 dX9_readsPulse_38 ga_82 rfl (.int (μ1 82 26)) rfl ?_
    obtain ⟨hA, hB⟩ := h
    refine jr_if_lt 48 dX9_readsPulse_41 rfl (fun c => ?_) (fun c => ?_)
    · have h := hA c
      refine jr_iconst (0 : Int32) dX9_readsPulse_48 (by decide) ?_
      exact js_zret hE rfl dX9_readsPulse_49 rfl (by decide) h
    · have h := hB c
      refine jr_iconst (1 : Int32) dX9_readsPulse_44 (by decide) ?_
      refine jr_goto 49 dX9_readsPulse_45 rfl ?_
      exact js_zret hE rfl dX9_readsPulse_49 rfl (by decide) h
  · have h := hB c
    refine jr_aload_n dX9_readsPulse_26 rfl ?_
    refine js_callV (st := [.ref 82]) [] jc_RX9_218 rfl dX9_readsPulse_27 ga_82 rfl rfl rfl rfl (kk := ?_)
    exact h

set_option maxRecDepth 100000 in
set_option maxHeartbeats 4000000 in
theorem sX9_readsPulse_30 {g : jm_G} {ad : Nat → Nat} {κ : jm_K} {P : Option Value → (Nat → Nat → Int32) → Prop} (hE : jE g ad m_X9_readsPulse P κ) {μ : Nat → Nat → Int32}  (r : Int32)
    (h : (∀ μ1 : Nat → Nat → Int32, μ1 = jm_st μ 82 26 r →
    (((μ1 82 26) < 0 →
    P (some (.int (0 : Int32))) μ1) ∧
    (¬ (μ1 82 26) < 0 →
    P (some (.int (1 : Int32))) μ1)))) :
    jS g ad m_X9_readsPulse κ 30 [some (.ref 82)] [.int r, .ref 82] μ := by
  refine jr_goto 34 dX9_readsPulse_30 rfl ?_
  refine jr_putI 9 26 jf_RX9_221 dX9_readsPulse_34 ga_82 rfl ?_
  obtain ⟨μ1, e1⟩ : ∃ x : Nat → Nat → Int32, x = jm_st μ 82 26 r := ⟨_, rfl⟩
  have h := h μ1 e1
  refine js_mem e1 ?_
  refine jr_aload_n dX9_readsPulse_37 rfl ?_
  refine jr_get 9 26 jf_RX9_221 dX9_readsPulse_38 ga_82 rfl (.int (μ1 82 26)) rfl ?_
  obtain ⟨hA, hB⟩ := h
  refine jr_if_lt 48 dX9_readsPulse_41 rfl (fun c => ?_) (fun c => ?_)
  · have h := hA c
    refine jr_iconst (0 : Int32) dX9_readsPulse_48 (by decide) ?_
    exact js_zret hE rfl dX9_readsPulse_49 rfl (by decide) h
  · have h := hB c
    refine jr_iconst (1 : Int32) dX9_readsPulse_44 (by decide) ?_
    refine jr_goto 49 dX9_readsPulse_45 rfl ?_
    exact js_zret hE rfl dX9_readsPulse_49 rfl (by decide) h

set_option maxRecDepth 100000 in
set_option maxHeartbeats 4000000 in
theorem sX9_findFault_0 {g : jm_G} {ad : Nat → Nat} {κ : jm_K} {P : Option Value → (Nat → Nat → Int32) → Prop} (hE : jE g ad m_X9_findFault P κ) {μ : Nat → Nat → Int32}  
    (h : (∀ μ1 : Nat → Nat → Int32, μ1 = jm_st μ 82 24 (0 : Int32) →
    jS g ad m_X9_findFault κ 5 [some (.ref 82)] [] μ1)) :
    jS g ad m_X9_findFault κ 0 [some (.ref 82)] [] μ := by
  refine jr_aload_n dX9_findFault_0 rfl ?_
  refine jr_iconst (0 : Int32) dX9_findFault_1 (by decide) ?_
  refine jr_putI 9 24 jf_RX9_203 dX9_findFault_2 ga_82 rfl ?_
  obtain ⟨μ1, e1⟩ : ∃ x : Nat → Nat → Int32, x = jm_st μ 82 24 (0 : Int32) := ⟨_, rfl⟩
  have h := h μ1 e1
  refine js_mem e1 ?_
  exact h

set_option maxRecDepth 100000 in
set_option maxHeartbeats 4000000 in
theorem sX9_findFault_5 {g : jm_G} {ad : Nat → Nat} {κ : jm_K} {P : Option Value → (Nat → Nat → Int32) → Prop} (hE : jE g ad m_X9_findFault P κ) {μ : Nat → Nat → Int32}  
    (h : jD g ad m_X9_readsPulse [.ref 82] μ (fun v μ' => jS g ad m_X9_findFault κ 9 [some (.ref 82)] (jm_ps v []) μ')) :
    jS g ad m_X9_findFault κ 5 [some (.ref 82)] [] μ := by
  refine jr_aload_n dX9_findFault_5 rfl ?_
  refine js_callV (st := []) [] jc_RX9_224 rfl dX9_findFault_6 ga_82 rfl rfl rfl rfl (kk := ?_)
  exact h

set_option maxRecDepth 100000 in
set_option maxHeartbeats 4000000 in
theorem sX9_findFault_9 {g : jm_G} {ad : Nat → Nat} {κ : jm_K} {P : Option Value → (Nat → Nat → Int32) → Prop} (hE : jE g ad m_X9_findFault P κ) {μ : Nat → Nat → Int32}  (r : Int32)
    (h : ((¬ r = 0 →
    ((¬ (μ 82 24) = (μ 82 7) →
    jD g ad m_X9_isNext [.ref 82, .int (59 : Int32)] μ (fun v μ' => jS g ad m_X9_findFault κ 37 [some (.ref 82)] (jm_ps v []) μ')) ∧
    ((μ 82 24) = (μ 82 7) →
    P (some (.int (-6 : Int32))) μ))) ∧
    (r = 0 →
    P (some (.int (μ 82 24))) μ))) :
    jS g ad m_X9_findFault κ 9 [some (.ref 82)] [.int r] μ := by
  obtain ⟨hA, hB⟩ := h
  refine jr_if_ne 17 dX9_findFault_9 rfl (fun c => ?_) (fun c => ?_)
  · have h := hA c
    refine jr_aload_n dX9_findFault_17 rfl ?_
    refine jr_get 9 24 jf_RX9_203 dX9_findFault_18 ga_82 rfl (.int (μ 82 24)) rfl ?_
    refine jr_aload_n dX9_findFault_21 rfl ?_
    refine jr_get 9 7 jf_RX9_198 dX9_findFault_22 ga_82 rfl (.int (μ 82 7)) rfl ?_
    obtain ⟨hA, hB⟩ := h
    refine jr_icmp_ne 31 dX9_findFault_25 rfl (fun c => ?_) (fun c => ?_)
    · have h := hA c
      refine jr_aload_n dX9_findFault_31 rfl ?_
      refine jr_bipush (59 : Int32) dX9_findFault_32 (by decide) ?_
      refine js_callV (st := []) [.int (59 : Int32)] jc_RX9_215 rfl dX9_findFault_34 ga_82 rfl rfl rfl rfl (kk := ?_)
      exact h
    · have h := hB c
      refine jr_bipush (-6 : Int32) dX9_findFault_28 (by decide) ?_
      exact js_iret hE rfl dX9_findFault_30 rfl h
  · have h := hB c
    refine jr_aload_n dX9_findFault_12 rfl ?_
    refine jr_get 9 24 jf_RX9_203 dX9_findFault_13 ga_82 rfl (.int (μ 82 24)) rfl ?_
    exact js_iret hE rfl dX9_findFault_16 rfl h

set_option maxRecDepth 100000 in
set_option maxHeartbeats 4000000 in
theorem sX9_findFault_37 {g : jm_G} {ad : Nat → Nat} {κ : jm_K} {P : Option Value → (Nat → Nat → Int32) → Prop} (hE : jE g ad m_X9_findFault P κ) {μ : Nat → Nat → Int32}  (r : Int32)
    (h : ((¬ r = 0 →
    jS g ad m_X9_findFault κ 5 [some (.ref 82)] [] μ) ∧
    (r = 0 →
    P (some (.int (μ 82 24))) μ))) :
    jS g ad m_X9_findFault κ 37 [some (.ref 82)] [.int r] μ := by
  obtain ⟨hA, hB⟩ := h
  refine jr_if_ne 5 dX9_findFault_37 rfl (fun c => ?_) (fun c => ?_)
  · have h := hA c
    exact h
  · have h := hB c
    refine jr_aload_n dX9_findFault_40 rfl ?_
    refine jr_get 9 24 jf_RX9_203 dX9_findFault_41 ga_82 rfl (.int (μ 82 24)) rfl ?_
    exact js_iret hE rfl dX9_findFault_44 rfl h

set_option maxRecDepth 100000 in
set_option maxHeartbeats 4000000 in
theorem sX9_fault_0 {g : jm_G} {ad : Nat → Nat} {κ : jm_K} {P : Option Value → (Nat → Nat → Int32) → Prop} (hE : jE g ad m_X9_fault P κ) {μ : Nat → Nat → Int32}  
    (h : jD g ad m_X9_findFault [.ref 82] μ (fun v μ' => jS g ad m_X9_fault κ 4 [none] (jm_ps v []) μ')) :
    jS g ad m_X9_fault κ 0 [some (.ref 82)] [] μ := by
  refine jr_aload_n dX9_fault_0 rfl ?_
  refine js_drop 0 [none] rfl ?_
  refine js_callV (st := []) [] jc_RX9_227 rfl dX9_fault_1 ga_82 rfl rfl rfl rfl (kk := ?_)
  exact h

set_option maxRecDepth 100000 in
set_option maxHeartbeats 4000000 in
theorem sX9_fault_4 {g : jm_G} {ad : Nat → Nat} {κ : jm_K} {P : Option Value → (Nat → Nat → Int32) → Prop} (hE : jE g ad m_X9_fault P κ) {μ : Nat → Nat → Int32}  (r : Int32)
    (h : P (some (.int r)) μ) :
    jS g ad m_X9_fault κ 4 [none] [.int r] μ := by
  exact js_iret hE rfl dX9_fault_4 rfl h

set_option maxRecDepth 100000 in
set_option maxHeartbeats 4000000 in
theorem sX9_hearAll_0 {g : jm_G} {ad : Nat → Nat} {κ : jm_K} {P : Option Value → (Nat → Nat → Int32) → Prop} (hE : jE g ad m_X9_hearAll P κ) {μ : Nat → Nat → Int32}  
    (h : jD g ad m_X9_findFault [.ref 82] μ (fun v μ' => jS g ad m_X9_hearAll κ 4 [some (.ref 82), none, none] (jm_ps v []) μ')) :
    jS g ad m_X9_hearAll κ 0 [some (.ref 82), none, none] [] μ := by
  refine jr_aload_n dX9_hearAll_0 rfl ?_
  refine js_callV (st := []) [] jc_RX9_227 rfl dX9_hearAll_1 ga_82 rfl rfl rfl rfl (kk := ?_)
  exact h

set_option maxRecDepth 100000 in
set_option maxHeartbeats 4000000 in
theorem sX9_hearAll_4 {g : jm_G} {ad : Nat → Nat} {κ : jm_K} {P : Option Value → (Nat → Nat → Int32) → Prop} (hE : jE g ad m_X9_hearAll P κ) {μ : Nat → Nat → Int32}  (r : Int32)
    (h : ((r = (-6 : Int32) →
    jD g ad m_X9_record [.ref 82] μ (fun v μ' => jS g ad m_X9_hearAll κ 16 [some (.ref 82), none, none] (jm_ps v []) μ')) ∧
    (¬ r = (-6 : Int32) →
    P (some (.int (-3 : Int32))) μ))) :
    jS g ad m_X9_hearAll κ 4 [some (.ref 82), none, none] [.int r] μ := by
  refine jr_bipush (-6 : Int32) dX9_hearAll_4 (by decide) ?_
  obtain ⟨hA, hB⟩ := h
  refine jr_icmp_eq 12 dX9_hearAll_6 rfl (fun c => ?_) (fun c => ?_)
  · have h := hA c
    refine jr_aload_n dX9_hearAll_12 rfl ?_
    refine js_callV (st := []) [] jc_RX9_153 rfl dX9_hearAll_13 ga_82 rfl rfl rfl rfl (kk := ?_)
    exact h
  · have h := hB c
    refine jr_bipush (-3 : Int32) dX9_hearAll_9 (by decide) ?_
    exact js_iret hE rfl dX9_hearAll_11 rfl h

set_option maxRecDepth 100000 in
set_option maxHeartbeats 4000000 in
theorem sX9_hearAll_16 {g : jm_G} {ad : Nat → Nat} {κ : jm_K} {P : Option Value → (Nat → Nat → Int32) → Prop} (hE : jE g ad m_X9_hearAll P κ) {μ : Nat → Nat → Int32}  
    (h : (∀ μ1 : Nat → Nat → Int32, μ1 = jm_st μ 82 24 (0 : Int32) →
    jS g ad m_X9_hearAll κ 25 [some (.ref 82), some (.int (0 : Int32)), some (.int (1 : Int32))] [] μ1)) :
    jS g ad m_X9_hearAll κ 16 [some (.ref 82), none, none] [] μ := by
  refine jr_iconst (0 : Int32) dX9_hearAll_16 (by decide) ?_
  refine jr_istore_n [some (.ref 82), some (.int (0 : Int32)), none] dX9_hearAll_17 rfl rfl rfl ?_
  refine jr_aload_n dX9_hearAll_18 rfl ?_
  refine jr_iconst (0 : Int32) dX9_hearAll_19 (by decide) ?_
  refine jr_putI 9 24 jf_RX9_203 dX9_hearAll_20 ga_82 rfl ?_
  obtain ⟨μ1, e1⟩ : ∃ x : Nat → Nat → Int32, x = jm_st μ 82 24 (0 : Int32) := ⟨_, rfl⟩
  have h := h μ1 e1
  refine js_mem e1 ?_
  refine jr_iconst (1 : Int32) dX9_hearAll_23 (by decide) ?_
  refine jr_istore_n [some (.ref 82), some (.int (0 : Int32)), some (.int (1 : Int32))] dX9_hearAll_24 rfl rfl rfl ?_
  exact h

set_option maxRecDepth 100000 in
set_option maxHeartbeats 4000000 in
theorem sX9_hearAll_25 {g : jm_G} {ad : Nat → Nat} {κ : jm_K} {P : Option Value → (Nat → Nat → Int32) → Prop} (hE : jE g ad m_X9_hearAll P κ) {μ : Nat → Nat → Int32}  (x1 : Int32) (x2 : Int32)
    (h : ((x2 = 0 →
    (∀ μ1 : Nat → Nat → Int32, μ1 = jm_st μ 82 7 (0 : Int32) →
    P (some (.int x1)) μ1)) ∧
    (¬ x2 = 0 →
    (((μ 82 7) ≤ (μ 82 24) →
    (∀ μ2 : Nat → Nat → Int32, μ2 = jm_st μ 82 7 (0 : Int32) →
    P (some (.int x1)) μ2)) ∧
    (¬ (μ 82 7) ≤ (μ 82 24) →
    jD g ad m_X9_readsPulse [.ref 82] μ (fun v μ' => jS g ad m_X9_hearAll κ 44 [some (.ref 82), some (.int x1), none] (jm_ps v []) μ')))))) :
    jS g ad m_X9_hearAll κ 25 [some (.ref 82), some (.int x1), some (.int x2)] [] μ := by
  refine jr_iload_n dX9_hearAll_25 rfl ?_
  obtain ⟨hA, hB⟩ := h
  refine jr_if_eq 96 dX9_hearAll_26 rfl (fun c => ?_) (fun c => ?_)
  · have h := hA c
    refine jr_aload_n dX9_hearAll_96 rfl ?_
    refine jr_iconst (0 : Int32) dX9_hearAll_97 (by decide) ?_
    refine jr_putI 9 7 jf_RX9_198 dX9_hearAll_98 ga_82 rfl ?_
    obtain ⟨μ1, e1⟩ : ∃ x : Nat → Nat → Int32, x = jm_st μ 82 7 (0 : Int32) := ⟨_, rfl⟩
    have h := h μ1 e1
    refine js_mem e1 ?_
    refine jr_iload_n dX9_hearAll_101 rfl ?_
    exact js_iret hE rfl dX9_hearAll_102 rfl h
  · have h := hB c
    refine jr_aload_n dX9_hearAll_29 rfl ?_
    refine jr_get 9 24 jf_RX9_203 dX9_hearAll_30 ga_82 rfl (.int (μ 82 24)) rfl ?_
    refine jr_aload_n dX9_hearAll_33 rfl ?_
    refine jr_get 9 7 jf_RX9_198 dX9_hearAll_34 ga_82 rfl (.int (μ 82 7)) rfl ?_
    obtain ⟨hA, hB⟩ := h
    refine jr_icmp_ge 96 dX9_hearAll_37 rfl (fun c => ?_) (fun c => ?_)
    · have h := hA c
      refine jr_aload_n dX9_hearAll_96 rfl ?_
      refine jr_iconst (0 : Int32) dX9_hearAll_97 (by decide) ?_
      refine jr_putI 9 7 jf_RX9_198 dX9_hearAll_98 ga_82 rfl ?_
      obtain ⟨μ2, e2⟩ : ∃ x : Nat → Nat → Int32, x = jm_st μ 82 7 (0 : Int32) := ⟨_, rfl⟩
      have h := h μ2 e2
      refine js_mem e2 ?_
      refine jr_iload_n dX9_hearAll_101 rfl ?_
      exact js_iret hE rfl dX9_hearAll_102 rfl h
    · have h := hB c
      refine jr_aload_n dX9_hearAll_40 rfl ?_
      refine js_drop 2 [some (.ref 82), some (.int x1), none] rfl ?_
      refine js_callV (st := []) [] jc_RX9_224 rfl dX9_hearAll_41 ga_82 rfl rfl rfl rfl (kk := ?_)
      exact h

set_option maxRecDepth 100000 in
set_option maxHeartbeats 4000000 in
theorem sX9_hearAll_44 {g : jm_G} {ad : Nat → Nat} {κ : jm_K} {P : Option Value → (Nat → Nat → Int32) → Prop} (hE : jE g ad m_X9_hearAll P κ) {μ : Nat → Nat → Int32}  (x1 : Int32) (r : Int32)
    (h : jD g ad m_X9_isNext [.ref 82, .int (59 : Int32)] μ (fun v μ' => jS g ad m_X9_hearAll κ 51 [some (.ref 82), some (.int x1), none] (jm_ps v []) μ')) :
    jS g ad m_X9_hearAll κ 44 [some (.ref 82), some (.int x1), none] [.int r] μ := by
  refine jr_pop dX9_hearAll_44 rfl ?_
  refine jr_aload_n dX9_hearAll_45 rfl ?_
  refine jr_bipush (59 : Int32) dX9_hearAll_46 (by decide) ?_
  refine js_callV (st := []) [.int (59 : Int32)] jc_RX9_215 rfl dX9_hearAll_48 ga_82 rfl rfl rfl rfl (kk := ?_)
  exact h

set_option maxRecDepth 100000 in
set_option maxHeartbeats 4000000 in
theorem sX9_hearAll_51 {g : jm_G} {ad : Nat → Nat} {κ : jm_K} {P : Option Value → (Nat → Nat → Int32) → Prop} (hE : jE g ad m_X9_hearAll P κ) {μ : Nat → Nat → Int32}  (x1 : Int32) (r : Int32)
    (h : jD g ad m_X9_whyNotHeard [.ref 82, .int (μ 82 25), .int (μ 82 26)] μ (fun v μ' => jS g ad m_X9_hearAll κ 64 [some (.ref 82), some (.int x1), none] (jm_ps v []) μ')) :
    jS g ad m_X9_hearAll κ 51 [some (.ref 82), some (.int x1), none] [.int r] μ := by
  refine jr_pop dX9_hearAll_51 rfl ?_
  refine jr_aload_n dX9_hearAll_52 rfl ?_
  refine jr_aload_n dX9_hearAll_53 rfl ?_
  refine jr_get 9 25 jf_RX9_212 dX9_hearAll_54 ga_82 rfl (.int (μ 82 25)) rfl ?_
  refine jr_aload_n dX9_hearAll_57 rfl ?_
  refine jr_get 9 26 jf_RX9_221 dX9_hearAll_58 ga_82 rfl (.int (μ 82 26)) rfl ?_
  refine js_callV (st := []) [.int (μ 82 25), .int (μ 82 26)] jc_RX9_162 rfl dX9_hearAll_61 ga_82 rfl rfl rfl rfl (kk := ?_)
  exact h

set_option maxRecDepth 100000 in
set_option maxHeartbeats 4000000 in
theorem sX9_hearAll_64 {g : jm_G} {ad : Nat → Nat} {κ : jm_K} {P : Option Value → (Nat → Nat → Int32) → Prop} (hE : jE g ad m_X9_hearAll P κ) {μ : Nat → Nat → Int32}  (x1 : Int32) (r : Int32)
    (h : ((¬ r = 0 →
    (((0 : Int32) = 0 →
    jS g ad m_X9_hearAll κ 25 [some (.ref 82), some (.int x1), some (.int (0 : Int32))] [] μ) ∧
    (¬ (0 : Int32) = 0 →
    jD g ad m_X9_comes [.ref 82, .int (μ 82 25), .int (μ 82 26)] μ (fun v μ' => jS g ad m_X9_hearAll κ 89 [some (.ref 82), some (.int x1), some (.int (0 : Int32))] (jm_ps v []) μ')))) ∧
    (r = 0 →
    (((1 : Int32) = 0 →
    jS g ad m_X9_hearAll κ 25 [some (.ref 82), some (.int x1), some (.int (1 : Int32))] [] μ) ∧
    (¬ (1 : Int32) = 0 →
    jD g ad m_X9_comes [.ref 82, .int (μ 82 25), .int (μ 82 26)] μ (fun v μ' => jS g ad m_X9_hearAll κ 89 [some (.ref 82), some (.int x1), some (.int (1 : Int32))] (jm_ps v []) μ')))))) :
    jS g ad m_X9_hearAll κ 64 [some (.ref 82), some (.int x1), none] [.int r] μ := by
  obtain ⟨hA, hB⟩ := h
  refine jr_if_ne 71 dX9_hearAll_64 rfl (fun c => ?_) (fun c => ?_)
  · have h := hA c
    refine jr_iconst (0 : Int32) dX9_hearAll_71 (by decide) ?_
    refine jr_istore_n [some (.ref 82), some (.int x1), some (.int (0 : Int32))] dX9_hearAll_72 rfl rfl rfl ?_
    refine jr_iload_n dX9_hearAll_73 rfl ?_
    obtain ⟨hA, hB⟩ := h
    refine jr_if_eq 25 dX9_hearAll_74 rfl (fun c => ?_) (fun c => ?_)
    · have h := hA c
      exact h
    · have h := hB c
      refine jr_aload_n dX9_hearAll_77 rfl ?_
      refine jr_aload_n dX9_hearAll_78 rfl ?_
      refine jr_get 9 25 jf_RX9_212 dX9_hearAll_79 ga_82 rfl (.int (μ 82 25)) rfl ?_
      refine jr_aload_n dX9_hearAll_82 rfl ?_
      refine jr_get 9 26 jf_RX9_221 dX9_hearAll_83 ga_82 rfl (.int (μ 82 26)) rfl ?_
      refine js_callV (st := []) [.int (μ 82 25), .int (μ 82 26)] jc_RX9_166 rfl dX9_hearAll_86 ga_82 rfl rfl rfl rfl (kk := ?_)
      exact h
  · have h := hB c
    refine jr_iconst (1 : Int32) dX9_hearAll_67 (by decide) ?_
    refine jr_goto 72 dX9_hearAll_68 rfl ?_
    refine jr_istore_n [some (.ref 82), some (.int x1), some (.int (1 : Int32))] dX9_hearAll_72 rfl rfl rfl ?_
    refine jr_iload_n dX9_hearAll_73 rfl ?_
    obtain ⟨hA, hB⟩ := h
    refine jr_if_eq 25 dX9_hearAll_74 rfl (fun c => ?_) (fun c => ?_)
    · have h := hA c
      exact h
    · have h := hB c
      refine jr_aload_n dX9_hearAll_77 rfl ?_
      refine jr_aload_n dX9_hearAll_78 rfl ?_
      refine jr_get 9 25 jf_RX9_212 dX9_hearAll_79 ga_82 rfl (.int (μ 82 25)) rfl ?_
      refine jr_aload_n dX9_hearAll_82 rfl ?_
      refine jr_get 9 26 jf_RX9_221 dX9_hearAll_83 ga_82 rfl (.int (μ 82 26)) rfl ?_
      refine js_callV (st := []) [.int (μ 82 25), .int (μ 82 26)] jc_RX9_166 rfl dX9_hearAll_86 ga_82 rfl rfl rfl rfl (kk := ?_)
      exact h

set_option maxRecDepth 100000 in
set_option maxHeartbeats 4000000 in
theorem sX9_hearAll_89 {g : jm_G} {ad : Nat → Nat} {κ : jm_K} {P : Option Value → (Nat → Nat → Int32) → Prop} (hE : jE g ad m_X9_hearAll P κ) {μ : Nat → Nat → Int32}  (x1 : Int32) (x2 : Int32) (r : Int32)
    (h : jS g ad m_X9_hearAll κ 25 [some (.ref 82), some (.int (x1 + 1)), some (.int x2)] [] μ) :
    jS g ad m_X9_hearAll κ 89 [some (.ref 82), some (.int x1), some (.int x2)] [.int r] μ := by
  refine jr_pop dX9_hearAll_89 rfl ?_
  refine jr_iinc [some (.ref 82), some (.int (x1 + 1)), some (.int x2)] dX9_hearAll_90 rfl rfl rfl rfl rfl ?_
  refine jr_goto 25 dX9_hearAll_93 rfl ?_
  exact h

set_option maxRecDepth 100000 in
set_option maxHeartbeats 4000000 in
theorem sX9_undo_0 {g : jm_G} {ad : Nat → Nat} {κ : jm_K} {P : Option Value → (Nat → Nat → Int32) → Prop} (hE : jE g ad m_X9_undo P κ) {μ : Nat → Nat → Int32}  
    (h : ((¬ (μ 82 3) = 0 →
    (∀ μ1 : Nat → Nat → Int32, μ1 = jm_st μ 82 3 ((μ 82 3) - (1 : Int32)) →
    jD g ad m_X9_moves [.ref 85, .int ((μ1 82 3) * (68 : Int32)), .ref 83, .int (0 : Int32)] μ1 (fun v μ' => jS g ad m_X9_undo κ 39 [some (.ref 82)] (jm_ps v []) μ'))) ∧
    ((μ 82 3) = 0 →
    P (some (.int (-5 : Int32))) μ))) :
    jS g ad m_X9_undo κ 0 [some (.ref 82)] [] μ := by
  refine jr_aload_n dX9_undo_0 rfl ?_
  refine jr_get 9 3 jf_RX9_62 dX9_undo_1 ga_82 rfl (.int (μ 82 3)) rfl ?_
  obtain ⟨hA, hB⟩ := h
  refine jr_if_ne 10 dX9_undo_4 rfl (fun c => ?_) (fun c => ?_)
  · have h := hA c
    refine jr_aload_n dX9_undo_10 rfl ?_
    refine jr_dup dX9_undo_11 rfl ?_
    refine jr_get 9 3 jf_RX9_62 dX9_undo_12 ga_82 rfl (.int (μ 82 3)) rfl ?_
    refine jr_iconst (1 : Int32) dX9_undo_15 (by decide) ?_
    refine jr_isub dX9_undo_16 ?_
    refine jr_putI 9 3 jf_RX9_62 dX9_undo_17 ga_82 rfl ?_
    obtain ⟨μ1, e1⟩ : ∃ x : Nat → Nat → Int32, x = jm_st μ 82 3 ((μ 82 3) - (1 : Int32)) := ⟨_, rfl⟩
    have h := h μ1 e1
    refine js_mem e1 ?_
    refine jr_aload_n dX9_undo_20 rfl ?_
    refine jr_get 9 2 jf_RX9_16 dX9_undo_21 ga_82 rfl (.ref 85) rfl ?_
    refine jr_aload_n dX9_undo_24 rfl ?_
    refine jr_get 9 3 jf_RX9_62 dX9_undo_25 ga_82 rfl (.int (μ1 82 3)) rfl ?_
    refine jr_bipush (68 : Int32) dX9_undo_28 (by decide) ?_
    refine jr_imul dX9_undo_30 ?_
    refine jr_aload_n dX9_undo_31 rfl ?_
    refine jr_get 9 0 jf_RX9_7 dX9_undo_32 ga_82 rfl (.ref 83) rfl ?_
    refine jr_iconst (0 : Int32) dX9_undo_35 (by decide) ?_
    refine js_callS (st := []) [.ref 85, .int ((μ1 82 3) * (68 : Int32)), .ref 83, .int (0 : Int32)] jc_RX9_66 rfl dX9_undo_36 rfl rfl rfl (kk := ?_)
    exact h
  · have h := hB c
    refine jr_bipush (-5 : Int32) dX9_undo_7 (by decide) ?_
    exact js_iret hE rfl dX9_undo_9 rfl h

set_option maxRecDepth 100000 in
set_option maxHeartbeats 4000000 in
theorem sX9_undo_39 {g : jm_G} {ad : Nat → Nat} {κ : jm_K} {P : Option Value → (Nat → Nat → Int32) → Prop} (hE : jE g ad m_X9_undo P κ) {μ : Nat → Nat → Int32}  
    (h : P (some (.int (μ 82 3))) μ) :
    jS g ad m_X9_undo κ 39 [some (.ref 82)] [] μ := by
  refine jr_aload_n dX9_undo_39 rfl ?_
  refine jr_get 9 3 jf_RX9_62 dX9_undo_40 ga_82 rfl (.int (μ 82 3)) rfl ?_
  exact js_iret hE rfl dX9_undo_43 rfl h

set_option maxRecDepth 100000 in
set_option maxHeartbeats 4000000 in
theorem sX9_save_0 {g : jm_G} {ad : Nat → Nat} {κ : jm_K} {P : Option Value → (Nat → Nat → Int32) → Prop} (hE : jE g ad m_X9_save P κ) {μ : Nat → Nat → Int32}  (p1 : Int32)
    (h : jD g ad m_X9_within [.int p1, .int (0 : Int32), .int (1 : Int32)] μ (fun v μ' => jS g ad m_X9_save κ 6 [some (.ref 82), some (.int p1)] (jm_ps v []) μ')) :
    jS g ad m_X9_save κ 0 [some (.ref 82), some (.int p1)] [] μ := by
  refine jr_iload_n dX9_save_0 rfl ?_
  refine jr_iconst (0 : Int32) dX9_save_1 (by decide) ?_
  refine jr_iconst (1 : Int32) dX9_save_2 (by decide) ?_
  refine js_callS (st := []) [.int p1, .int (0 : Int32), .int (1 : Int32)] jc_RX9_70 rfl dX9_save_3 rfl rfl rfl (kk := ?_)
  exact h

set_option maxRecDepth 100000 in
set_option maxHeartbeats 4000000 in
theorem sX9_save_6 {g : jm_G} {ad : Nat → Nat} {κ : jm_K} {P : Option Value → (Nat → Nat → Int32) → Prop} (hE : jE g ad m_X9_save P κ) {μ : Nat → Nat → Int32}  (x1 : Int32) (r : Int32)
    (h : ((¬ r = 0 →
    jD g ad m_X9_moves [.ref 83, .int (0 : Int32), .ref 86, .int ((68 : Int32) * x1)] μ (fun v μ' => jS g ad m_X9_save κ 28 [some (.ref 82), some (.int x1)] (jm_ps v []) μ')) ∧
    (r = 0 →
    P (some (.int (-2 : Int32))) μ))) :
    jS g ad m_X9_save κ 6 [some (.ref 82), some (.int x1)] [.int r] μ := by
  obtain ⟨hA, hB⟩ := h
  refine jr_if_ne 12 dX9_save_6 rfl (fun c => ?_) (fun c => ?_)
  · have h := hA c
    refine jr_aload_n dX9_save_12 rfl ?_
    refine jr_get 9 0 jf_RX9_7 dX9_save_13 ga_82 rfl (.ref 83) rfl ?_
    refine jr_iconst (0 : Int32) dX9_save_16 (by decide) ?_
    refine jr_aload_n dX9_save_17 rfl ?_
    refine jr_get 9 4 jf_RX9_19 dX9_save_18 ga_82 rfl (.ref 86) rfl ?_
    refine jr_bipush (68 : Int32) dX9_save_21 (by decide) ?_
    refine jr_iload_n dX9_save_23 rfl ?_
    refine jr_imul dX9_save_24 ?_
    refine js_callS (st := []) [.ref 83, .int (0 : Int32), .ref 86, .int ((68 : Int32) * x1)] jc_RX9_66 rfl dX9_save_25 rfl rfl rfl (kk := ?_)
    exact h
  · have h := hB c
    refine jr_bipush (-2 : Int32) dX9_save_9 (by decide) ?_
    exact js_iret hE rfl dX9_save_11 rfl h

set_option maxRecDepth 100000 in
set_option maxHeartbeats 4000000 in
theorem sX9_save_28 {g : jm_G} {ad : Nat → Nat} {κ : jm_K} {P : Option Value → (Nat → Nat → Int32) → Prop} (hE : jE g ad m_X9_save P κ) {μ : Nat → Nat → Int32}  (x1 : Int32)
    (h : vp_in x1 2 ∧
    (∀ μ2 : Nat → Nat → Int32, μ2 = jm_st μ 87 x1.toNatClampNeg (1 : Int32) →
    P (some (.int (μ2 83 3))) μ2)) :
    jS g ad m_X9_save κ 28 [some (.ref 82), some (.int x1)] [] μ := by
  refine jr_aload_n dX9_save_28 rfl ?_
  refine jr_get 9 5 jf_RX9_22 dX9_save_29 ga_82 rfl (.ref 87) rfl ?_
  refine jr_iload_n dX9_save_32 rfl ?_
  refine jr_iconst (1 : Int32) dX9_save_33 (by decide) ?_
  obtain ⟨o1, h⟩ := h
  refine jr_iastn _ dX9_save_34 ga_87 o1 rfl ?_
  obtain ⟨μ2, e2⟩ : ∃ x : Nat → Nat → Int32, x = jm_st μ 87 x1.toNatClampNeg (1 : Int32) := ⟨_, rfl⟩
  have h := h μ2 e2
  refine js_mem e2 ?_
  refine jr_aload_n dX9_save_35 rfl ?_
  refine jr_get 9 0 jf_RX9_7 dX9_save_36 ga_82 rfl (.ref 83) rfl ?_
  refine jr_iconst (3 : Int32) dX9_save_39 (by decide) ?_
  refine jr_ialdn 3 dX9_save_40 ga_83 (jm_inD (by decide)) rfl ?_
  exact js_iret hE rfl dX9_save_41 rfl h

set_option maxRecDepth 100000 in
set_option maxHeartbeats 4000000 in
theorem sX9_restore_0 {g : jm_G} {ad : Nat → Nat} {κ : jm_K} {P : Option Value → (Nat → Nat → Int32) → Prop} (hE : jE g ad m_X9_restore P κ) {μ : Nat → Nat → Int32}  (p1 : Int32)
    (h : jD g ad m_X9_within [.int p1, .int (0 : Int32), .int (1 : Int32)] μ (fun v μ' => jS g ad m_X9_restore κ 6 [some (.ref 82), some (.int p1)] (jm_ps v []) μ')) :
    jS g ad m_X9_restore κ 0 [some (.ref 82), some (.int p1)] [] μ := by
  refine jr_iload_n dX9_restore_0 rfl ?_
  refine jr_iconst (0 : Int32) dX9_restore_1 (by decide) ?_
  refine jr_iconst (1 : Int32) dX9_restore_2 (by decide) ?_
  refine js_callS (st := []) [.int p1, .int (0 : Int32), .int (1 : Int32)] jc_RX9_70 rfl dX9_restore_3 rfl rfl rfl (kk := ?_)
  exact h

set_option maxRecDepth 100000 in
set_option maxHeartbeats 4000000 in
theorem sX9_restore_6 {g : jm_G} {ad : Nat → Nat} {κ : jm_K} {P : Option Value → (Nat → Nat → Int32) → Prop} (hE : jE g ad m_X9_restore P κ) {μ : Nat → Nat → Int32}  (x1 : Int32) (r : Int32)
    (h : ((¬ r = 0 →
    vp_in x1 2 ∧
    ((¬ (μ 87 x1.toNatClampNeg) = 0 →
    jD g ad m_X9_record [.ref 82] μ (fun v μ' => jS g ad m_X9_restore κ 28 [some (.ref 82), some (.int x1)] (jm_ps v []) μ')) ∧
    ((μ 87 x1.toNatClampNeg) = 0 →
    P (some (.int (-5 : Int32))) μ))) ∧
    (r = 0 →
    P (some (.int (-2 : Int32))) μ))) :
    jS g ad m_X9_restore κ 6 [some (.ref 82), some (.int x1)] [.int r] μ := by
  obtain ⟨hA, hB⟩ := h
  refine jr_if_ne 12 dX9_restore_6 rfl (fun c => ?_) (fun c => ?_)
  · have h := hA c
    refine jr_aload_n dX9_restore_12 rfl ?_
    refine jr_get 9 5 jf_RX9_22 dX9_restore_13 ga_82 rfl (.ref 87) rfl ?_
    refine jr_iload_n dX9_restore_16 rfl ?_
    obtain ⟨o1, h⟩ := h
    refine jr_ialdn _ dX9_restore_17 ga_87 o1 rfl ?_
    obtain ⟨hA, hB⟩ := h
    refine jr_if_ne 24 dX9_restore_18 rfl (fun c => ?_) (fun c => ?_)
    · have h := hA c
      refine jr_aload_n dX9_restore_24 rfl ?_
      refine js_callV (st := []) [] jc_RX9_153 rfl dX9_restore_25 ga_82 rfl rfl rfl rfl (kk := ?_)
      exact h
    · have h := hB c
      refine jr_bipush (-5 : Int32) dX9_restore_21 (by decide) ?_
      exact js_iret hE rfl dX9_restore_23 rfl h
  · have h := hB c
    refine jr_bipush (-2 : Int32) dX9_restore_9 (by decide) ?_
    exact js_iret hE rfl dX9_restore_11 rfl h

set_option maxRecDepth 100000 in
set_option maxHeartbeats 4000000 in
theorem sX9_restore_28 {g : jm_G} {ad : Nat → Nat} {κ : jm_K} {P : Option Value → (Nat → Nat → Int32) → Prop} (hE : jE g ad m_X9_restore P κ) {μ : Nat → Nat → Int32}  (x1 : Int32)
    (h : jD g ad m_X9_moves [.ref 86, .int ((68 : Int32) * x1), .ref 83, .int (0 : Int32)] μ (fun v μ' => jS g ad m_X9_restore κ 44 [some (.ref 82), none] (jm_ps v []) μ')) :
    jS g ad m_X9_restore κ 28 [some (.ref 82), some (.int x1)] [] μ := by
  refine jr_aload_n dX9_restore_28 rfl ?_
  refine jr_get 9 4 jf_RX9_19 dX9_restore_29 ga_82 rfl (.ref 86) rfl ?_
  refine jr_bipush (68 : Int32) dX9_restore_32 (by decide) ?_
  refine jr_iload_n dX9_restore_34 rfl ?_
  refine jr_imul dX9_restore_35 ?_
  refine jr_aload_n dX9_restore_36 rfl ?_
  refine jr_get 9 0 jf_RX9_7 dX9_restore_37 ga_82 rfl (.ref 83) rfl ?_
  refine jr_iconst (0 : Int32) dX9_restore_40 (by decide) ?_
  refine js_drop 1 [some (.ref 82), none] rfl ?_
  refine js_callS (st := []) [.ref 86, .int ((68 : Int32) * x1), .ref 83, .int (0 : Int32)] jc_RX9_66 rfl dX9_restore_41 rfl rfl rfl (kk := ?_)
  exact h

set_option maxRecDepth 100000 in
set_option maxHeartbeats 4000000 in
theorem sX9_restore_44 {g : jm_G} {ad : Nat → Nat} {κ : jm_K} {P : Option Value → (Nat → Nat → Int32) → Prop} (hE : jE g ad m_X9_restore P κ) {μ : Nat → Nat → Int32}  
    (h : P (some (.int (μ 83 3))) μ) :
    jS g ad m_X9_restore κ 44 [some (.ref 82), none] [] μ := by
  refine jr_aload_n dX9_restore_44 rfl ?_
  refine jr_get 9 0 jf_RX9_7 dX9_restore_45 ga_82 rfl (.ref 83) rfl ?_
  refine jr_iconst (3 : Int32) dX9_restore_48 (by decide) ?_
  refine jr_ialdn 3 dX9_restore_49 ga_83 (jm_inD (by decide)) rfl ?_
  exact js_iret hE rfl dX9_restore_50 rfl h

end
