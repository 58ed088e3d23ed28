section
set_option maxRecDepth 100000 in
set_option maxHeartbeats 4000000 in
theorem sX9_moves_0 {g : jm_G} {ad : Nat → Nat} {κ : jm_K} {P : Option Value → (Nat → Nat → Int32) → Prop} (hE : jE g ad m_X9_moves P κ) {μ : Nat → Nat → Int32} (p1 np1 : Nat) (hp1 : jm_GAM[p1]? = some (.inr (0, np1, none))) (p3 np3 : Nat) (hp3 : jm_GAM[p3]? = some (.inr (0, np3, none))) (p2 : Int32) (p4 : Int32)
    (h : jS g ad m_X9_moves κ 3 [some (.ref p1), some (.int p2), some (.ref p3), some (.int p4), some (.int (0 : Int32))] [] μ) :
    jS g ad m_X9_moves κ 0 [some (.ref p1), some (.int p2), some (.ref p3), some (.int p4), none] [] μ := by
  refine jr_iconst (0 : Int32) dX9_moves_0 (by decide) ?_
  refine jr_istore [some (.ref p1), some (.int p2), some (.ref p3), some (.int p4), some (.int (0 : Int32))] dX9_moves_1 rfl rfl rfl ?_
  exact h

set_option maxRecDepth 100000 in
set_option maxHeartbeats 4000000 in
theorem sX9_moves_3 {g : jm_G} {ad : Nat → Nat} {κ : jm_K} {P : Option Value → (Nat → Nat → Int32) → Prop} (hE : jE g ad m_X9_moves P κ) {μ : Nat → Nat → Int32} (p1 np1 : Nat) (hp1 : jm_GAM[p1]? = some (.inr (0, np1, none))) (p3 np3 : Nat) (hp3 : jm_GAM[p3]? = some (.inr (0, np3, none))) (x1 : Int32) (x3 : Int32) (x4 : Int32)
    (h : (((68 : Int32) ≤ x4 →
    P none μ) ∧
    (¬ (68 : Int32) ≤ x4 →
    vp_in (x1 + x4) np1 ∧
    vp_in (x3 + x4) np3 ∧
    (∀ μ3 : Nat → Nat → Int32, μ3 = jm_st μ p3 (x3 + x4).toNatClampNeg (μ p1 (x1 + x4).toNatClampNeg) →
    jS g ad m_X9_moves κ 3 [some (.ref p1), some (.int x1), some (.ref p3), some (.int x3), some (.int (x4 + 1))] [] μ3)))) :
    jS g ad m_X9_moves κ 3 [some (.ref p1), some (.int x1), some (.ref p3), some (.int x3), some (.int x4)] [] μ := by
  refine jr_iload dX9_moves_3 rfl ?_
  refine jr_bipush (68 : Int32) dX9_moves_5 (by decide) ?_
  obtain ⟨hA, hB⟩ := h
  refine jr_icmp_ge 28 dX9_moves_7 rfl (fun c => ?_) (fun c => ?_)
  · have h := hA c
    exact js_vret hE rfl dX9_moves_28 rfl h
  · have h := hB c
    refine jr_aload_n dX9_moves_10 rfl ?_
    refine jr_iload_n dX9_moves_11 rfl ?_
    refine jr_iload dX9_moves_12 rfl ?_
    refine jr_iadd dX9_moves_14 ?_
    refine jr_aload_n dX9_moves_15 rfl ?_
    refine jr_iload_n dX9_moves_16 rfl ?_
    refine jr_iload dX9_moves_17 rfl ?_
    refine jr_iadd dX9_moves_19 ?_
    obtain ⟨o1, h⟩ := h
    refine jr_ialdn _ dX9_moves_20 hp1 o1 rfl ?_
    obtain ⟨o2, h⟩ := h
    refine jr_iastn _ dX9_moves_21 hp3 o2 rfl ?_
    obtain ⟨μ3, e3⟩ : ∃ x : Nat → Nat → Int32, x = jm_st μ p3 (x3 + x4).toNatClampNeg (μ p1 (x1 + x4).toNatClampNeg) := ⟨_, rfl⟩
    have h := h μ3 e3
    refine js_mem e3 ?_
    refine jr_iinc [some (.ref p1), some (.int x1), some (.ref p3), some (.int x3), some (.int (x4 + 1))] dX9_moves_22 rfl rfl rfl rfl rfl ?_
    refine jr_goto 3 dX9_moves_25 rfl ?_
    exact h

set_option maxRecDepth 100000 in
set_option maxHeartbeats 4000000 in
theorem sX9_within_0 {g : jm_G} {ad : Nat → Nat} {κ : jm_K} {P : Option Value → (Nat → Nat → Int32) → Prop} (hE : jE g ad m_X9_within P κ) {μ : Nat → Nat → Int32}  (p1 : Int32) (p2 : Int32) (p3 : Int32)
    (h : ((p1 < p2 →
    P (some (.int (0 : Int32))) μ) ∧
    (¬ p1 < p2 →
    ((p3 < p1 →
    P (some (.int (0 : Int32))) μ) ∧
    (¬ p3 < p1 →
    P (some (.int (1 : Int32))) μ))))) :
    jS g ad m_X9_within κ 0 [some (.int p1), some (.int p2), some (.int p3)] [] μ := by
  refine jr_iload_n dX9_within_0 rfl ?_
  refine jr_iload_n dX9_within_1 rfl ?_
  obtain ⟨hA, hB⟩ := h
  refine jr_icmp_lt 14 dX9_within_2 rfl (fun c => ?_) (fun c => ?_)
  · have h := hA c
    refine jr_iconst (0 : Int32) dX9_within_14 (by decide) ?_
    exact js_zret hE rfl dX9_within_15 rfl (by decide) h
  · have h := hB c
    refine jr_iload_n dX9_within_5 rfl ?_
    refine jr_iload_n dX9_within_6 rfl ?_
    obtain ⟨hA, hB⟩ := h
    refine jr_icmp_gt 14 dX9_within_7 rfl (fun c => ?_) (fun c => ?_)
    · have h := hA c
      refine jr_iconst (0 : Int32) dX9_within_14 (by decide) ?_
      exact js_zret hE rfl dX9_within_15 rfl (by decide) h
    · have h := hB c
      refine jr_iconst (1 : Int32) dX9_within_10 (by decide) ?_
      refine jr_goto 15 dX9_within_11 rfl ?_
      exact js_zret hE rfl dX9_within_15 rfl (by decide) h

set_option maxRecDepth 100000 in
set_option maxHeartbeats 4000000 in
theorem sX9_size_0 {g : jm_G} {ad : Nat → Nat} {κ : jm_K} {P : Option Value → (Nat → Nat → Int32) → Prop} (hE : jE g ad m_X9_size P κ) {μ : Nat → Nat → Int32}  (p1 : Int32)
    (h : ((0 ≤ p1 →
    P (some (.int p1)) μ) ∧
    (¬ 0 ≤ p1 →
    P (some (.int (-p1))) μ))) :
    jS g ad m_X9_size κ 0 [some (.int p1)] [] μ := by
  refine jr_iload_n dX9_size_0 rfl ?_
  obtain ⟨hA, hB⟩ := h
  refine jr_if_ge 9 dX9_size_1 rfl (fun c => ?_) (fun c => ?_)
  · have h := hA c
    refine jr_iload_n dX9_size_9 rfl ?_
    exact js_iret hE rfl dX9_size_10 rfl h
  · have h := hB c
    refine jr_iload_n dX9_size_4 rfl ?_
    refine jr_ineg dX9_size_5 ?_
    refine jr_goto 10 dX9_size_6 rfl ?_
    exact js_iret hE rfl dX9_size_10 rfl h

set_option maxRecDepth 100000 in
set_option maxHeartbeats 4000000 in
theorem sX9_root_0 {g : jm_G} {ad : Nat → Nat} {κ : jm_K} {P : Option Value → (Nat → Nat → Int32) → Prop} (hE : jE g ad m_X9_root P κ) {μ : Nat → Nat → Int32}  (p1 : Int32)
    (h : jS g ad m_X9_root κ 6 [some (.int p1), some (.int (0 : Int32)), some (.int (4096 : Int32))] [] μ) :
    jS g ad m_X9_root κ 0 [some (.int p1), none, none] [] μ := by
  refine jr_iconst (0 : Int32) dX9_root_0 (by decide) ?_
  refine jr_istore_n [some (.int p1), some (.int (0 : Int32)), none] dX9_root_1 rfl rfl rfl ?_
  refine jr_sipush (4096 : Int32) dX9_root_2 (by decide) ?_
  refine jr_istore_n [some (.int p1), some (.int (0 : Int32)), some (.int (4096 : Int32))] dX9_root_5 rfl rfl rfl ?_
  exact h

set_option maxRecDepth 100000 in
set_option maxHeartbeats 4000000 in
theorem sX9_root_6 {g : jm_G} {ad : Nat → Nat} {κ : jm_K} {P : Option Value → (Nat → Nat → Int32) → Prop} (hE : jE g ad m_X9_root P κ) {μ : Nat → Nat → Int32}  (x0 : Int32) (x1 : Int32) (x2 : Int32)
    (h : ((x2 ≤ 0 →
    P (some (.int x1)) μ) ∧
    (¬ x2 ≤ 0 →
    ((x0 < ((x1 + x2) * (x1 + x2)) →
    jS g ad m_X9_root κ 6 [some (.int x0), some (.int (x1 + (0 : Int32))), some (.int (x2 / (2 : Int32)))] [] μ) ∧
    (¬ x0 < ((x1 + x2) * (x1 + x2)) →
    jS g ad m_X9_root κ 6 [some (.int x0), some (.int (x1 + x2)), some (.int (x2 / (2 : Int32)))] [] μ))))) :
    jS g ad m_X9_root κ 6 [some (.int x0), some (.int x1), some (.int x2)] [] μ := by
  refine jr_iload_n dX9_root_6 rfl ?_
  obtain ⟨hA, hB⟩ := h
  refine jr_if_le 36 dX9_root_7 rfl (fun c => ?_) (fun c => ?_)
  · have h := hA c
    refine jr_iload_n dX9_root_36 rfl ?_
    exact js_iret hE rfl dX9_root_37 rfl h
  · have h := hB c
    refine jr_iload_n dX9_root_10 rfl ?_
    refine jr_iload_n dX9_root_11 rfl ?_
    refine jr_iload_n dX9_root_12 rfl ?_
    refine jr_iadd dX9_root_13 ?_
    refine jr_iload_n dX9_root_14 rfl ?_
    refine jr_iload_n dX9_root_15 rfl ?_
    refine jr_iadd dX9_root_16 ?_
    refine jr_imul dX9_root_17 ?_
    refine jr_iload_n dX9_root_18 rfl ?_
    obtain ⟨hA, hB⟩ := h
    refine jr_icmp_gt 26 dX9_root_19 rfl (fun c => ?_) (fun c => ?_)
    · have h := hA c
      refine jr_iconst (0 : Int32) dX9_root_26 (by decide) ?_
      refine jr_iadd dX9_root_27 ?_
      refine jr_istore_n [some (.int x0), some (.int (x1 + (0 : Int32))), some (.int x2)] dX9_root_28 rfl rfl rfl ?_
      refine jr_iload_n dX9_root_29 rfl ?_
      refine jr_iconst (2 : Int32) dX9_root_30 (by decide) ?_
      refine jr_idiv dX9_root_31 (by decide) ?_
      refine jr_istore_n [some (.int x0), some (.int (x1 + (0 : Int32))), some (.int (x2 / (2 : Int32)))] dX9_root_32 rfl rfl rfl ?_
      refine jr_goto 6 dX9_root_33 rfl ?_
      exact h
    · have h := hB c
      refine jr_iload_n dX9_root_22 rfl ?_
      refine jr_goto 27 dX9_root_23 rfl ?_
      refine jr_iadd dX9_root_27 ?_
      refine jr_istore_n [some (.int x0), some (.int (x1 + x2)), some (.int x2)] dX9_root_28 rfl rfl rfl ?_
      refine jr_iload_n dX9_root_29 rfl ?_
      refine jr_iconst (2 : Int32) dX9_root_30 (by decide) ?_
      refine jr_idiv dX9_root_31 (by decide) ?_
      refine jr_istore_n [some (.int x0), some (.int (x1 + x2)), some (.int (x2 / (2 : Int32)))] dX9_root_32 rfl rfl rfl ?_
      refine jr_goto 6 dX9_root_33 rfl ?_
      exact h

set_option maxRecDepth 100000 in
set_option maxHeartbeats 4000000 in
theorem sX9_record_0 {g : jm_G} {ad : Nat → Nat} {κ : jm_K} {P : Option Value → (Nat → Nat → Int32) → Prop} (hE : jE g ad m_X9_record P κ) {μ : Nat → Nat → Int32}  
    (h : ((¬ (μ 82 3) = (6 : Int32) →
    jD g ad m_X9_moves [.ref 83, .int (0 : Int32), .ref 85, .int ((μ 82 3) * (68 : Int32))] μ (fun v μ' => jS g ad m_X9_record κ 68 [some (.ref 82), none] (jm_ps v []) μ')) ∧
    ((μ 82 3) = (6 : Int32) →
    jS g ad m_X9_record κ 11 [some (.ref 82), some (.int (0 : Int32))] [] μ))) :
    jS g ad m_X9_record κ 0 [some (.ref 82), none] [] μ := by
  refine jr_aload_n dX9_record_0 rfl ?_
  refine jr_get 9 3 jf_RX9_62 dX9_record_1 ga_82 rfl (.int (μ 82 3)) rfl ?_
  refine jr_bipush (6 : Int32) dX9_record_4 (by decide) ?_
  obtain ⟨hA, hB⟩ := h
  refine jr_icmp_ne 49 dX9_record_6 rfl (fun c => ?_) (fun c => ?_)
  · have h := hA c
    refine jr_aload_n dX9_record_49 rfl ?_
    refine jr_get 9 0 jf_RX9_7 dX9_record_50 ga_82 rfl (.ref 83) rfl ?_
    refine jr_iconst (0 : Int32) dX9_record_53 (by decide) ?_
    refine jr_aload_n dX9_record_54 rfl ?_
    refine jr_get 9 2 jf_RX9_16 dX9_record_55 ga_82 rfl (.ref 85) rfl ?_
    refine jr_aload_n dX9_record_58 rfl ?_
    refine jr_get 9 3 jf_RX9_62 dX9_record_59 ga_82 rfl (.int (μ 82 3)) rfl ?_
    refine jr_bipush (68 : Int32) dX9_record_62 (by decide) ?_
    refine jr_imul dX9_record_64 ?_
    refine js_callS (st := []) [.ref 83, .int (0 : Int32), .ref 85, .int ((μ 82 3) * (68 : Int32))] jc_RX9_66 rfl dX9_record_65 rfl rfl rfl (kk := ?_)
    exact h
  · have h := hB c
    refine jr_iconst (0 : Int32) dX9_record_9 (by decide) ?_
    refine jr_istore_n [some (.ref 82), some (.int (0 : Int32))] dX9_record_10 rfl rfl rfl ?_
    exact h

set_option maxRecDepth 100000 in
set_option maxHeartbeats 4000000 in
theorem sX9_record_68 {g : jm_G} {ad : Nat → Nat} {κ : jm_K} {P : Option Value → (Nat → Nat → Int32) → Prop} (hE : jE g ad m_X9_record P κ) {μ : Nat → Nat → Int32}  
    (h : (∀ μ1 : Nat → Nat → Int32, μ1 = jm_st μ 82 3 ((μ 82 3) + (1 : Int32)) →
    P none μ1)) :
    jS g ad m_X9_record κ 68 [some (.ref 82), none] [] μ := by
  refine jr_aload_n dX9_record_68 rfl ?_
  refine jr_dup dX9_record_69 rfl ?_
  refine jr_get 9 3 jf_RX9_62 dX9_record_70 ga_82 rfl (.int (μ 82 3)) rfl ?_
  refine jr_iconst (1 : Int32) dX9_record_73 (by decide) ?_
  refine jr_iadd dX9_record_74 ?_
  refine jr_putI 9 3 jf_RX9_62 dX9_record_75 ga_82 rfl ?_
  obtain ⟨μ1, e1⟩ : ∃ x : Nat → Nat → Int32, x = jm_st μ 82 3 ((μ 82 3) + (1 : Int32)) := ⟨_, rfl⟩
  have h := h μ1 e1
  refine js_mem e1 ?_
  exact js_vret hE rfl dX9_record_78 rfl h

set_option maxRecDepth 100000 in
set_option maxHeartbeats 4000000 in
theorem sX9_record_11 {g : jm_G} {ad : Nat → Nat} {κ : jm_K} {P : Option Value → (Nat → Nat → Int32) → Prop} (hE : jE g ad m_X9_record P κ) {μ : Nat → Nat → Int32}  (x1 : Int32)
    (h : (((340 : Int32) ≤ x1 →
    (∀ μ1 : Nat → Nat → Int32, μ1 = jm_st μ 82 3 ((μ 82 3) - (1 : Int32)) →
    jD g ad m_X9_moves [.ref 83, .int (0 : Int32), .ref 85, .int ((μ1 82 3) * (68 : Int32))] μ1 (fun v μ' => jS g ad m_X9_record κ 68 [some (.ref 82), none] (jm_ps v []) μ'))) ∧
    (¬ (340 : Int32) ≤ x1 →
    vp_in (x1 + (68 : Int32)) 408 ∧
    vp_in x1 408 ∧
    (∀ μ4 : Nat → Nat → Int32, μ4 = jm_st μ 85 x1.toNatClampNeg (μ 85 (x1 + (68 : Int32)).toNatClampNeg) →
    jS g ad m_X9_record κ 11 [some (.ref 82), some (.int (x1 + 1))] [] μ4)))) :
    jS g ad m_X9_record κ 11 [some (.ref 82), some (.int x1)] [] μ := by
  refine jr_iload_n dX9_record_11 rfl ?_
  refine jr_sipush (340 : Int32) dX9_record_12 (by decide) ?_
  obtain ⟨hA, hB⟩ := h
  refine jr_icmp_ge 39 dX9_record_15 rfl (fun c => ?_) (fun c => ?_)
  · have h := hA c
    refine jr_aload_n dX9_record_39 rfl ?_
    refine jr_dup dX9_record_40 rfl ?_
    refine jr_get 9 3 jf_RX9_62 dX9_record_41 ga_82 rfl (.int (μ 82 3)) rfl ?_
    refine jr_iconst (1 : Int32) dX9_record_44 (by decide) ?_
    refine jr_isub dX9_record_45 ?_
    refine jr_putI 9 3 jf_RX9_62 dX9_record_46 ga_82 rfl ?_
    obtain ⟨μ1, e1⟩ : ∃ x : Nat → Nat → Int32, x = jm_st μ 82 3 ((μ 82 3) - (1 : Int32)) := ⟨_, rfl⟩
    have h := h μ1 e1
    refine js_mem e1 ?_
    refine jr_aload_n dX9_record_49 rfl ?_
    refine jr_get 9 0 jf_RX9_7 dX9_record_50 ga_82 rfl (.ref 83) rfl ?_
    refine jr_iconst (0 : Int32) dX9_record_53 (by decide) ?_
    refine jr_aload_n dX9_record_54 rfl ?_
    refine jr_get 9 2 jf_RX9_16 dX9_record_55 ga_82 rfl (.ref 85) rfl ?_
    refine jr_aload_n dX9_record_58 rfl ?_
    refine jr_get 9 3 jf_RX9_62 dX9_record_59 ga_82 rfl (.int (μ1 82 3)) rfl ?_
    refine jr_bipush (68 : Int32) dX9_record_62 (by decide) ?_
    refine jr_imul dX9_record_64 ?_
    refine js_drop 1 [some (.ref 82), none] rfl ?_
    refine js_callS (st := []) [.ref 83, .int (0 : Int32), .ref 85, .int ((μ1 82 3) * (68 : Int32))] jc_RX9_66 rfl dX9_record_65 rfl rfl rfl (kk := ?_)
    exact h
  · have h := hB c
    refine jr_aload_n dX9_record_18 rfl ?_
    refine jr_get 9 2 jf_RX9_16 dX9_record_19 ga_82 rfl (.ref 85) rfl ?_
    refine jr_iload_n dX9_record_22 rfl ?_
    refine jr_aload_n dX9_record_23 rfl ?_
    refine jr_get 9 2 jf_RX9_16 dX9_record_24 ga_82 rfl (.ref 85) rfl ?_
    refine jr_iload_n dX9_record_27 rfl ?_
    refine jr_bipush (68 : Int32) dX9_record_28 (by decide) ?_
    refine jr_iadd dX9_record_30 ?_
    obtain ⟨o2, h⟩ := h
    refine jr_ialdn _ dX9_record_31 ga_85 o2 rfl ?_
    obtain ⟨o3, h⟩ := h
    refine jr_iastn _ dX9_record_32 ga_85 o3 rfl ?_
    obtain ⟨μ4, e4⟩ : ∃ x : Nat → Nat → Int32, x = jm_st μ 85 x1.toNatClampNeg (μ 85 (x1 + (68 : Int32)).toNatClampNeg) := ⟨_, rfl⟩
    have h := h μ4 e4
    refine js_mem e4 ?_
    refine jr_iinc [some (.ref 82), some (.int (x1 + 1))] dX9_record_33 rfl rfl rfl rfl rfl ?_
    refine jr_goto 11 dX9_record_36 rfl ?_
    exact h

set_option maxRecDepth 100000 in
set_option maxHeartbeats 4000000 in
theorem sX9_isPoint_0 {g : jm_G} {ad : Nat → Nat} {κ : jm_K} {P : Option Value → (Nat → Nat → Int32) → Prop} (hE : jE g ad m_X9_isPoint P κ) {μ : Nat → Nat → Int32}  (p1 : Int32) (p2 : Int32)
    (h : jD g ad m_X9_within [.int p1, .int (0 : Int32), .int (40 : Int32)] μ (fun v μ' => jS g ad m_X9_isPoint κ 7 [none, some (.int p2)] (jm_ps v []) μ')) :
    jS g ad m_X9_isPoint κ 0 [some (.int p1), some (.int p2)] [] μ := by
  refine jr_iload_n dX9_isPoint_0 rfl ?_
  refine jr_iconst (0 : Int32) dX9_isPoint_1 (by decide) ?_
  refine jr_bipush (40 : Int32) dX9_isPoint_2 (by decide) ?_
  refine js_drop 0 [none, some (.int p2)] rfl ?_
  refine js_callS (st := []) [.int p1, .int (0 : Int32), .int (40 : Int32)] jc_RX9_70 rfl dX9_isPoint_4 rfl rfl rfl (kk := ?_)
  exact h

set_option maxRecDepth 100000 in
set_option maxHeartbeats 4000000 in
theorem sX9_isPoint_7 {g : jm_G} {ad : Nat → Nat} {κ : jm_K} {P : Option Value → (Nat → Nat → Int32) → Prop} (hE : jE g ad m_X9_isPoint P κ) {μ : Nat → Nat → Int32}  (x1 : Int32) (r : Int32)
    (h : ((r = 0 →
    P (some (.int (0 : Int32))) μ) ∧
    (¬ r = 0 →
    jD g ad m_X9_within [.int x1, .int (0 : Int32), .int (40 : Int32)] μ (fun v μ' => jS g ad m_X9_isPoint κ 17 [none, none] (jm_ps v []) μ')))) :
    jS g ad m_X9_isPoint κ 7 [none, some (.int x1)] [.int r] μ := by
  obtain ⟨hA, hB⟩ := h
  refine jr_if_eq 24 dX9_isPoint_7 rfl (fun c => ?_) (fun c => ?_)
  · have h := hA c
    refine jr_iconst (0 : Int32) dX9_isPoint_24 (by decide) ?_
    exact js_zret hE rfl dX9_isPoint_25 rfl (by decide) h
  · have h := hB c
    refine jr_iload_n dX9_isPoint_10 rfl ?_
    refine jr_iconst (0 : Int32) dX9_isPoint_11 (by decide) ?_
    refine jr_bipush (40 : Int32) dX9_isPoint_12 (by decide) ?_
    refine js_drop 1 [none, none] rfl ?_
    refine js_callS (st := []) [.int x1, .int (0 : Int32), .int (40 : Int32)] jc_RX9_70 rfl dX9_isPoint_14 rfl rfl rfl (kk := ?_)
    exact h

set_option maxRecDepth 100000 in
set_option maxHeartbeats 4000000 in
theorem sX9_isPoint_17 {g : jm_G} {ad : Nat → Nat} {κ : jm_K} {P : Option Value → (Nat → Nat → Int32) → Prop} (hE : jE g ad m_X9_isPoint P κ) {μ : Nat → Nat → Int32}  (r : Int32)
    (h : ((r = 0 →
    P (some (.int (0 : Int32))) μ) ∧
    (¬ r = 0 →
    P (some (.int (1 : Int32))) μ))) :
    jS g ad m_X9_isPoint κ 17 [none, none] [.int r] μ := by
  obtain ⟨hA, hB⟩ := h
  refine jr_if_eq 24 dX9_isPoint_17 rfl (fun c => ?_) (fun c => ?_)
  · have h := hA c
    refine jr_iconst (0 : Int32) dX9_isPoint_24 (by decide) ?_
    exact js_zret hE rfl dX9_isPoint_25 rfl (by decide) h
  · have h := hB c
    refine jr_iconst (1 : Int32) dX9_isPoint_20 (by decide) ?_
    refine jr_goto 25 dX9_isPoint_21 rfl ?_
    exact js_zret hE rfl dX9_isPoint_25 rfl (by decide) h

set_option maxRecDepth 100000 in
set_option maxHeartbeats 4000000 in
theorem sX9_isEar_0 {g : jm_G} {ad : Nat → Nat} {κ : jm_K} {P : Option Value → (Nat → Nat → Int32) → Prop} (hE : jE g ad m_X9_isEar P κ) {μ : Nat → Nat → Int32}  (p1 : Int32)
    (h : jD g ad m_X9_within [.int p1, .int (0 : Int32), .int (3 : Int32)] μ (fun v μ' => jS g ad m_X9_isEar κ 6 [none] (jm_ps v []) μ')) :
    jS g ad m_X9_isEar κ 0 [some (.int p1)] [] μ := by
  refine jr_iload_n dX9_isEar_0 rfl ?_
  refine jr_iconst (0 : Int32) dX9_isEar_1 (by decide) ?_
  refine jr_iconst (3 : Int32) dX9_isEar_2 (by decide) ?_
  refine js_drop 0 [none] rfl ?_
  refine js_callS (st := []) [.int p1, .int (0 : Int32), .int (3 : Int32)] jc_RX9_70 rfl dX9_isEar_3 rfl rfl rfl (kk := ?_)
  exact h

set_option maxRecDepth 100000 in
set_option maxHeartbeats 4000000 in
theorem sX9_isEar_6 {g : jm_G} {ad : Nat → Nat} {κ : jm_K} {P : Option Value → (Nat → Nat → Int32) → Prop} (hE : jE g ad m_X9_isEar P κ) {μ : Nat → Nat → Int32}  (r : Int32)
    (h : ((r = 0 ∨ r = 1) ∧ P (some (.int r)) μ)) :
    jS g ad m_X9_isEar κ 6 [none] [.int r] μ := by
  exact js_zret hE rfl dX9_isEar_6 rfl h.1 h.2

set_option maxRecDepth 100000 in
set_option maxHeartbeats 4000000 in
theorem sX9_distance_0 {g : jm_G} {ad : Nat → Nat} {κ : jm_K} {P : Option Value → (Nat → Nat → Int32) → Prop} (hE : jE g ad m_X9_distance P κ) {μ : Nat → Nat → Int32}  (p1 : Int32) (p2 : Int32) (p3 : Int32) (p4 : Int32)
    (h : jD g ad m_X9_size [.int (p1 - p3)] μ (fun v μ' => jS g ad m_X9_distance κ 12 [none, none, some (.int p2), none, some (.int p4)] (jm_ps v [.int (41 : Int32), .ref 89]) μ')) :
    jS g ad m_X9_distance κ 0 [some (.ref 82), some (.int p1), some (.int p2), some (.int p3), some (.int p4)] [] μ := by
  refine jr_aload_n dX9_distance_0 rfl ?_
  refine jr_get 9 8 jf_RX9_28 dX9_distance_1 ga_82 rfl (.ref 89) rfl ?_
  refine jr_bipush (41 : Int32) dX9_distance_4 (by decide) ?_
  refine jr_iload_n dX9_distance_6 rfl ?_
  refine jr_iload_n dX9_distance_7 rfl ?_
  refine jr_isub dX9_distance_8 ?_
  refine js_drop 0 [none, some (.int p1), some (.int p2), some (.int p3), some (.int p4)] rfl ?_
  refine js_drop 1 [none, none, some (.int p2), some (.int p3), some (.int p4)] rfl ?_
  refine js_drop 3 [none, none, some (.int p2), none, some (.int p4)] rfl ?_
  refine js_callS (st := [.int (41 : Int32), .ref 89]) [.int (p1 - p3)] jc_RX9_74 rfl dX9_distance_9 rfl rfl rfl (kk := ?_)
  exact h

set_option maxRecDepth 100000 in
set_option maxHeartbeats 4000000 in
theorem sX9_distance_12 {g : jm_G} {ad : Nat → Nat} {κ : jm_K} {P : Option Value → (Nat → Nat → Int32) → Prop} (hE : jE g ad m_X9_distance P κ) {μ : Nat → Nat → Int32}  (x2 : Int32) (x4 : Int32) (r : Int32) (y1 : Int32)
    (h : jD g ad m_X9_size [.int (x2 - x4)] μ (fun v μ' => jS g ad m_X9_distance κ 20 [none, none, none, none, none] (jm_ps v [.int (y1 * r), .ref 89]) μ')) :
    jS g ad m_X9_distance κ 12 [none, none, some (.int x2), none, some (.int x4)] [.int r, .int y1, .ref 89] μ := by
  refine jr_imul dX9_distance_12 ?_
  refine jr_iload_n dX9_distance_13 rfl ?_
  refine jr_iload dX9_distance_14 rfl ?_
  refine jr_isub dX9_distance_16 ?_
  refine js_drop 2 [none, none, none, none, some (.int x4)] rfl ?_
  refine js_drop 4 [none, none, none, none, none] rfl ?_
  refine js_callS (st := [.int (y1 * r), .ref 89]) [.int (x2 - x4)] jc_RX9_74 rfl dX9_distance_17 rfl rfl rfl (kk := ?_)
  exact h

set_option maxRecDepth 100000 in
set_option maxHeartbeats 4000000 in
theorem sX9_distance_20 {g : jm_G} {ad : Nat → Nat} {κ : jm_K} {P : Option Value → (Nat → Nat → Int32) → Prop} (hE : jE g ad m_X9_distance P κ) {μ : Nat → Nat → Int32}  (r : Int32) (y1 : Int32)
    (h : vp_in (y1 + r) 1681 ∧
    P (some (.int (μ 89 (y1 + r).toNatClampNeg))) μ) :
    jS g ad m_X9_distance κ 20 [none, none, none, none, none] [.int r, .int y1, .ref 89] μ := by
  refine jr_iadd dX9_distance_20 ?_
  obtain ⟨o1, h⟩ := h
  refine jr_ialdn _ dX9_distance_21 ga_89 o1 rfl ?_
  exact js_iret hE rfl dX9_distance_22 rfl h

set_option maxRecDepth 100000 in
set_option maxHeartbeats 4000000 in
theorem sX9_speedBy_0 {g : jm_G} {ad : Nat → Nat} {κ : jm_K} {P : Option Value → (Nat → Nat → Int32) → Prop} (hE : jE g ad m_X9_speedBy P κ) {μ : Nat → Nat → Int32}  (p1 : Int32)
    (h : P (some (.int ((313 : Int32) + ((((3 : Int32) * p1) + (90 : Int32)) / (5 : Int32))))) μ) :
    jS g ad m_X9_speedBy κ 0 [some (.int p1)] [] μ := by
  refine jr_sipush (313 : Int32) dX9_speedBy_0 (by decide) ?_
  refine jr_iconst (3 : Int32) dX9_speedBy_3 (by decide) ?_
  refine jr_iload_n dX9_speedBy_4 rfl ?_
  refine jr_imul dX9_speedBy_5 ?_
  refine jr_bipush (90 : Int32) dX9_speedBy_6 (by decide) ?_
  refine jr_iadd dX9_speedBy_8 ?_
  refine jr_iconst (5 : Int32) dX9_speedBy_9 (by decide) ?_
  refine jr_idiv dX9_speedBy_10 (by decide) ?_
  refine jr_iadd dX9_speedBy_11 ?_
  exact js_iret hE rfl dX9_speedBy_12 rfl h

set_option maxRecDepth 100000 in
set_option maxHeartbeats 4000000 in
theorem sX9_takesBy_0 {g : jm_G} {ad : Nat → Nat} {κ : jm_K} {P : Option Value → (Nat → Nat → Int32) → Prop} (hE : jE g ad m_X9_takesBy P κ) {μ : Nat → Nat → Int32}  (p1 : Int32) (p2 : Int32) (p3 : Int32) (p4 : Int32)
    (h : ((p4 = (1 : Int32) →
    ((p4 ≤ (1 : Int32) →
    jD g ad m_X9_distance [.ref 82, .int p2, .int p3, .int (40 : Int32), .int (0 : Int32)] μ (fun v μ' => jS g ad m_X9_takesBy κ 38 [none, some (.int p1), none, none, none] (jm_ps v [.int (100 : Int32)]) μ')) ∧
    (¬ p4 ≤ (1 : Int32) →
    jD g ad m_X9_distance [.ref 82, .int p2, .int p3, .int (40 : Int32), .int (40 : Int32)] μ (fun v μ' => jS g ad m_X9_takesBy κ 38 [none, some (.int p1), none, none, none] (jm_ps v [.int (100 : Int32)]) μ')))) ∧
    (¬ p4 = (1 : Int32) →
    ((¬ p4 = (2 : Int32) →
    ((p4 ≤ (1 : Int32) →
    jD g ad m_X9_distance [.ref 82, .int p2, .int p3, .int (0 : Int32), .int (0 : Int32)] μ (fun v μ' => jS g ad m_X9_takesBy κ 38 [none, some (.int p1), none, none, none] (jm_ps v [.int (100 : Int32)]) μ')) ∧
    (¬ p4 ≤ (1 : Int32) →
    jD g ad m_X9_distance [.ref 82, .int p2, .int p3, .int (0 : Int32), .int (40 : Int32)] μ (fun v μ' => jS g ad m_X9_takesBy κ 38 [none, some (.int p1), none, none, none] (jm_ps v [.int (100 : Int32)]) μ')))) ∧
    (p4 = (2 : Int32) →
    ((p4 ≤ (1 : Int32) →
    jD g ad m_X9_distance [.ref 82, .int p2, .int p3, .int (40 : Int32), .int (0 : Int32)] μ (fun v μ' => jS g ad m_X9_takesBy κ 38 [none, some (.int p1), none, none, none] (jm_ps v [.int (100 : Int32)]) μ')) ∧
    (¬ p4 ≤ (1 : Int32) →
    jD g ad m_X9_distance [.ref 82, .int p2, .int p3, .int (40 : Int32), .int (40 : Int32)] μ (fun v μ' => jS g ad m_X9_takesBy κ 38 [none, some (.int p1), none, none, none] (jm_ps v [.int (100 : Int32)]) μ')))))))) :
    jS g ad m_X9_takesBy κ 0 [some (.ref 82), some (.int p1), some (.int p2), some (.int p3), some (.int p4)] [] μ := by
  refine jr_bipush (100 : Int32) dX9_takesBy_0 (by decide) ?_
  refine jr_aload_n dX9_takesBy_2 rfl ?_
  refine jr_iload_n dX9_takesBy_3 rfl ?_
  refine jr_iload_n dX9_takesBy_4 rfl ?_
  refine jr_iload dX9_takesBy_5 rfl ?_
  refine jr_iconst (1 : Int32) dX9_takesBy_7 (by decide) ?_
  obtain ⟨hA, hB⟩ := h
  refine jr_icmp_eq 17 dX9_takesBy_8 rfl (fun c => ?_) (fun c => ?_)
  · have h := hA c
    refine jr_bipush (40 : Int32) dX9_takesBy_17 (by decide) ?_
    refine jr_goto 23 dX9_takesBy_19 rfl ?_
    refine jr_iload dX9_takesBy_23 rfl ?_
    refine jr_iconst (1 : Int32) dX9_takesBy_25 (by decide) ?_
    obtain ⟨hA, hB⟩ := h
    refine jr_icmp_le 34 dX9_takesBy_26 rfl (fun c => ?_) (fun c => ?_)
    · have h := hA c
      refine jr_iconst (0 : Int32) dX9_takesBy_34 (by decide) ?_
      refine js_drop 0 [none, some (.int p1), some (.int p2), some (.int p3), some (.int p4)] rfl ?_
      refine js_drop 2 [none, some (.int p1), none, some (.int p3), some (.int p4)] rfl ?_
      refine js_drop 3 [none, some (.int p1), none, none, some (.int p4)] rfl ?_
      refine js_drop 4 [none, some (.int p1), none, none, none] rfl ?_
      refine js_callV (st := [.int (100 : Int32)]) [.int p2, .int p3, .int (40 : Int32), .int (0 : Int32)] jc_RX9_77 rfl dX9_takesBy_35 ga_82 rfl rfl rfl rfl (kk := ?_)
      exact h
    · have h := hB c
      refine jr_bipush (40 : Int32) dX9_takesBy_29 (by decide) ?_
      refine jr_goto 35 dX9_takesBy_31 rfl ?_
      refine js_drop 0 [none, some (.int p1), some (.int p2), some (.int p3), some (.int p4)] rfl ?_
      refine js_drop 2 [none, some (.int p1), none, some (.int p3), some (.int p4)] rfl ?_
      refine js_drop 3 [none, some (.int p1), none, none, some (.int p4)] rfl ?_
      refine js_drop 4 [none, some (.int p1), none, none, none] rfl ?_
      refine js_callV (st := [.int (100 : Int32)]) [.int p2, .int p3, .int (40 : Int32), .int (40 : Int32)] jc_RX9_77 rfl dX9_takesBy_35 ga_82 rfl rfl rfl rfl (kk := ?_)
      exact h
  · have h := hB c
    refine jr_iload dX9_takesBy_11 rfl ?_
    refine jr_iconst (2 : Int32) dX9_takesBy_13 (by decide) ?_
    obtain ⟨hA, hB⟩ := h
    refine jr_icmp_ne 22 dX9_takesBy_14 rfl (fun c => ?_) (fun c => ?_)
    · have h := hA c
      refine jr_iconst (0 : Int32) dX9_takesBy_22 (by decide) ?_
      refine jr_iload dX9_takesBy_23 rfl ?_
      refine jr_iconst (1 : Int32) dX9_takesBy_25 (by decide) ?_
      obtain ⟨hA, hB⟩ := h
      refine jr_icmp_le 34 dX9_takesBy_26 rfl (fun c => ?_) (fun c => ?_)
      · have h := hA c
        refine jr_iconst (0 : Int32) dX9_takesBy_34 (by decide) ?_
        refine js_drop 0 [none, some (.int p1), some (.int p2), some (.int p3), some (.int p4)] rfl ?_
        refine js_drop 2 [none, some (.int p1), none, some (.int p3), some (.int p4)] rfl ?_
        refine js_drop 3 [none, some (.int p1), none, none, some (.int p4)] rfl ?_
        refine js_drop 4 [none, some (.int p1), none, none, none] rfl ?_
        refine js_callV (st := [.int (100 : Int32)]) [.int p2, .int p3, .int (0 : Int32), .int (0 : Int32)] jc_RX9_77 rfl dX9_takesBy_35 ga_82 rfl rfl rfl rfl (kk := ?_)
        exact h
      · have h := hB c
        refine jr_bipush (40 : Int32) dX9_takesBy_29 (by decide) ?_
        refine jr_goto 35 dX9_takesBy_31 rfl ?_
        refine js_drop 0 [none, some (.int p1), some (.int p2), some (.int p3), some (.int p4)] rfl ?_
        refine js_drop 2 [none, some (.int p1), none, some (.int p3), some (.int p4)] rfl ?_
        refine js_drop 3 [none, some (.int p1), none, none, some (.int p4)] rfl ?_
        refine js_drop 4 [none, some (.int p1), none, none, none] rfl ?_
        refine js_callV (st := [.int (100 : Int32)]) [.int p2, .int p3, .int (0 : Int32), .int (40 : Int32)] jc_RX9_77 rfl dX9_takesBy_35 ga_82 rfl rfl rfl rfl (kk := ?_)
        exact h
    · have h := hB c
      refine jr_bipush (40 : Int32) dX9_takesBy_17 (by decide) ?_
      refine jr_goto 23 dX9_takesBy_19 rfl ?_
      refine jr_iload dX9_takesBy_23 rfl ?_
      refine jr_iconst (1 : Int32) dX9_takesBy_25 (by decide) ?_
      obtain ⟨hA, hB⟩ := h
      refine jr_icmp_le 34 dX9_takesBy_26 rfl (fun c => ?_) (fun c => ?_)
      · have h := hA c
        refine jr_iconst (0 : Int32) dX9_takesBy_34 (by decide) ?_
        refine js_drop 0 [none, some (.int p1), some (.int p2), some (.int p3), some (.int p4)] rfl ?_
        refine js_drop 2 [none, some (.int p1), none, some (.int p3), some (.int p4)] rfl ?_
        refine js_drop 3 [none, some (.int p1), none, none, some (.int p4)] rfl ?_
        refine js_drop 4 [none, some (.int p1), none, none, none] rfl ?_
        refine js_callV (st := [.int (100 : Int32)]) [.int p2, .int p3, .int (40 : Int32), .int (0 : Int32)] jc_RX9_77 rfl dX9_takesBy_35 ga_82 rfl rfl rfl rfl (kk := ?_)
        exact h
      · have h := hB c
        refine jr_bipush (40 : Int32) dX9_takesBy_29 (by decide) ?_
        refine jr_goto 35 dX9_takesBy_31 rfl ?_
        refine js_drop 0 [none, some (.int p1), some (.int p2), some (.int p3), some (.int p4)] rfl ?_
        refine js_drop 2 [none, some (.int p1), none, some (.int p3), some (.int p4)] rfl ?_
        refine js_drop 3 [none, some (.int p1), none, none, some (.int p4)] rfl ?_
        refine js_drop 4 [none, some (.int p1), none, none, none] rfl ?_
        refine js_callV (st := [.int (100 : Int32)]) [.int p2, .int p3, .int (40 : Int32), .int (40 : Int32)] jc_RX9_77 rfl dX9_takesBy_35 ga_82 rfl rfl rfl rfl (kk := ?_)
        exact h

set_option maxRecDepth 100000 in
set_option maxHeartbeats 4000000 in
theorem sX9_takesBy_38 {g : jm_G} {ad : Nat → Nat} {κ : jm_K} {P : Option Value → (Nat → Nat → Int32) → Prop} (hE : jE g ad m_X9_takesBy P κ) {μ : Nat → Nat → Int32}  (x1 : Int32) (r : Int32) (y1 : Int32)
    (h : x1 ≠ 0 ∧
    P (some (.int ((y1 * r) / x1))) μ) :
    jS g ad m_X9_takesBy κ 38 [none, some (.int x1), none, none, none] [.int r, .int y1] μ := by
  refine jr_imul dX9_takesBy_38 ?_
  refine jr_iload_n dX9_takesBy_39 rfl ?_
  obtain ⟨o1, h⟩ := h
  refine jr_idiv dX9_takesBy_40 o1 ?_
  exact js_iret hE rfl dX9_takesBy_41 rfl h

set_option maxRecDepth 100000 in
set_option maxHeartbeats 4000000 in
theorem sX9_reckon_0 {g : jm_G} {ad : Nat → Nat} {κ : jm_K} {P : Option Value → (Nat → Nat → Int32) → Prop} (hE : jE g ad m_X9_reckon P κ) {μ : Nat → Nat → Int32}  (p1 : Int32)
    (h : ((¬ p1 = (μ 82 10) →
    jS g ad m_X9_reckon κ 11 [some (.ref 82), some (.int p1), some (.int (0 : Int32)), none] [] μ) ∧
    (p1 = (μ 82 10) →
    P none μ))) :
    jS g ad m_X9_reckon κ 0 [some (.ref 82), some (.int p1), none, none] [] μ := by
  refine jr_iload_n dX9_reckon_0 rfl ?_
  refine jr_aload_n dX9_reckon_1 rfl ?_
  refine jr_get 9 10 jf_RX9_81 dX9_reckon_2 ga_82 rfl (.int (μ 82 10)) rfl ?_
  obtain ⟨hA, hB⟩ := h
  refine jr_icmp_ne 9 dX9_reckon_5 rfl (fun c => ?_) (fun c => ?_)
  · have h := hA c
    refine jr_iconst (0 : Int32) dX9_reckon_9 (by decide) ?_
    refine jr_istore_n [some (.ref 82), some (.int p1), some (.int (0 : Int32)), none] dX9_reckon_10 rfl rfl rfl ?_
    exact h
  · have h := hB c
    exact js_vret hE rfl dX9_reckon_8 rfl h

set_option maxRecDepth 100000 in
set_option maxHeartbeats 4000000 in
theorem sX9_reckon_11 {g : jm_G} {ad : Nat → Nat} {κ : jm_K} {P : Option Value → (Nat → Nat → Int32) → Prop} (hE : jE g ad m_X9_reckon P κ) {μ : Nat → Nat → Int32}  (x1 : Int32) (x2 : Int32)
    (h : (((1681 : Int32) ≤ x2 →
    (∀ μ1 : Nat → Nat → Int32, μ1 = jm_st μ 82 10 x1 →
    P none μ1)) ∧
    (¬ (1681 : Int32) ≤ x2 →
    jS g ad m_X9_reckon κ 20 [some (.ref 82), some (.int x1), some (.int x2), some (.int (0 : Int32))] [] μ))) :
    jS g ad m_X9_reckon κ 11 [some (.ref 82), some (.int x1), some (.int x2), none] [] μ := by
  refine jr_iload_n dX9_reckon_11 rfl ?_
  refine jr_sipush (1681 : Int32) dX9_reckon_12 (by decide) ?_
  obtain ⟨hA, hB⟩ := h
  refine jr_icmp_ge 61 dX9_reckon_15 rfl (fun c => ?_) (fun c => ?_)
  · have h := hA c
    refine jr_aload_n dX9_reckon_61 rfl ?_
    refine jr_iload_n dX9_reckon_62 rfl ?_
    refine jr_putI 9 10 jf_RX9_81 dX9_reckon_63 ga_82 rfl ?_
    obtain ⟨μ1, e1⟩ : ∃ x : Nat → Nat → Int32, x = jm_st μ 82 10 x1 := ⟨_, rfl⟩
    have h := h μ1 e1
    refine js_mem e1 ?_
    exact js_vret hE rfl dX9_reckon_66 rfl h
  · have h := hB c
    refine jr_iconst (0 : Int32) dX9_reckon_18 (by decide) ?_
    refine jr_istore_n [some (.ref 82), some (.int x1), some (.int x2), some (.int (0 : Int32))] dX9_reckon_19 rfl rfl rfl ?_
    exact h

set_option maxRecDepth 100000 in
set_option maxHeartbeats 4000000 in
theorem sX9_reckon_20 {g : jm_G} {ad : Nat → Nat} {κ : jm_K} {P : Option Value → (Nat → Nat → Int32) → Prop} (hE : jE g ad m_X9_reckon P κ) {μ : Nat → Nat → Int32}  (x1 : Int32) (x2 : Int32) (x3 : Int32)
    (h : (((4 : Int32) ≤ x3 →
    jS g ad m_X9_reckon κ 11 [some (.ref 82), some (.int x1), some (.int (x2 + 1)), none] [] μ) ∧
    (¬ (4 : Int32) ≤ x3 →
    jD g ad m_X9_takesBy [.ref 82, .int x1, .int (x2 - x2 / (41 : Int32) * (41 : Int32)), .int (x2 / (41 : Int32)), .int x3] μ (fun v μ' => jS g ad m_X9_reckon κ 48 [some (.ref 82), some (.int x1), some (.int x2), some (.int x3)] (jm_ps v [.int (((4 : Int32) * x2) + x3), .ref 90]) μ')))) :
    jS g ad m_X9_reckon κ 20 [some (.ref 82), some (.int x1), some (.int x2), some (.int x3)] [] μ := by
  refine jr_iload_n dX9_reckon_20 rfl ?_
  refine jr_iconst (4 : Int32) dX9_reckon_21 (by decide) ?_
  obtain ⟨hA, hB⟩ := h
  refine jr_icmp_ge 55 dX9_reckon_22 rfl (fun c => ?_) (fun c => ?_)
  · have h := hA c
    refine jr_iinc [some (.ref 82), some (.int x1), some (.int (x2 + 1)), some (.int x3)] dX9_reckon_55 rfl rfl rfl rfl rfl ?_
    refine jr_goto 11 dX9_reckon_58 rfl ?_
    refine js_drop 3 [some (.ref 82), some (.int x1), some (.int (x2 + 1)), none] rfl ?_
    exact h
  · have h := hB c
    refine jr_aload_n dX9_reckon_25 rfl ?_
    refine jr_get 9 9 jf_RX9_31 dX9_reckon_26 ga_82 rfl (.ref 90) rfl ?_
    refine jr_iconst (4 : Int32) dX9_reckon_29 (by decide) ?_
    refine jr_iload_n dX9_reckon_30 rfl ?_
    refine jr_imul dX9_reckon_31 ?_
    refine jr_iload_n dX9_reckon_32 rfl ?_
    refine jr_iadd dX9_reckon_33 ?_
    refine jr_aload_n dX9_reckon_34 rfl ?_
    refine jr_iload_n dX9_reckon_35 rfl ?_
    refine jr_iload_n dX9_reckon_36 rfl ?_
    refine jr_bipush (41 : Int32) dX9_reckon_37 (by decide) ?_
    refine jr_irem dX9_reckon_39 (by decide) ?_
    refine jr_iload_n dX9_reckon_40 rfl ?_
    refine jr_bipush (41 : Int32) dX9_reckon_41 (by decide) ?_
    refine jr_idiv dX9_reckon_43 (by decide) ?_
    refine jr_iload_n dX9_reckon_44 rfl ?_
    refine js_callV (st := [.int (((4 : Int32) * x2) + x3), .ref 90]) [.int x1, .int (x2 - x2 / (41 : Int32) * (41 : Int32)), .int (x2 / (41 : Int32)), .int x3] jc_RX9_84 rfl dX9_reckon_45 ga_82 rfl rfl rfl rfl (kk := ?_)
    exact h

set_option maxRecDepth 100000 in
set_option maxHeartbeats 4000000 in
theorem sX9_reckon_48 {g : jm_G} {ad : Nat → Nat} {κ : jm_K} {P : Option Value → (Nat → Nat → Int32) → Prop} (hE : jE g ad m_X9_reckon P κ) {μ : Nat → Nat → Int32}  (x1 : Int32) (x2 : Int32) (x3 : Int32) (r : Int32) (y1 : Int32)
    (h : vp_in y1 6724 ∧
    (∀ μ2 : Nat → Nat → Int32, μ2 = jm_st μ 90 y1.toNatClampNeg r →
    jS g ad m_X9_reckon κ 20 [some (.ref 82), some (.int x1), some (.int x2), some (.int (x3 + 1))] [] μ2)) :
    jS g ad m_X9_reckon κ 48 [some (.ref 82), some (.int x1), some (.int x2), some (.int x3)] [.int r, .int y1, .ref 90] μ := by
  obtain ⟨o1, h⟩ := h
  refine jr_iastn _ dX9_reckon_48 ga_90 o1 rfl ?_
  obtain ⟨μ2, e2⟩ : ∃ x : Nat → Nat → Int32, x = jm_st μ 90 y1.toNatClampNeg r := ⟨_, rfl⟩
  have h := h μ2 e2
  refine js_mem e2 ?_
  refine jr_iinc [some (.ref 82), some (.int x1), some (.int x2), some (.int (x3 + 1))] dX9_reckon_49 rfl rfl rfl rfl rfl ?_
  refine jr_goto 20 dX9_reckon_52 rfl ?_
  exact h

set_option maxRecDepth 100000 in
set_option maxHeartbeats 4000000 in
theorem sX9_isPulse_0 {g : jm_G} {ad : Nat → Nat} {κ : jm_K} {P : Option Value → (Nat → Nat → Int32) → Prop} (hE : jE g ad m_X9_isPulse P κ) {μ : Nat → Nat → Int32}  (p1 : Int32)
    (h : jD g ad m_X9_within [.int p1, .int (0 : Int32), .int ((μ 83 3) - (1 : Int32))] μ (fun v μ' => jS g ad m_X9_isPulse κ 13 [none, none] (jm_ps v []) μ')) :
    jS g ad m_X9_isPulse κ 0 [some (.ref 82), some (.int p1)] [] μ := by
  refine jr_iload_n dX9_isPulse_0 rfl ?_
  refine jr_iconst (0 : Int32) dX9_isPulse_1 (by decide) ?_
  refine jr_aload_n dX9_isPulse_2 rfl ?_
  refine jr_get 9 0 jf_RX9_7 dX9_isPulse_3 ga_82 rfl (.ref 83) rfl ?_
  refine jr_iconst (3 : Int32) dX9_isPulse_6 (by decide) ?_
  refine jr_ialdn 3 dX9_isPulse_7 ga_83 (jm_inD (by decide)) rfl ?_
  refine jr_iconst (1 : Int32) dX9_isPulse_8 (by decide) ?_
  refine jr_isub dX9_isPulse_9 ?_
  refine js_drop 0 [none, some (.int p1)] rfl ?_
  refine js_drop 1 [none, none] rfl ?_
  refine js_callS (st := []) [.int p1, .int (0 : Int32), .int ((μ 83 3) - (1 : Int32))] jc_RX9_70 rfl dX9_isPulse_10 rfl rfl rfl (kk := ?_)
  exact h

set_option maxRecDepth 100000 in
set_option maxHeartbeats 4000000 in
theorem sX9_isPulse_13 {g : jm_G} {ad : Nat → Nat} {κ : jm_K} {P : Option Value → (Nat → Nat → Int32) → Prop} (hE : jE g ad m_X9_isPulse P κ) {μ : Nat → Nat → Int32}  (r : Int32)
    (h : ((r = 0 ∨ r = 1) ∧ P (some (.int r)) μ)) :
    jS g ad m_X9_isPulse κ 13 [none, none] [.int r] μ := by
  exact js_zret hE rfl dX9_isPulse_13 rfl h.1 h.2

set_option maxRecDepth 100000 in
set_option maxHeartbeats 4000000 in
theorem sX9_earOf_0 {g : jm_G} {ad : Nat → Nat} {κ : jm_K} {P : Option Value → (Nat → Nat → Int32) → Prop} (hE : jE g ad m_X9_earOf P κ) {μ : Nat → Nat → Int32}  (p1 : Int32)
    (h : vp_in ((4 : Int32) + ((2 : Int32) * p1)) 68 ∧
    P (some (.int (μ 83 ((4 : Int32) + ((2 : Int32) * p1)).toNatClampNeg))) μ) :
    jS g ad m_X9_earOf κ 0 [some (.ref 82), some (.int p1)] [] μ := by
  refine jr_aload_n dX9_earOf_0 rfl ?_
  refine jr_get 9 0 jf_RX9_7 dX9_earOf_1 ga_82 rfl (.ref 83) rfl ?_
  refine jr_iconst (4 : Int32) dX9_earOf_4 (by decide) ?_
  refine jr_iconst (2 : Int32) dX9_earOf_5 (by decide) ?_
  refine jr_iload_n dX9_earOf_6 rfl ?_
  refine jr_imul dX9_earOf_7 ?_
  refine jr_iadd dX9_earOf_8 ?_
  obtain ⟨o1, h⟩ := h
  refine jr_ialdn _ dX9_earOf_9 ga_83 o1 rfl ?_
  exact js_iret hE rfl dX9_earOf_10 rfl h

set_option maxRecDepth 100000 in
set_option maxHeartbeats 4000000 in
theorem sX9_timeOf_0 {g : jm_G} {ad : Nat → Nat} {κ : jm_K} {P : Option Value → (Nat → Nat → Int32) → Prop} (hE : jE g ad m_X9_timeOf P κ) {μ : Nat → Nat → Int32}  (p1 : Int32)
    (h : vp_in (((4 : Int32) + ((2 : Int32) * p1)) + (1 : Int32)) 68 ∧
    P (some (.int (μ 83 (((4 : Int32) + ((2 : Int32) * p1)) + (1 : Int32)).toNatClampNeg))) μ) :
    jS g ad m_X9_timeOf κ 0 [some (.ref 82), some (.int p1)] [] μ := by
  refine jr_aload_n dX9_timeOf_0 rfl ?_
  refine jr_get 9 0 jf_RX9_7 dX9_timeOf_1 ga_82 rfl (.ref 83) rfl ?_
  refine jr_iconst (4 : Int32) dX9_timeOf_4 (by decide) ?_
  refine jr_iconst (2 : Int32) dX9_timeOf_5 (by decide) ?_
  refine jr_iload_n dX9_timeOf_6 rfl ?_
  refine jr_imul dX9_timeOf_7 ?_
  refine jr_iadd dX9_timeOf_8 ?_
  refine jr_iconst (1 : Int32) dX9_timeOf_9 (by decide) ?_
  refine jr_iadd dX9_timeOf_10 ?_
  obtain ⟨o1, h⟩ := h
  refine jr_ialdn _ dX9_timeOf_11 ga_83 o1 rfl ?_
  exact js_iret hE rfl dX9_timeOf_12 rfl h

set_option maxRecDepth 100000 in
set_option maxHeartbeats 4000000 in
theorem sX9_isThere_0 {g : jm_G} {ad : Nat → Nat} {κ : jm_K} {P : Option Value → (Nat → Nat → Int32) → Prop} (hE : jE g ad m_X9_isThere P κ) {μ : Nat → Nat → Int32}  (p1 : Int32) (p2 : Int32)
    (h : jS g ad m_X9_isThere κ 5 [some (.ref 82), some (.int p1), some (.int p2), some (.int (0 : Int32)), some (.int (0 : Int32))] [] μ) :
    jS g ad m_X9_isThere κ 0 [some (.ref 82), some (.int p1), some (.int p2), none, none] [] μ := by
  refine jr_iconst (0 : Int32) dX9_isThere_0 (by decide) ?_
  refine jr_istore_n [some (.ref 82), some (.int p1), some (.int p2), some (.int (0 : Int32)), none] dX9_isThere_1 rfl rfl rfl ?_
  refine jr_iconst (0 : Int32) dX9_isThere_2 (by decide) ?_
  refine jr_istore [some (.ref 82), some (.int p1), some (.int p2), some (.int (0 : Int32)), some (.int (0 : Int32))] dX9_isThere_3 rfl rfl rfl ?_
  exact h

set_option maxRecDepth 100000 in
set_option maxHeartbeats 4000000 in
theorem sX9_isThere_5 {g : jm_G} {ad : Nat → Nat} {κ : jm_K} {P : Option Value → (Nat → Nat → Int32) → Prop} (hE : jE g ad m_X9_isThere P κ) {μ : Nat → Nat → Int32}  (x1 : Int32) (x2 : Int32) (x3 : Int32) (x4 : Int32)
    (h : (((μ 83 3) ≤ x4 →
    ((x3 = 0 ∨ x3 = 1) ∧ P (some (.int x3)) μ)) ∧
    (¬ (μ 83 3) ≤ x4 →
    ((¬ x3 = 0 →
    jS g ad m_X9_isThere κ 5 [some (.ref 82), some (.int x1), some (.int x2), some (.int (1 : Int32)), some (.int (x4 + 1))] [] μ) ∧
    (x3 = 0 →
    jD g ad m_X9_earOf [.ref 82, .int x4] μ (fun v μ' => jS g ad m_X9_isThere κ 26 [some (.ref 82), some (.int x1), some (.int x2), none, some (.int x4)] (jm_ps v []) μ')))))) :
    jS g ad m_X9_isThere κ 5 [some (.ref 82), some (.int x1), some (.int x2), some (.int x3), some (.int x4)] [] μ := by
  refine jr_iload dX9_isThere_5 rfl ?_
  refine jr_aload_n dX9_isThere_7 rfl ?_
  refine jr_get 9 0 jf_RX9_7 dX9_isThere_8 ga_82 rfl (.ref 83) rfl ?_
  refine jr_iconst (3 : Int32) dX9_isThere_11 (by decide) ?_
  refine jr_ialdn 3 dX9_isThere_12 ga_83 (jm_inD (by decide)) rfl ?_
  obtain ⟨hA, hB⟩ := h
  refine jr_icmp_ge 52 dX9_isThere_13 rfl (fun c => ?_) (fun c => ?_)
  · have h := hA c
    refine jr_iload_n dX9_isThere_52 rfl ?_
    exact js_zret hE rfl dX9_isThere_53 rfl h.1 h.2
  · have h := hB c
    refine jr_iload_n dX9_isThere_16 rfl ?_
    obtain ⟨hA, hB⟩ := h
    refine jr_if_ne 40 dX9_isThere_17 rfl (fun c => ?_) (fun c => ?_)
    · have h := hA c
      refine jr_iconst (1 : Int32) dX9_isThere_40 (by decide) ?_
      refine jr_goto 45 dX9_isThere_41 rfl ?_
      refine jr_istore_n [some (.ref 82), some (.int x1), some (.int x2), some (.int (1 : Int32)), some (.int x4)] dX9_isThere_45 rfl rfl rfl ?_
      refine jr_iinc [some (.ref 82), some (.int x1), some (.int x2), some (.int (1 : Int32)), some (.int (x4 + 1))] dX9_isThere_46 rfl rfl rfl rfl rfl ?_
      refine jr_goto 5 dX9_isThere_49 rfl ?_
      exact h
    · have h := hB c
      refine jr_aload_n dX9_isThere_20 rfl ?_
      refine jr_iload dX9_isThere_21 rfl ?_
      refine js_drop 3 [some (.ref 82), some (.int x1), some (.int x2), none, some (.int x4)] rfl ?_
      refine js_callV (st := []) [.int x4] jc_RX9_87 rfl dX9_isThere_23 ga_82 rfl rfl rfl rfl (kk := ?_)
      exact h

set_option maxRecDepth 100000 in
set_option maxHeartbeats 4000000 in
theorem sX9_isThere_26 {g : jm_G} {ad : Nat → Nat} {κ : jm_K} {P : Option Value → (Nat → Nat → Int32) → Prop} (hE : jE g ad m_X9_isThere P κ) {μ : Nat → Nat → Int32}  (x1 : Int32) (x2 : Int32) (x4 : Int32) (r : Int32)
    (h : ((¬ r = x1 →
    jS g ad m_X9_isThere κ 5 [some (.ref 82), some (.int x1), some (.int x2), some (.int (0 : Int32)), some (.int (x4 + 1))] [] μ) ∧
    (r = x1 →
    jD g ad m_X9_timeOf [.ref 82, .int x4] μ (fun v μ' => jS g ad m_X9_isThere κ 36 [some (.ref 82), some (.int x1), some (.int x2), none, some (.int x4)] (jm_ps v []) μ')))) :
    jS g ad m_X9_isThere κ 26 [some (.ref 82), some (.int x1), some (.int x2), none, some (.int x4)] [.int r] μ := by
  refine jr_iload_n dX9_isThere_26 rfl ?_
  obtain ⟨hA, hB⟩ := h
  refine jr_icmp_ne 44 dX9_isThere_27 rfl (fun c => ?_) (fun c => ?_)
  · have h := hA c
    refine jr_iconst (0 : Int32) dX9_isThere_44 (by decide) ?_
    refine jr_istore_n [some (.ref 82), some (.int x1), some (.int x2), some (.int (0 : Int32)), some (.int x4)] dX9_isThere_45 rfl rfl rfl ?_
    refine jr_iinc [some (.ref 82), some (.int x1), some (.int x2), some (.int (0 : Int32)), some (.int (x4 + 1))] dX9_isThere_46 rfl rfl rfl rfl rfl ?_
    refine jr_goto 5 dX9_isThere_49 rfl ?_
    exact h
  · have h := hB c
    refine jr_aload_n dX9_isThere_30 rfl ?_
    refine jr_iload dX9_isThere_31 rfl ?_
    refine js_callV (st := []) [.int x4] jc_RX9_90 rfl dX9_isThere_33 ga_82 rfl rfl rfl rfl (kk := ?_)
    exact h

set_option maxRecDepth 100000 in
set_option maxHeartbeats 4000000 in
theorem sX9_isThere_36 {g : jm_G} {ad : Nat → Nat} {κ : jm_K} {P : Option Value → (Nat → Nat → Int32) → Prop} (hE : jE g ad m_X9_isThere P κ) {μ : Nat → Nat → Int32}  (x1 : Int32) (x2 : Int32) (x4 : Int32) (r : Int32)
    (h : ((¬ r = x2 →
    jS g ad m_X9_isThere κ 5 [some (.ref 82), some (.int x1), some (.int x2), some (.int (0 : Int32)), some (.int (x4 + 1))] [] μ) ∧
    (r = x2 →
    jS g ad m_X9_isThere κ 5 [some (.ref 82), some (.int x1), some (.int x2), some (.int (1 : Int32)), some (.int (x4 + 1))] [] μ))) :
    jS g ad m_X9_isThere κ 36 [some (.ref 82), some (.int x1), some (.int x2), none, some (.int x4)] [.int r] μ := by
  refine jr_iload_n dX9_isThere_36 rfl ?_
  obtain ⟨hA, hB⟩ := h
  refine jr_icmp_ne 44 dX9_isThere_37 rfl (fun c => ?_) (fun c => ?_)
  · have h := hA c
    refine jr_iconst (0 : Int32) dX9_isThere_44 (by decide) ?_
    refine jr_istore_n [some (.ref 82), some (.int x1), some (.int x2), some (.int (0 : Int32)), some (.int x4)] dX9_isThere_45 rfl rfl rfl ?_
    refine jr_iinc [some (.ref 82), some (.int x1), some (.int x2), some (.int (0 : Int32)), some (.int (x4 + 1))] dX9_isThere_46 rfl rfl rfl rfl rfl ?_
    refine jr_goto 5 dX9_isThere_49 rfl ?_
    exact h
  · have h := hB c
    refine jr_iconst (1 : Int32) dX9_isThere_40 (by decide) ?_
    refine jr_goto 45 dX9_isThere_41 rfl ?_
    refine jr_istore_n [some (.ref 82), some (.int x1), some (.int x2), some (.int (1 : Int32)), some (.int x4)] dX9_isThere_45 rfl rfl rfl ?_
    refine jr_iinc [some (.ref 82), some (.int x1), some (.int x2), some (.int (1 : Int32)), some (.int (x4 + 1))] dX9_isThere_46 rfl rfl rfl rfl rfl ?_
    refine jr_goto 5 dX9_isThere_49 rfl ?_
    exact h

set_option maxRecDepth 100000 in
set_option maxHeartbeats 4000000 in
theorem sX9_comes_0 {g : jm_G} {ad : Nat → Nat} {κ : jm_K} {P : Option Value → (Nat → Nat → Int32) → Prop} (hE : jE g ad m_X9_comes P κ) {μ : Nat → Nat → Int32}  (p1 : Int32) (p2 : Int32)
    (h : jS g ad m_X9_comes κ 7 [some (.ref 82), some (.int p1), some (.int p2), some (.int (μ 83 3))] [] μ) :
    jS g ad m_X9_comes κ 0 [some (.ref 82), some (.int p1), some (.int p2), none] [] μ := by
  refine jr_aload_n dX9_comes_0 rfl ?_
  refine jr_get 9 0 jf_RX9_7 dX9_comes_1 ga_82 rfl (.ref 83) rfl ?_
  refine jr_iconst (3 : Int32) dX9_comes_4 (by decide) ?_
  refine jr_ialdn 3 dX9_comes_5 ga_83 (jm_inD (by decide)) rfl ?_
  refine jr_istore_n [some (.ref 82), some (.int p1), some (.int p2), some (.int (μ 83 3))] dX9_comes_6 rfl rfl rfl ?_
  exact h

set_option maxRecDepth 100000 in
set_option maxHeartbeats 4000000 in
theorem sX9_comes_7 {g : jm_G} {ad : Nat → Nat} {κ : jm_K} {P : Option Value → (Nat → Nat → Int32) → Prop} (hE : jE g ad m_X9_comes P κ) {μ : Nat → Nat → Int32}  (x1 : Int32) (x2 : Int32) (x3 : Int32)
    (h : ((x3 ≤ 0 →
    vp_in ((4 : Int32) + ((2 : Int32) * x3)) 68 ∧
    (∀ μ2 : Nat → Nat → Int32, μ2 = jm_st μ 83 ((4 : Int32) + ((2 : Int32) * x3)).toNatClampNeg x1 →
    vp_in (((4 : Int32) + ((2 : Int32) * x3)) + (1 : Int32)) 68 ∧
    (∀ μ4 : Nat → Nat → Int32, μ4 = jm_st μ2 83 (((4 : Int32) + ((2 : Int32) * x3)) + (1 : Int32)).toNatClampNeg x2 →
    (∀ μ5 : Nat → Nat → Int32, μ5 = jm_st μ4 83 3 ((μ4 83 3) + (1 : Int32)) →
    P (some (.int x3)) μ5)))) ∧
    (¬ x3 ≤ 0 →
    jD g ad m_X9_timeOf [.ref 82, .int (x3 - (1 : Int32))] μ (fun v μ' => jS g ad m_X9_comes κ 18 [some (.ref 82), some (.int x1), some (.int x2), some (.int x3)] (jm_ps v []) μ')))) :
    jS g ad m_X9_comes κ 7 [some (.ref 82), some (.int x1), some (.int x2), some (.int x3)] [] μ := by
  refine jr_iload_n dX9_comes_7 rfl ?_
  obtain ⟨hA, hB⟩ := h
  refine jr_if_le 86 dX9_comes_8 rfl (fun c => ?_) (fun c => ?_)
  · have h := hA c
    refine jr_aload_n dX9_comes_86 rfl ?_
    refine jr_get 9 0 jf_RX9_7 dX9_comes_87 ga_82 rfl (.ref 83) rfl ?_
    refine jr_iconst (4 : Int32) dX9_comes_90 (by decide) ?_
    refine jr_iconst (2 : Int32) dX9_comes_91 (by decide) ?_
    refine jr_iload_n dX9_comes_92 rfl ?_
    refine jr_imul dX9_comes_93 ?_
    refine jr_iadd dX9_comes_94 ?_
    refine jr_iload_n dX9_comes_95 rfl ?_
    obtain ⟨o1, h⟩ := h
    refine jr_iastn _ dX9_comes_96 ga_83 o1 rfl ?_
    obtain ⟨μ2, e2⟩ : ∃ x : Nat → Nat → Int32, x = jm_st μ 83 ((4 : Int32) + ((2 : Int32) * x3)).toNatClampNeg x1 := ⟨_, rfl⟩
    have h := h μ2 e2
    refine js_mem e2 ?_
    refine jr_aload_n dX9_comes_97 rfl ?_
    refine jr_get 9 0 jf_RX9_7 dX9_comes_98 ga_82 rfl (.ref 83) rfl ?_
    refine jr_iconst (4 : Int32) dX9_comes_101 (by decide) ?_
    refine jr_iconst (2 : Int32) dX9_comes_102 (by decide) ?_
    refine jr_iload_n dX9_comes_103 rfl ?_
    refine jr_imul dX9_comes_104 ?_
    refine jr_iadd dX9_comes_105 ?_
    refine jr_iconst (1 : Int32) dX9_comes_106 (by decide) ?_
    refine jr_iadd dX9_comes_107 ?_
    refine jr_iload_n dX9_comes_108 rfl ?_
    obtain ⟨o3, h⟩ := h
    refine jr_iastn _ dX9_comes_109 ga_83 o3 rfl ?_
    obtain ⟨μ4, e4⟩ : ∃ x : Nat → Nat → Int32, x = jm_st μ2 83 (((4 : Int32) + ((2 : Int32) * x3)) + (1 : Int32)).toNatClampNeg x2 := ⟨_, rfl⟩
    have h := h μ4 e4
    refine js_mem e4 ?_
    refine jr_aload_n dX9_comes_110 rfl ?_
    refine jr_get 9 0 jf_RX9_7 dX9_comes_111 ga_82 rfl (.ref 83) rfl ?_
    refine jr_iconst (3 : Int32) dX9_comes_114 (by decide) ?_
    refine jr_dup2 dX9_comes_115 rfl rfl ?_
    refine jr_ialdn 3 dX9_comes_116 ga_83 (jm_inD (by decide)) rfl ?_
    refine jr_iconst (1 : Int32) dX9_comes_117 (by decide) ?_
    refine jr_iadd dX9_comes_118 ?_
    refine jr_iastn 3 dX9_comes_119 ga_83 (jm_inD (by decide)) rfl ?_
    obtain ⟨μ5, e5⟩ : ∃ x : Nat → Nat → Int32, x = jm_st μ4 83 3 ((μ4 83 3) + (1 : Int32)) := ⟨_, rfl⟩
    have h := h μ5 e5
    refine js_mem e5 ?_
    refine jr_iload_n dX9_comes_120 rfl ?_
    exact js_iret hE rfl dX9_comes_121 rfl h
  · have h := hB c
    refine jr_aload_n dX9_comes_11 rfl ?_
    refine jr_iload_n dX9_comes_12 rfl ?_
    refine jr_iconst (1 : Int32) dX9_comes_13 (by decide) ?_
    refine jr_isub dX9_comes_14 ?_
    refine js_callV (st := []) [.int (x3 - (1 : Int32))] jc_RX9_90 rfl dX9_comes_15 ga_82 rfl rfl rfl rfl (kk := ?_)
    exact h

set_option maxRecDepth 100000 in
set_option maxHeartbeats 4000000 in
theorem sX9_comes_18 {g : jm_G} {ad : Nat → Nat} {κ : jm_K} {P : Option Value → (Nat → Nat → Int32) → Prop} (hE : jE g ad m_X9_comes P κ) {μ : Nat → Nat → Int32}  (x1 : Int32) (x2 : Int32) (x3 : Int32) (r : Int32)
    (h : ((x2 < r →
    jD g ad m_X9_earOf [.ref 82, .int (x3 - (1 : Int32))] μ (fun v μ' => jS g ad m_X9_comes κ 60 [some (.ref 82), some (.int x1), some (.int x2), some (.int x3)] (jm_ps v [.int ((4 : Int32) + ((2 : Int32) * x3)), .ref 83]) μ')) ∧
    (¬ x2 < r →
    jD g ad m_X9_timeOf [.ref 82, .int (x3 - (1 : Int32))] μ (fun v μ' => jS g ad m_X9_comes κ 29 [some (.ref 82), some (.int x1), some (.int x2), some (.int x3)] (jm_ps v []) μ')))) :
    jS g ad m_X9_comes κ 18 [some (.ref 82), some (.int x1), some (.int x2), some (.int x3)] [.int r] μ := by
  refine jr_iload_n dX9_comes_18 rfl ?_
  obtain ⟨hA, hB⟩ := h
  refine jr_icmp_gt 44 dX9_comes_19 rfl (fun c => ?_) (fun c => ?_)
  · have h := hA c
    refine jr_aload_n dX9_comes_44 rfl ?_
    refine jr_get 9 0 jf_RX9_7 dX9_comes_45 ga_82 rfl (.ref 83) rfl ?_
    refine jr_iconst (4 : Int32) dX9_comes_48 (by decide) ?_
    refine jr_iconst (2 : Int32) dX9_comes_49 (by decide) ?_
    refine jr_iload_n dX9_comes_50 rfl ?_
    refine jr_imul dX9_comes_51 ?_
    refine jr_iadd dX9_comes_52 ?_
    refine jr_aload_n dX9_comes_53 rfl ?_
    refine jr_iload_n dX9_comes_54 rfl ?_
    refine jr_iconst (1 : Int32) dX9_comes_55 (by decide) ?_
    refine jr_isub dX9_comes_56 ?_
    refine js_callV (st := [.int ((4 : Int32) + ((2 : Int32) * x3)), .ref 83]) [.int (x3 - (1 : Int32))] jc_RX9_87 rfl dX9_comes_57 ga_82 rfl rfl rfl rfl (kk := ?_)
    exact h
  · have h := hB c
    refine jr_aload_n dX9_comes_22 rfl ?_
    refine jr_iload_n dX9_comes_23 rfl ?_
    refine jr_iconst (1 : Int32) dX9_comes_24 (by decide) ?_
    refine jr_isub dX9_comes_25 ?_
    refine js_callV (st := []) [.int (x3 - (1 : Int32))] jc_RX9_90 rfl dX9_comes_26 ga_82 rfl rfl rfl rfl (kk := ?_)
    exact h

set_option maxRecDepth 100000 in
set_option maxHeartbeats 4000000 in
theorem sX9_comes_60 {g : jm_G} {ad : Nat → Nat} {κ : jm_K} {P : Option Value → (Nat → Nat → Int32) → Prop} (hE : jE g ad m_X9_comes P κ) {μ : Nat → Nat → Int32}  (x1 : Int32) (x2 : Int32) (x3 : Int32) (r : Int32) (y1 : Int32)
    (h : vp_in y1 68 ∧
    (∀ μ2 : Nat → Nat → Int32, μ2 = jm_st μ 83 y1.toNatClampNeg r →
    jD g ad m_X9_timeOf [.ref 82, .int (x3 - (1 : Int32))] μ2 (fun v μ' => jS g ad m_X9_comes κ 79 [some (.ref 82), some (.int x1), some (.int x2), some (.int x3)] (jm_ps v [.int (((4 : Int32) + ((2 : Int32) * x3)) + (1 : Int32)), .ref 83]) μ'))) :
    jS g ad m_X9_comes κ 60 [some (.ref 82), some (.int x1), some (.int x2), some (.int x3)] [.int r, .int y1, .ref 83] μ := by
  obtain ⟨o1, h⟩ := h
  refine jr_iastn _ dX9_comes_60 ga_83 o1 rfl ?_
  obtain ⟨μ2, e2⟩ : ∃ x : Nat → Nat → Int32, x = jm_st μ 83 y1.toNatClampNeg r := ⟨_, rfl⟩
  have h := h μ2 e2
  refine js_mem e2 ?_
  refine jr_aload_n dX9_comes_61 rfl ?_
  refine jr_get 9 0 jf_RX9_7 dX9_comes_62 ga_82 rfl (.ref 83) rfl ?_
  refine jr_iconst (4 : Int32) dX9_comes_65 (by decide) ?_
  refine jr_iconst (2 : Int32) dX9_comes_66 (by decide) ?_
  refine jr_iload_n dX9_comes_67 rfl ?_
  refine jr_imul dX9_comes_68 ?_
  refine jr_iadd dX9_comes_69 ?_
  refine jr_iconst (1 : Int32) dX9_comes_70 (by decide) ?_
  refine jr_iadd dX9_comes_71 ?_
  refine jr_aload_n dX9_comes_72 rfl ?_
  refine jr_iload_n dX9_comes_73 rfl ?_
  refine jr_iconst (1 : Int32) dX9_comes_74 (by decide) ?_
  refine jr_isub dX9_comes_75 ?_
  refine js_callV (st := [.int (((4 : Int32) + ((2 : Int32) * x3)) + (1 : Int32)), .ref 83]) [.int (x3 - (1 : Int32))] jc_RX9_90 rfl dX9_comes_76 ga_82 rfl rfl rfl rfl (kk := ?_)
  exact h

set_option maxRecDepth 100000 in
set_option maxHeartbeats 4000000 in
theorem sX9_comes_29 {g : jm_G} {ad : Nat → Nat} {κ : jm_K} {P : Option Value → (Nat → Nat → Int32) → Prop} (hE : jE g ad m_X9_comes P κ) {μ : Nat → Nat → Int32}  (x1 : Int32) (x2 : Int32) (x3 : Int32) (r : Int32)
    (h : ((¬ r = x2 →
    vp_in ((4 : Int32) + ((2 : Int32) * x3)) 68 ∧
    (∀ μ2 : Nat → Nat → Int32, μ2 = jm_st μ 83 ((4 : Int32) + ((2 : Int32) * x3)).toNatClampNeg x1 →
    vp_in (((4 : Int32) + ((2 : Int32) * x3)) + (1 : Int32)) 68 ∧
    (∀ μ4 : Nat → Nat → Int32, μ4 = jm_st μ2 83 (((4 : Int32) + ((2 : Int32) * x3)) + (1 : Int32)).toNatClampNeg x2 →
    (∀ μ5 : Nat → Nat → Int32, μ5 = jm_st μ4 83 3 ((μ4 83 3) + (1 : Int32)) →
    P (some (.int x3)) μ5)))) ∧
    (r = x2 →
    jD g ad m_X9_earOf [.ref 82, .int (x3 - (1 : Int32))] μ (fun v μ' => jS g ad m_X9_comes κ 40 [some (.ref 82), some (.int x1), some (.int x2), some (.int x3)] (jm_ps v []) μ')))) :
    jS g ad m_X9_comes κ 29 [some (.ref 82), some (.int x1), some (.int x2), some (.int x3)] [.int r] μ := by
  refine jr_iload_n dX9_comes_29 rfl ?_
  obtain ⟨hA, hB⟩ := h
  refine jr_icmp_ne 86 dX9_comes_30 rfl (fun c => ?_) (fun c => ?_)
  · have h := hA c
    refine jr_aload_n dX9_comes_86 rfl ?_
    refine jr_get 9 0 jf_RX9_7 dX9_comes_87 ga_82 rfl (.ref 83) rfl ?_
    refine jr_iconst (4 : Int32) dX9_comes_90 (by decide) ?_
    refine jr_iconst (2 : Int32) dX9_comes_91 (by decide) ?_
    refine jr_iload_n dX9_comes_92 rfl ?_
    refine jr_imul dX9_comes_93 ?_
    refine jr_iadd dX9_comes_94 ?_
    refine jr_iload_n dX9_comes_95 rfl ?_
    obtain ⟨o1, h⟩ := h
    refine jr_iastn _ dX9_comes_96 ga_83 o1 rfl ?_
    obtain ⟨μ2, e2⟩ : ∃ x : Nat → Nat → Int32, x = jm_st μ 83 ((4 : Int32) + ((2 : Int32) * x3)).toNatClampNeg x1 := ⟨_, rfl⟩
    have h := h μ2 e2
    refine js_mem e2 ?_
    refine jr_aload_n dX9_comes_97 rfl ?_
    refine jr_get 9 0 jf_RX9_7 dX9_comes_98 ga_82 rfl (.ref 83) rfl ?_
    refine jr_iconst (4 : Int32) dX9_comes_101 (by decide) ?_
    refine jr_iconst (2 : Int32) dX9_comes_102 (by decide) ?_
    refine jr_iload_n dX9_comes_103 rfl ?_
    refine jr_imul dX9_comes_104 ?_
    refine jr_iadd dX9_comes_105 ?_
    refine jr_iconst (1 : Int32) dX9_comes_106 (by decide) ?_
    refine jr_iadd dX9_comes_107 ?_
    refine jr_iload_n dX9_comes_108 rfl ?_
    obtain ⟨o3, h⟩ := h
    refine jr_iastn _ dX9_comes_109 ga_83 o3 rfl ?_
    obtain ⟨μ4, e4⟩ : ∃ x : Nat → Nat → Int32, x = jm_st μ2 83 (((4 : Int32) + ((2 : Int32) * x3)) + (1 : Int32)).toNatClampNeg x2 := ⟨_, rfl⟩
    have h := h μ4 e4
    refine js_mem e4 ?_
    refine jr_aload_n dX9_comes_110 rfl ?_
    refine jr_get 9 0 jf_RX9_7 dX9_comes_111 ga_82 rfl (.ref 83) rfl ?_
    refine jr_iconst (3 : Int32) dX9_comes_114 (by decide) ?_
    refine jr_dup2 dX9_comes_115 rfl rfl ?_
    refine jr_ialdn 3 dX9_comes_116 ga_83 (jm_inD (by decide)) rfl ?_
    refine jr_iconst (1 : Int32) dX9_comes_117 (by decide) ?_
    refine jr_iadd dX9_comes_118 ?_
    refine jr_iastn 3 dX9_comes_119 ga_83 (jm_inD (by decide)) rfl ?_
    obtain ⟨μ5, e5⟩ : ∃ x : Nat → Nat → Int32, x = jm_st μ4 83 3 ((μ4 83 3) + (1 : Int32)) := ⟨_, rfl⟩
    have h := h μ5 e5
    refine js_mem e5 ?_
    refine jr_iload_n dX9_comes_120 rfl ?_
    exact js_iret hE rfl dX9_comes_121 rfl h
  · have h := hB c
    refine jr_aload_n dX9_comes_33 rfl ?_
    refine jr_iload_n dX9_comes_34 rfl ?_
    refine jr_iconst (1 : Int32) dX9_comes_35 (by decide) ?_
    refine jr_isub dX9_comes_36 ?_
    refine js_callV (st := []) [.int (x3 - (1 : Int32))] jc_RX9_87 rfl dX9_comes_37 ga_82 rfl rfl rfl rfl (kk := ?_)
    exact h

set_option maxRecDepth 100000 in
set_option maxHeartbeats 4000000 in
theorem sX9_comes_79 {g : jm_G} {ad : Nat → Nat} {κ : jm_K} {P : Option Value → (Nat → Nat → Int32) → Prop} (hE : jE g ad m_X9_comes P κ) {μ : Nat → Nat → Int32}  (x1 : Int32) (x2 : Int32) (x3 : Int32) (r : Int32) (y1 : Int32)
    (h : vp_in y1 68 ∧
    (∀ μ2 : Nat → Nat → Int32, μ2 = jm_st μ 83 y1.toNatClampNeg r →
    jS g ad m_X9_comes κ 7 [some (.ref 82), some (.int x1), some (.int x2), some (.int (x3 + (-1)))] [] μ2)) :
    jS g ad m_X9_comes κ 79 [some (.ref 82), some (.int x1), some (.int x2), some (.int x3)] [.int r, .int y1, .ref 83] μ := by
  obtain ⟨o1, h⟩ := h
  refine jr_iastn _ dX9_comes_79 ga_83 o1 rfl ?_
  obtain ⟨μ2, e2⟩ : ∃ x : Nat → Nat → Int32, x = jm_st μ 83 y1.toNatClampNeg r := ⟨_, rfl⟩
  have h := h μ2 e2
  refine js_mem e2 ?_
  refine jr_iinc [some (.ref 82), some (.int x1), some (.int x2), some (.int (x3 + (-1)))] dX9_comes_80 rfl rfl rfl rfl rfl ?_
  refine jr_goto 7 dX9_comes_83 rfl ?_
  exact h

set_option maxRecDepth 100000 in
set_option maxHeartbeats 4000000 in
theorem sX9_comes_40 {g : jm_G} {ad : Nat → Nat} {κ : jm_K} {P : Option Value → (Nat → Nat → Int32) → Prop} (hE : jE g ad m_X9_comes P κ) {μ : Nat → Nat → Int32}  (x1 : Int32) (x2 : Int32) (x3 : Int32) (r : Int32)
    (h : ((r ≤ x1 →
    vp_in ((4 : Int32) + ((2 : Int32) * x3)) 68 ∧
    (∀ μ2 : Nat → Nat → Int32, μ2 = jm_st μ 83 ((4 : Int32) + ((2 : Int32) * x3)).toNatClampNeg x1 →
    vp_in (((4 : Int32) + ((2 : Int32) * x3)) + (1 : Int32)) 68 ∧
    (∀ μ4 : Nat → Nat → Int32, μ4 = jm_st μ2 83 (((4 : Int32) + ((2 : Int32) * x3)) + (1 : Int32)).toNatClampNeg x2 →
    (∀ μ5 : Nat → Nat → Int32, μ5 = jm_st μ4 83 3 ((μ4 83 3) + (1 : Int32)) →
    P (some (.int x3)) μ5)))) ∧
    (¬ r ≤ x1 →
    jD g ad m_X9_earOf [.ref 82, .int (x3 - (1 : Int32))] μ (fun v μ' => jS g ad m_X9_comes κ 60 [some (.ref 82), some (.int x1), some (.int x2), some (.int x3)] (jm_ps v [.int ((4 : Int32) + ((2 : Int32) * x3)), .ref 83]) μ')))) :
    jS g ad m_X9_comes κ 40 [some (.ref 82), some (.int x1), some (.int x2), some (.int x3)] [.int r] μ := by
  refine jr_iload_n dX9_comes_40 rfl ?_
  obtain ⟨hA, hB⟩ := h
  refine jr_icmp_le 86 dX9_comes_41 rfl (fun c => ?_) (fun c => ?_)
  · have h := hA c
    refine jr_aload_n dX9_comes_86 rfl ?_
    refine jr_get 9 0 jf_RX9_7 dX9_comes_87 ga_82 rfl (.ref 83) rfl ?_
    refine jr_iconst (4 : Int32) dX9_comes_90 (by decide) ?_
    refine jr_iconst (2 : Int32) dX9_comes_91 (by decide) ?_
    refine jr_iload_n dX9_comes_92 rfl ?_
    refine jr_imul dX9_comes_93 ?_
    refine jr_iadd dX9_comes_94 ?_
    refine jr_iload_n dX9_comes_95 rfl ?_
    obtain ⟨o1, h⟩ := h
    refine jr_iastn _ dX9_comes_96 ga_83 o1 rfl ?_
    obtain ⟨μ2, e2⟩ : ∃ x : Nat → Nat → Int32, x = jm_st μ 83 ((4 : Int32) + ((2 : Int32) * x3)).toNatClampNeg x1 := ⟨_, rfl⟩
    have h := h μ2 e2
    refine js_mem e2 ?_
    refine jr_aload_n dX9_comes_97 rfl ?_
    refine jr_get 9 0 jf_RX9_7 dX9_comes_98 ga_82 rfl (.ref 83) rfl ?_
    refine jr_iconst (4 : Int32) dX9_comes_101 (by decide) ?_
    refine jr_iconst (2 : Int32) dX9_comes_102 (by decide) ?_
    refine jr_iload_n dX9_comes_103 rfl ?_
    refine jr_imul dX9_comes_104 ?_
    refine jr_iadd dX9_comes_105 ?_
    refine jr_iconst (1 : Int32) dX9_comes_106 (by decide) ?_
    refine jr_iadd dX9_comes_107 ?_
    refine jr_iload_n dX9_comes_108 rfl ?_
    obtain ⟨o3, h⟩ := h
    refine jr_iastn _ dX9_comes_109 ga_83 o3 rfl ?_
    obtain ⟨μ4, e4⟩ : ∃ x : Nat → Nat → Int32, x = jm_st μ2 83 (((4 : Int32) + ((2 : Int32) * x3)) + (1 : Int32)).toNatClampNeg x2 := ⟨_, rfl⟩
    have h := h μ4 e4
    refine js_mem e4 ?_
    refine jr_aload_n dX9_comes_110 rfl ?_
    refine jr_get 9 0 jf_RX9_7 dX9_comes_111 ga_82 rfl (.ref 83) rfl ?_
    refine jr_iconst (3 : Int32) dX9_comes_114 (by decide) ?_
    refine jr_dup2 dX9_comes_115 rfl rfl ?_
    refine jr_ialdn 3 dX9_comes_116 ga_83 (jm_inD (by decide)) rfl ?_
    refine jr_iconst (1 : Int32) dX9_comes_117 (by decide) ?_
    refine jr_iadd dX9_comes_118 ?_
    refine jr_iastn 3 dX9_comes_119 ga_83 (jm_inD (by decide)) rfl ?_
    obtain ⟨μ5, e5⟩ : ∃ x : Nat → Nat → Int32, x = jm_st μ4 83 3 ((μ4 83 3) + (1 : Int32)) := ⟨_, rfl⟩
    have h := h μ5 e5
    refine js_mem e5 ?_
    refine jr_iload_n dX9_comes_120 rfl ?_
    exact js_iret hE rfl dX9_comes_121 rfl h
  · have h := hB c
    refine jr_aload_n dX9_comes_44 rfl ?_
    refine jr_get 9 0 jf_RX9_7 dX9_comes_45 ga_82 rfl (.ref 83) rfl ?_
    refine jr_iconst (4 : Int32) dX9_comes_48 (by decide) ?_
    refine jr_iconst (2 : Int32) dX9_comes_49 (by decide) ?_
    refine jr_iload_n dX9_comes_50 rfl ?_
    refine jr_imul dX9_comes_51 ?_
    refine jr_iadd dX9_comes_52 ?_
    refine jr_aload_n dX9_comes_53 rfl ?_
    refine jr_iload_n dX9_comes_54 rfl ?_
    refine jr_iconst (1 : Int32) dX9_comes_55 (by decide) ?_
    refine jr_isub dX9_comes_56 ?_
    refine js_callV (st := [.int ((4 : Int32) + ((2 : Int32) * x3)), .ref 83]) [.int (x3 - (1 : Int32))] jc_RX9_87 rfl dX9_comes_57 ga_82 rfl rfl rfl rfl (kk := ?_)
    exact h

set_option maxRecDepth 100000 in
set_option maxHeartbeats 4000000 in
theorem sX9_goes_0 {g : jm_G} {ad : Nat → Nat} {κ : jm_K} {P : Option Value → (Nat → Nat → Int32) → Prop} (hE : jE g ad m_X9_goes P κ) {μ : Nat → Nat → Int32}  (p1 : Int32)
    (h : (∀ μ1 : Nat → Nat → Int32, μ1 = jm_st μ 83 3 ((μ 83 3) - (1 : Int32)) →
    jS g ad m_X9_goes κ 16 [some (.ref 82), none, some (.int ((4 : Int32) + ((2 : Int32) * p1)))] [] μ1)) :
    jS g ad m_X9_goes κ 0 [some (.ref 82), some (.int p1), none] [] μ := by
  refine jr_aload_n dX9_goes_0 rfl ?_
  refine jr_get 9 0 jf_RX9_7 dX9_goes_1 ga_82 rfl (.ref 83) rfl ?_
  refine jr_iconst (3 : Int32) dX9_goes_4 (by decide) ?_
  refine jr_dup2 dX9_goes_5 rfl rfl ?_
  refine jr_ialdn 3 dX9_goes_6 ga_83 (jm_inD (by decide)) rfl ?_
  refine jr_iconst (1 : Int32) dX9_goes_7 (by decide) ?_
  refine jr_isub dX9_goes_8 ?_
  refine jr_iastn 3 dX9_goes_9 ga_83 (jm_inD (by decide)) rfl ?_
  obtain ⟨μ1, e1⟩ : ∃ x : Nat → Nat → Int32, x = jm_st μ 83 3 ((μ 83 3) - (1 : Int32)) := ⟨_, rfl⟩
  have h := h μ1 e1
  refine js_mem e1 ?_
  refine jr_iconst (4 : Int32) dX9_goes_10 (by decide) ?_
  refine jr_iconst (2 : Int32) dX9_goes_11 (by decide) ?_
  refine jr_iload_n dX9_goes_12 rfl ?_
  refine jr_imul dX9_goes_13 ?_
  refine jr_iadd dX9_goes_14 ?_
  refine jr_istore_n [some (.ref 82), some (.int p1), some (.int ((4 : Int32) + ((2 : Int32) * p1)))] dX9_goes_15 rfl rfl rfl ?_
  refine js_drop 1 [some (.ref 82), none, some (.int ((4 : Int32) + ((2 : Int32) * p1)))] rfl ?_
  exact h

set_option maxRecDepth 100000 in
set_option maxHeartbeats 4000000 in
theorem sX9_goes_16 {g : jm_G} {ad : Nat → Nat} {κ : jm_K} {P : Option Value → (Nat → Nat → Int32) → Prop} (hE : jE g ad m_X9_goes P κ) {μ : Nat → Nat → Int32}  (x2 : Int32)
    (h : ((((4 : Int32) + ((2 : Int32) * (μ 83 3))) ≤ x2 →
    P none μ) ∧
    (¬ ((4 : Int32) + ((2 : Int32) * (μ 83 3))) ≤ x2 →
    vp_in (x2 + (2 : Int32)) 68 ∧
    vp_in x2 68 ∧
    (∀ μ3 : Nat → Nat → Int32, μ3 = jm_st μ 83 x2.toNatClampNeg (μ 83 (x2 + (2 : Int32)).toNatClampNeg) →
    jS g ad m_X9_goes κ 16 [some (.ref 82), none, some (.int (x2 + 1))] [] μ3)))) :
    jS g ad m_X9_goes κ 16 [some (.ref 82), none, some (.int x2)] [] μ := by
  refine jr_iload_n dX9_goes_16 rfl ?_
  refine jr_iconst (4 : Int32) dX9_goes_17 (by decide) ?_
  refine jr_iconst (2 : Int32) dX9_goes_18 (by decide) ?_
  refine jr_aload_n dX9_goes_19 rfl ?_
  refine jr_get 9 0 jf_RX9_7 dX9_goes_20 ga_82 rfl (.ref 83) rfl ?_
  refine jr_iconst (3 : Int32) dX9_goes_23 (by decide) ?_
  refine jr_ialdn 3 dX9_goes_24 ga_83 (jm_inD (by decide)) rfl ?_
  refine jr_imul dX9_goes_25 ?_
  refine jr_iadd dX9_goes_26 ?_
  obtain ⟨hA, hB⟩ := h
  refine jr_icmp_ge 50 dX9_goes_27 rfl (fun c => ?_) (fun c => ?_)
  · have h := hA c
    exact js_vret hE rfl dX9_goes_50 rfl h
  · have h := hB c
    refine jr_aload_n dX9_goes_30 rfl ?_
    refine jr_get 9 0 jf_RX9_7 dX9_goes_31 ga_82 rfl (.ref 83) rfl ?_
    refine jr_iload_n dX9_goes_34 rfl ?_
    refine jr_aload_n dX9_goes_35 rfl ?_
    refine jr_get 9 0 jf_RX9_7 dX9_goes_36 ga_82 rfl (.ref 83) rfl ?_
    refine jr_iload_n dX9_goes_39 rfl ?_
    refine jr_iconst (2 : Int32) dX9_goes_40 (by decide) ?_
    refine jr_iadd dX9_goes_41 ?_
    obtain ⟨o1, h⟩ := h
    refine jr_ialdn _ dX9_goes_42 ga_83 o1 rfl ?_
    obtain ⟨o2, h⟩ := h
    refine jr_iastn _ dX9_goes_43 ga_83 o2 rfl ?_
    obtain ⟨μ3, e3⟩ : ∃ x : Nat → Nat → Int32, x = jm_st μ 83 x2.toNatClampNeg (μ 83 (x2 + (2 : Int32)).toNatClampNeg) := ⟨_, rfl⟩
    have h := h μ3 e3
    refine js_mem e3 ?_
    refine jr_iinc [some (.ref 82), none, some (.int (x2 + 1))] dX9_goes_44 rfl rfl rfl rfl rfl ?_
    refine jr_goto 16 dX9_goes_47 rfl ?_
    exact h

set_option maxRecDepth 100000 in
set_option maxHeartbeats 4000000 in
theorem sX9_spreadAt_0 {g : jm_G} {ad : Nat → Nat} {κ : jm_K} {P : Option Value → (Nat → Nat → Int32) → Prop} (hE : jE g ad m_X9_spreadAt P κ) {μ : Nat → Nat → Int32}  (p1 : Int32)
    (h : jS g ad m_X9_spreadAt κ 9 [some (.ref 82), some (.int p1), some (.int (99999 : Int32)), some (.int (-99999 : Int32)), some (.int (0 : Int32)), none] [] μ) :
    jS g ad m_X9_spreadAt κ 0 [some (.ref 82), some (.int p1), none, none, none, none] [] μ := by
  refine jr_ldc (99999 : Int32) dX9_spreadAt_0 jk_RX9_93 ?_
  refine jr_istore_n [some (.ref 82), some (.int p1), some (.int (99999 : Int32)), none, none, none] dX9_spreadAt_2 rfl rfl rfl ?_
  refine jr_ldc (-99999 : Int32) dX9_spreadAt_3 jk_RX9_94 ?_
  refine jr_istore_n [some (.ref 82), some (.int p1), some (.int (99999 : Int32)), some (.int (-99999 : Int32)), none, none] dX9_spreadAt_5 rfl rfl rfl ?_
  refine jr_iconst (0 : Int32) dX9_spreadAt_6 (by decide) ?_
  refine jr_istore [some (.ref 82), some (.int p1), some (.int (99999 : Int32)), some (.int (-99999 : Int32)), some (.int (0 : Int32)), none] dX9_spreadAt_7 rfl rfl rfl ?_
  exact h

set_option maxRecDepth 100000 in
set_option maxHeartbeats 4000000 in
theorem sX9_spreadAt_9 {g : jm_G} {ad : Nat → Nat} {κ : jm_K} {P : Option Value → (Nat → Nat → Int32) → Prop} (hE : jE g ad m_X9_spreadAt P κ) {μ : Nat → Nat → Int32}  (x1 : Int32) (x2 : Int32) (x3 : Int32) (x4 : Int32)
    (h : (((4 : Int32) ≤ x4 →
    P (some (.int (x3 - x2))) μ) ∧
    (¬ (4 : Int32) ≤ x4 →
    vp_in x4 4 ∧
    jD g ad m_X9_timeOf [.ref 82, .int (μ 96 x4.toNatClampNeg)] μ (fun v μ' => jS g ad m_X9_spreadAt κ 26 [some (.ref 82), some (.int x1), some (.int x2), some (.int x3), some (.int x4), none] (jm_ps v []) μ')))) :
    jS g ad m_X9_spreadAt κ 9 [some (.ref 82), some (.int x1), some (.int x2), some (.int x3), some (.int x4), none] [] μ := by
  refine jr_iload dX9_spreadAt_9 rfl ?_
  refine jr_iconst (4 : Int32) dX9_spreadAt_11 (by decide) ?_
  obtain ⟨hA, hB⟩ := h
  refine jr_icmp_ge 72 dX9_spreadAt_12 rfl (fun c => ?_) (fun c => ?_)
  · have h := hA c
    refine jr_iload_n dX9_spreadAt_72 rfl ?_
    refine jr_iload_n dX9_spreadAt_73 rfl ?_
    refine jr_isub dX9_spreadAt_74 ?_
    exact js_iret hE rfl dX9_spreadAt_75 rfl h
  · have h := hB c
    refine jr_aload_n dX9_spreadAt_15 rfl ?_
    refine jr_aload_n dX9_spreadAt_16 rfl ?_
    refine jr_get 9 17 jf_RX9_49 dX9_spreadAt_17 ga_82 rfl (.ref 96) rfl ?_
    refine jr_iload dX9_spreadAt_20 rfl ?_
    obtain ⟨o1, h⟩ := h
    refine jr_ialdn _ dX9_spreadAt_22 ga_96 o1 rfl ?_
    refine js_callV (st := []) [.int (μ 96 x4.toNatClampNeg)] jc_RX9_90 rfl dX9_spreadAt_23 ga_82 rfl rfl rfl rfl (kk := ?_)
    exact h

set_option maxRecDepth 100000 in
set_option maxHeartbeats 4000000 in
theorem sX9_spreadAt_26 {g : jm_G} {ad : Nat → Nat} {κ : jm_K} {P : Option Value → (Nat → Nat → Int32) → Prop} (hE : jE g ad m_X9_spreadAt P κ) {μ : Nat → Nat → Int32}  (x1 : Int32) (x2 : Int32) (x3 : Int32) (x4 : Int32) (r : Int32)
    (h : vp_in (((4 : Int32) * x1) + x4) 6724 ∧
    ((x2 ≤ (r - (μ 90 (((4 : Int32) * x1) + x4).toNatClampNeg)) →
    (((r - (μ 90 (((4 : Int32) * x1) + x4).toNatClampNeg)) ≤ x3 →
    jS g ad m_X9_spreadAt κ 9 [some (.ref 82), some (.int x1), some (.int x2), some (.int x3), some (.int (x4 + 1)), none] [] μ) ∧
    (¬ (r - (μ 90 (((4 : Int32) * x1) + x4).toNatClampNeg)) ≤ x3 →
    jS g ad m_X9_spreadAt κ 9 [some (.ref 82), some (.int x1), some (.int x2), some (.int (r - (μ 90 (((4 : Int32) * x1) + x4).toNatClampNeg))), some (.int (x4 + 1)), none] [] μ))) ∧
    (¬ x2 ≤ (r - (μ 90 (((4 : Int32) * x1) + x4).toNatClampNeg)) →
    (((r - (μ 90 (((4 : Int32) * x1) + x4).toNatClampNeg)) ≤ x3 →
    jS g ad m_X9_spreadAt κ 9 [some (.ref 82), some (.int x1), some (.int (r - (μ 90 (((4 : Int32) * x1) + x4).toNatClampNeg))), some (.int x3), some (.int (x4 + 1)), none] [] μ) ∧
    (¬ (r - (μ 90 (((4 : Int32) * x1) + x4).toNatClampNeg)) ≤ x3 →
    jS g ad m_X9_spreadAt κ 9 [some (.ref 82), some (.int x1), some (.int (r - (μ 90 (((4 : Int32) * x1) + x4).toNatClampNeg))), some (.int (r - (μ 90 (((4 : Int32) * x1) + x4).toNatClampNeg))), some (.int (x4 + 1)), none] [] μ))))) :
    jS g ad m_X9_spreadAt κ 26 [some (.ref 82), some (.int x1), some (.int x2), some (.int x3), some (.int x4), none] [.int r] μ := by
  refine jr_aload_n dX9_spreadAt_26 rfl ?_
  refine jr_get 9 9 jf_RX9_31 dX9_spreadAt_27 ga_82 rfl (.ref 90) rfl ?_
  refine jr_iconst (4 : Int32) dX9_spreadAt_30 (by decide) ?_
  refine jr_iload_n dX9_spreadAt_31 rfl ?_
  refine jr_imul dX9_spreadAt_32 ?_
  refine jr_iload dX9_spreadAt_33 rfl ?_
  refine jr_iadd dX9_spreadAt_35 ?_
  obtain ⟨o1, h⟩ := h
  refine jr_ialdn _ dX9_spreadAt_36 ga_90 o1 rfl ?_
  refine jr_isub dX9_spreadAt_37 ?_
  refine jr_istore [some (.ref 82), some (.int x1), some (.int x2), some (.int x3), some (.int x4), some (.int (r - (μ 90 (((4 : Int32) * x1) + x4).toNatClampNeg)))] dX9_spreadAt_38 rfl rfl rfl ?_
  refine jr_iload dX9_spreadAt_40 rfl ?_
  refine jr_iload_n dX9_spreadAt_42 rfl ?_
  obtain ⟨hA, hB⟩ := h
  refine jr_icmp_ge 51 dX9_spreadAt_43 rfl (fun c => ?_) (fun c => ?_)
  · have h := hA c
    refine jr_iload_n dX9_spreadAt_51 rfl ?_
    refine jr_istore_n [some (.ref 82), some (.int x1), some (.int x2), some (.int x3), some (.int x4), some (.int (r - (μ 90 (((4 : Int32) * x1) + x4).toNatClampNeg)))] dX9_spreadAt_52 rfl rfl rfl ?_
    refine jr_iload dX9_spreadAt_53 rfl ?_
    refine jr_iload_n dX9_spreadAt_55 rfl ?_
    obtain ⟨hA, hB⟩ := h
    refine jr_icmp_le 64 dX9_spreadAt_56 rfl (fun c => ?_) (fun c => ?_)
    · have h := hA c
      refine jr_iload_n dX9_spreadAt_64 rfl ?_
      refine jr_istore_n [some (.ref 82), some (.int x1), some (.int x2), some (.int x3), some (.int x4), some (.int (r - (μ 90 (((4 : Int32) * x1) + x4).toNatClampNeg)))] dX9_spreadAt_65 rfl rfl rfl ?_
      refine jr_iinc [some (.ref 82), some (.int x1), some (.int x2), some (.int x3), some (.int (x4 + 1)), some (.int (r - (μ 90 (((4 : Int32) * x1) + x4).toNatClampNeg)))] dX9_spreadAt_66 rfl rfl rfl rfl rfl ?_
      refine jr_goto 9 dX9_spreadAt_69 rfl ?_
      refine js_drop 5 [some (.ref 82), some (.int x1), some (.int x2), some (.int x3), some (.int (x4 + 1)), none] rfl ?_
      exact h
    · have h := hB c
      refine jr_iload dX9_spreadAt_59 rfl ?_
      refine jr_goto 65 dX9_spreadAt_61 rfl ?_
      refine jr_istore_n [some (.ref 82), some (.int x1), some (.int x2), some (.int (r - (μ 90 (((4 : Int32) * x1) + x4).toNatClampNeg))), some (.int x4), some (.int (r - (μ 90 (((4 : Int32) * x1) + x4).toNatClampNeg)))] dX9_spreadAt_65 rfl rfl rfl ?_
      refine jr_iinc [some (.ref 82), some (.int x1), some (.int x2), some (.int (r - (μ 90 (((4 : Int32) * x1) + x4).toNatClampNeg))), some (.int (x4 + 1)), some (.int (r - (μ 90 (((4 : Int32) * x1) + x4).toNatClampNeg)))] dX9_spreadAt_66 rfl rfl rfl rfl rfl ?_
      refine jr_goto 9 dX9_spreadAt_69 rfl ?_
      refine js_drop 5 [some (.ref 82), some (.int x1), some (.int x2), some (.int (r - (μ 90 (((4 : Int32) * x1) + x4).toNatClampNeg))), some (.int (x4 + 1)), none] rfl ?_
      exact h
  · have h := hB c
    refine jr_iload dX9_spreadAt_46 rfl ?_
    refine jr_goto 52 dX9_spreadAt_48 rfl ?_
    refine jr_istore_n [some (.ref 82), some (.int x1), some (.int (r - (μ 90 (((4 : Int32) * x1) + x4).toNatClampNeg))), some (.int x3), some (.int x4), some (.int (r - (μ 90 (((4 : Int32) * x1) + x4).toNatClampNeg)))] dX9_spreadAt_52 rfl rfl rfl ?_
    refine jr_iload dX9_spreadAt_53 rfl ?_
    refine jr_iload_n dX9_spreadAt_55 rfl ?_
    obtain ⟨hA, hB⟩ := h
    refine jr_icmp_le 64 dX9_spreadAt_56 rfl (fun c => ?_) (fun c => ?_)
    · have h := hA c
      refine jr_iload_n dX9_spreadAt_64 rfl ?_
      refine jr_istore_n [some (.ref 82), some (.int x1), some (.int (r - (μ 90 (((4 : Int32) * x1) + x4).toNatClampNeg))), some (.int x3), some (.int x4), some (.int (r - (μ 90 (((4 : Int32) * x1) + x4).toNatClampNeg)))] dX9_spreadAt_65 rfl rfl rfl ?_
      refine jr_iinc [some (.ref 82), some (.int x1), some (.int (r - (μ 90 (((4 : Int32) * x1) + x4).toNatClampNeg))), some (.int x3), some (.int (x4 + 1)), some (.int (r - (μ 90 (((4 : Int32) * x1) + x4).toNatClampNeg)))] dX9_spreadAt_66 rfl rfl rfl rfl rfl ?_
      refine jr_goto 9 dX9_spreadAt_69 rfl ?_
      refine js_drop 5 [some (.ref 82), some (.int x1), some (.int (r - (μ 90 (((4 : Int32) * x1) + x4).toNatClampNeg))), some (.int x3), some (.int (x4 + 1)), none] rfl ?_
      exact h
    · have h := hB c
      refine jr_iload dX9_spreadAt_59 rfl ?_
      refine jr_goto 65 dX9_spreadAt_61 rfl ?_
      refine jr_istore_n [some (.ref 82), some (.int x1), some (.int (r - (μ 90 (((4 : Int32) * x1) + x4).toNatClampNeg))), some (.int (r - (μ 90 (((4 : Int32) * x1) + x4).toNatClampNeg))), some (.int x4), some (.int (r - (μ 90 (((4 : Int32) * x1) + x4).toNatClampNeg)))] dX9_spreadAt_65 rfl rfl rfl ?_
      refine jr_iinc [some (.ref 82), some (.int x1), some (.int (r - (μ 90 (((4 : Int32) * x1) + x4).toNatClampNeg))), some (.int (r - (μ 90 (((4 : Int32) * x1) + x4).toNatClampNeg))), some (.int (x4 + 1)), some (.int (r - (μ 90 (((4 : Int32) * x1) + x4).toNatClampNeg)))] dX9_spreadAt_66 rfl rfl rfl rfl rfl ?_
      refine jr_goto 9 dX9_spreadAt_69 rfl ?_
      refine js_drop 5 [some (.ref 82), some (.int x1), some (.int (r - (μ 90 (((4 : Int32) * x1) + x4).toNatClampNeg))), some (.int (r - (μ 90 (((4 : Int32) * x1) + x4).toNatClampNeg))), some (.int (x4 + 1)), none] rfl ?_
      exact h

set_option maxRecDepth 100000 in
set_option maxHeartbeats 4000000 in
theorem sX9_momentAt_0 {g : jm_G} {ad : Nat → Nat} {κ : jm_K} {P : Option Value → (Nat → Nat → Int32) → Prop} (hE : jE g ad m_X9_momentAt P κ) {μ : Nat → Nat → Int32}  (p1 : Int32)
    (h : jS g ad m_X9_momentAt κ 5 [some (.ref 82), some (.int p1), some (.int (99999 : Int32)), some (.int (0 : Int32)), none] [] μ) :
    jS g ad m_X9_momentAt κ 0 [some (.ref 82), some (.int p1), none, none, none] [] μ := by
  refine jr_ldc (99999 : Int32) dX9_momentAt_0 jk_RX9_93 ?_
  refine jr_istore_n [some (.ref 82), some (.int p1), some (.int (99999 : Int32)), none, none] dX9_momentAt_2 rfl rfl rfl ?_
  refine jr_iconst (0 : Int32) dX9_momentAt_3 (by decide) ?_
  refine jr_istore_n [some (.ref 82), some (.int p1), some (.int (99999 : Int32)), some (.int (0 : Int32)), none] dX9_momentAt_4 rfl rfl rfl ?_
  exact h

set_option maxRecDepth 100000 in
set_option maxHeartbeats 4000000 in
theorem sX9_momentAt_5 {g : jm_G} {ad : Nat → Nat} {κ : jm_K} {P : Option Value → (Nat → Nat → Int32) → Prop} (hE : jE g ad m_X9_momentAt P κ) {μ : Nat → Nat → Int32}  (x1 : Int32) (x2 : Int32) (x3 : Int32)
    (h : (((4 : Int32) ≤ x3 →
    P (some (.int x2)) μ) ∧
    (¬ (4 : Int32) ≤ x3 →
    vp_in x3 4 ∧
    jD g ad m_X9_timeOf [.ref 82, .int (μ 96 x3.toNatClampNeg)] μ (fun v μ' => jS g ad m_X9_momentAt κ 20 [some (.ref 82), some (.int x1), some (.int x2), some (.int x3), none] (jm_ps v []) μ')))) :
    jS g ad m_X9_momentAt κ 5 [some (.ref 82), some (.int x1), some (.int x2), some (.int x3), none] [] μ := by
  refine jr_iload_n dX9_momentAt_5 rfl ?_
  refine jr_iconst (4 : Int32) dX9_momentAt_6 (by decide) ?_
  obtain ⟨hA, hB⟩ := h
  refine jr_icmp_ge 52 dX9_momentAt_7 rfl (fun c => ?_) (fun c => ?_)
  · have h := hA c
    refine jr_iload_n dX9_momentAt_52 rfl ?_
    exact js_iret hE rfl dX9_momentAt_53 rfl h
  · have h := hB c
    refine jr_aload_n dX9_momentAt_10 rfl ?_
    refine jr_aload_n dX9_momentAt_11 rfl ?_
    refine jr_get 9 17 jf_RX9_49 dX9_momentAt_12 ga_82 rfl (.ref 96) rfl ?_
    refine jr_iload_n dX9_momentAt_15 rfl ?_
    obtain ⟨o1, h⟩ := h
    refine jr_ialdn _ dX9_momentAt_16 ga_96 o1 rfl ?_
    refine js_callV (st := []) [.int (μ 96 x3.toNatClampNeg)] jc_RX9_90 rfl dX9_momentAt_17 ga_82 rfl rfl rfl rfl (kk := ?_)
    exact h

set_option maxRecDepth 100000 in
set_option maxHeartbeats 4000000 in
theorem sX9_momentAt_20 {g : jm_G} {ad : Nat → Nat} {κ : jm_K} {P : Option Value → (Nat → Nat → Int32) → Prop} (hE : jE g ad m_X9_momentAt P κ) {μ : Nat → Nat → Int32}  (x1 : Int32) (x2 : Int32) (x3 : Int32) (r : Int32)
    (h : vp_in (((4 : Int32) * x1) + x3) 6724 ∧
    ((x2 ≤ (r - (μ 90 (((4 : Int32) * x1) + x3).toNatClampNeg)) →
    jS g ad m_X9_momentAt κ 5 [some (.ref 82), some (.int x1), some (.int x2), some (.int (x3 + 1)), none] [] μ) ∧
    (¬ x2 ≤ (r - (μ 90 (((4 : Int32) * x1) + x3).toNatClampNeg)) →
    jS g ad m_X9_momentAt κ 5 [some (.ref 82), some (.int x1), some (.int (r - (μ 90 (((4 : Int32) * x1) + x3).toNatClampNeg))), some (.int (x3 + 1)), none] [] μ))) :
    jS g ad m_X9_momentAt κ 20 [some (.ref 82), some (.int x1), some (.int x2), some (.int x3), none] [.int r] μ := by
  refine jr_aload_n dX9_momentAt_20 rfl ?_
  refine jr_get 9 9 jf_RX9_31 dX9_momentAt_21 ga_82 rfl (.ref 90) rfl ?_
  refine jr_iconst (4 : Int32) dX9_momentAt_24 (by decide) ?_
  refine jr_iload_n dX9_momentAt_25 rfl ?_
  refine jr_imul dX9_momentAt_26 ?_
  refine jr_iload_n dX9_momentAt_27 rfl ?_
  refine jr_iadd dX9_momentAt_28 ?_
  obtain ⟨o1, h⟩ := h
  refine jr_ialdn _ dX9_momentAt_29 ga_90 o1 rfl ?_
  refine jr_isub dX9_momentAt_30 ?_
  refine jr_istore [some (.ref 82), some (.int x1), some (.int x2), some (.int x3), some (.int (r - (μ 90 (((4 : Int32) * x1) + x3).toNatClampNeg)))] dX9_momentAt_31 rfl rfl rfl ?_
  refine jr_iload dX9_momentAt_33 rfl ?_
  refine jr_iload_n dX9_momentAt_35 rfl ?_
  obtain ⟨hA, hB⟩ := h
  refine jr_icmp_ge 44 dX9_momentAt_36 rfl (fun c => ?_) (fun c => ?_)
  · have h := hA c
    refine jr_iload_n dX9_momentAt_44 rfl ?_
    refine jr_istore_n [some (.ref 82), some (.int x1), some (.int x2), some (.int x3), some (.int (r - (μ 90 (((4 : Int32) * x1) + x3).toNatClampNeg)))] dX9_momentAt_45 rfl rfl rfl ?_
    refine jr_iinc [some (.ref 82), some (.int x1), some (.int x2), some (.int (x3 + 1)), some (.int (r - (μ 90 (((4 : Int32) * x1) + x3).toNatClampNeg)))] dX9_momentAt_46 rfl rfl rfl rfl rfl ?_
    refine jr_goto 5 dX9_momentAt_49 rfl ?_
    refine js_drop 4 [some (.ref 82), some (.int x1), some (.int x2), some (.int (x3 + 1)), none] rfl ?_
    exact h
  · have h := hB c
    refine jr_iload dX9_momentAt_39 rfl ?_
    refine jr_goto 45 dX9_momentAt_41 rfl ?_
    refine jr_istore_n [some (.ref 82), some (.int x1), some (.int (r - (μ 90 (((4 : Int32) * x1) + x3).toNatClampNeg))), some (.int x3), some (.int (r - (μ 90 (((4 : Int32) * x1) + x3).toNatClampNeg)))] dX9_momentAt_45 rfl rfl rfl ?_
    refine jr_iinc [some (.ref 82), some (.int x1), some (.int (r - (μ 90 (((4 : Int32) * x1) + x3).toNatClampNeg))), some (.int (x3 + 1)), some (.int (r - (μ 90 (((4 : Int32) * x1) + x3).toNatClampNeg)))] dX9_momentAt_46 rfl rfl rfl rfl rfl ?_
    refine jr_goto 5 dX9_momentAt_49 rfl ?_
    refine js_drop 4 [some (.ref 82), some (.int x1), some (.int (r - (μ 90 (((4 : Int32) * x1) + x3).toNatClampNeg))), some (.int (x3 + 1)), none] rfl ?_
    exact h

set_option maxRecDepth 100000 in
set_option maxHeartbeats 4000000 in
theorem sX9_findPlace_0 {g : jm_G} {ad : Nat → Nat} {κ : jm_K} {P : Option Value → (Nat → Nat → Int32) → Prop} (hE : jE g ad m_X9_findPlace P κ) {μ : Nat → Nat → Int32}  
    (h : (∀ μ1 : Nat → Nat → Int32, μ1 = jm_st μ 82 22 (0 : Int32) →
    jD g ad m_X9_spreadAt [.ref 82, .int (0 : Int32)] μ1 (fun v μ' => jS g ad m_X9_findPlace κ 11 [some (.ref 82), none, none] (jm_ps v [.ref 82]) μ'))) :
    jS g ad m_X9_findPlace κ 0 [some (.ref 82), none, none] [] μ := by
  refine jr_aload_n dX9_findPlace_0 rfl ?_
  refine jr_iconst (0 : Int32) dX9_findPlace_1 (by decide) ?_
  refine jr_putI 9 22 jf_RX9_95 dX9_findPlace_2 ga_82 rfl ?_
  obtain ⟨μ1, e1⟩ : ∃ x : Nat → Nat → Int32, x = jm_st μ 82 22 (0 : Int32) := ⟨_, rfl⟩
  have h := h μ1 e1
  refine js_mem e1 ?_
  refine jr_aload_n dX9_findPlace_5 rfl ?_
  refine jr_aload_n dX9_findPlace_6 rfl ?_
  refine jr_iconst (0 : Int32) dX9_findPlace_7 (by decide) ?_
  refine js_callV (st := [.ref 82]) [.int (0 : Int32)] jc_RX9_98 rfl dX9_findPlace_8 ga_82 rfl rfl rfl rfl (kk := ?_)
  exact h

set_option maxRecDepth 100000 in
set_option maxHeartbeats 4000000 in
theorem sX9_findPlace_11 {g : jm_G} {ad : Nat → Nat} {κ : jm_K} {P : Option Value → (Nat → Nat → Int32) → Prop} (hE : jE g ad m_X9_findPlace P κ) {μ : Nat → Nat → Int32}  (r : Int32)
    (h : (∀ μ1 : Nat → Nat → Int32, μ1 = jm_st μ 82 23 r →
    jS g ad m_X9_findPlace κ 16 [some (.ref 82), some (.int (1 : Int32)), none] [] μ1)) :
    jS g ad m_X9_findPlace κ 11 [some (.ref 82), none, none] [.int r, .ref 82] μ := by
  refine jr_putI 9 23 jf_RX9_101 dX9_findPlace_11 ga_82 rfl ?_
  obtain ⟨μ1, e1⟩ : ∃ x : Nat → Nat → Int32, x = jm_st μ 82 23 r := ⟨_, rfl⟩
  have h := h μ1 e1
  refine js_mem e1 ?_
  refine jr_iconst (1 : Int32) dX9_findPlace_14 (by decide) ?_
  refine jr_istore_n [some (.ref 82), some (.int (1 : Int32)), none] dX9_findPlace_15 rfl rfl rfl ?_
  exact h

set_option maxRecDepth 100000 in
set_option maxHeartbeats 4000000 in
theorem sX9_findPlace_16 {g : jm_G} {ad : Nat → Nat} {κ : jm_K} {P : Option Value → (Nat → Nat → Int32) → Prop} (hE : jE g ad m_X9_findPlace P κ) {μ : Nat → Nat → Int32}  (x1 : Int32)
    (h : (((1681 : Int32) ≤ x1 →
    P none μ) ∧
    (¬ (1681 : Int32) ≤ x1 →
    jD g ad m_X9_spreadAt [.ref 82, .int x1] μ (fun v μ' => jS g ad m_X9_findPlace κ 28 [some (.ref 82), some (.int x1), none] (jm_ps v []) μ')))) :
    jS g ad m_X9_findPlace κ 16 [some (.ref 82), some (.int x1), none] [] μ := by
  refine jr_iload_n dX9_findPlace_16 rfl ?_
  refine jr_sipush (1681 : Int32) dX9_findPlace_17 (by decide) ?_
  obtain ⟨hA, hB⟩ := h
  refine jr_icmp_ge 75 dX9_findPlace_20 rfl (fun c => ?_) (fun c => ?_)
  · have h := hA c
    exact js_vret hE rfl dX9_findPlace_75 rfl h
  · have h := hB c
    refine jr_aload_n dX9_findPlace_23 rfl ?_
    refine jr_iload_n dX9_findPlace_24 rfl ?_
    refine js_callV (st := []) [.int x1] jc_RX9_98 rfl dX9_findPlace_25 ga_82 rfl rfl rfl rfl (kk := ?_)
    exact h

set_option maxRecDepth 100000 in
set_option maxHeartbeats 4000000 in
theorem sX9_findPlace_28 {g : jm_G} {ad : Nat → Nat} {κ : jm_K} {P : Option Value → (Nat → Nat → Int32) → Prop} (hE : jE g ad m_X9_findPlace P κ) {μ : Nat → Nat → Int32}  (x1 : Int32) (r : Int32)
    (h : (((μ 82 23) ≤ r →
    (∀ μ1 : Nat → Nat → Int32, μ1 = jm_st μ 82 22 (μ 82 22) →
    (((μ1 82 23) ≤ r →
    (∀ μ2 : Nat → Nat → Int32, μ2 = jm_st μ1 82 23 (μ1 82 23) →
    jS g ad m_X9_findPlace κ 16 [some (.ref 82), some (.int (x1 + 1)), none] [] μ2)) ∧
    (¬ (μ1 82 23) ≤ r →
    (∀ μ3 : Nat → Nat → Int32, μ3 = jm_st μ1 82 23 r →
    jS g ad m_X9_findPlace κ 16 [some (.ref 82), some (.int (x1 + 1)), none] [] μ3))))) ∧
    (¬ (μ 82 23) ≤ r →
    (∀ μ4 : Nat → Nat → Int32, μ4 = jm_st μ 82 22 x1 →
    (((μ4 82 23) ≤ r →
    (∀ μ5 : Nat → Nat → Int32, μ5 = jm_st μ4 82 23 (μ4 82 23) →
    jS g ad m_X9_findPlace κ 16 [some (.ref 82), some (.int (x1 + 1)), none] [] μ5)) ∧
    (¬ (μ4 82 23) ≤ r →
    (∀ μ6 : Nat → Nat → Int32, μ6 = jm_st μ4 82 23 r →
    jS g ad m_X9_findPlace κ 16 [some (.ref 82), some (.int (x1 + 1)), none] [] μ6))))))) :
    jS g ad m_X9_findPlace κ 28 [some (.ref 82), some (.int x1), none] [.int r] μ := by
  refine jr_istore_n [some (.ref 82), some (.int x1), some (.int r)] dX9_findPlace_28 rfl rfl rfl ?_
  refine jr_aload_n dX9_findPlace_29 rfl ?_
  refine jr_iload_n dX9_findPlace_30 rfl ?_
  refine jr_aload_n dX9_findPlace_31 rfl ?_
  refine jr_get 9 23 jf_RX9_101 dX9_findPlace_32 ga_82 rfl (.int (μ 82 23)) rfl ?_
  obtain ⟨hA, hB⟩ := h
  refine jr_icmp_ge 42 dX9_findPlace_35 rfl (fun c => ?_) (fun c => ?_)
  · have h := hA c
    refine jr_aload_n dX9_findPlace_42 rfl ?_
    refine jr_get 9 22 jf_RX9_95 dX9_findPlace_43 ga_82 rfl (.int (μ 82 22)) rfl ?_
    refine jr_putI 9 22 jf_RX9_95 dX9_findPlace_46 ga_82 rfl ?_
    obtain ⟨μ1, e1⟩ : ∃ x : Nat → Nat → Int32, x = jm_st μ 82 22 (μ 82 22) := ⟨_, rfl⟩
    have h := h μ1 e1
    refine js_mem e1 ?_
    refine jr_aload_n dX9_findPlace_49 rfl ?_
    refine jr_iload_n dX9_findPlace_50 rfl ?_
    refine jr_aload_n dX9_findPlace_51 rfl ?_
    refine jr_get 9 23 jf_RX9_101 dX9_findPlace_52 ga_82 rfl (.int (μ1 82 23)) rfl ?_
    obtain ⟨hA, hB⟩ := h
    refine jr_icmp_ge 62 dX9_findPlace_55 rfl (fun c => ?_) (fun c => ?_)
    · have h := hA c
      refine jr_aload_n dX9_findPlace_62 rfl ?_
      refine jr_get 9 23 jf_RX9_101 dX9_findPlace_63 ga_82 rfl (.int (μ1 82 23)) rfl ?_
      refine jr_putI 9 23 jf_RX9_101 dX9_findPlace_66 ga_82 rfl ?_
      obtain ⟨μ2, e2⟩ : ∃ x : Nat → Nat → Int32, x = jm_st μ1 82 23 (μ1 82 23) := ⟨_, rfl⟩
      have h := h μ2 e2
      refine js_mem e2 ?_
      refine jr_iinc [some (.ref 82), some (.int (x1 + 1)), some (.int r)] dX9_findPlace_69 rfl rfl rfl rfl rfl ?_
      refine jr_goto 16 dX9_findPlace_72 rfl ?_
      refine js_drop 2 [some (.ref 82), some (.int (x1 + 1)), none] rfl ?_
      exact h
    · have h := hB c
      refine jr_iload_n dX9_findPlace_58 rfl ?_
      refine jr_goto 66 dX9_findPlace_59 rfl ?_
      refine jr_putI 9 23 jf_RX9_101 dX9_findPlace_66 ga_82 rfl ?_
      obtain ⟨μ3, e3⟩ : ∃ x : Nat → Nat → Int32, x = jm_st μ1 82 23 r := ⟨_, rfl⟩
      have h := h μ3 e3
      refine js_mem e3 ?_
      refine jr_iinc [some (.ref 82), some (.int (x1 + 1)), some (.int r)] dX9_findPlace_69 rfl rfl rfl rfl rfl ?_
      refine jr_goto 16 dX9_findPlace_72 rfl ?_
      refine js_drop 2 [some (.ref 82), some (.int (x1 + 1)), none] rfl ?_
      exact h
  · have h := hB c
    refine jr_iload_n dX9_findPlace_38 rfl ?_
    refine jr_goto 46 dX9_findPlace_39 rfl ?_
    refine jr_putI 9 22 jf_RX9_95 dX9_findPlace_46 ga_82 rfl ?_
    obtain ⟨μ4, e4⟩ : ∃ x : Nat → Nat → Int32, x = jm_st μ 82 22 x1 := ⟨_, rfl⟩
    have h := h μ4 e4
    refine js_mem e4 ?_
    refine jr_aload_n dX9_findPlace_49 rfl ?_
    refine jr_iload_n dX9_findPlace_50 rfl ?_
    refine jr_aload_n dX9_findPlace_51 rfl ?_
    refine jr_get 9 23 jf_RX9_101 dX9_findPlace_52 ga_82 rfl (.int (μ4 82 23)) rfl ?_
    obtain ⟨hA, hB⟩ := h
    refine jr_icmp_ge 62 dX9_findPlace_55 rfl (fun c => ?_) (fun c => ?_)
    · have h := hA c
      refine jr_aload_n dX9_findPlace_62 rfl ?_
      refine jr_get 9 23 jf_RX9_101 dX9_findPlace_63 ga_82 rfl (.int (μ4 82 23)) rfl ?_
      refine jr_putI 9 23 jf_RX9_101 dX9_findPlace_66 ga_82 rfl ?_
      obtain ⟨μ5, e5⟩ : ∃ x : Nat → Nat → Int32, x = jm_st μ4 82 23 (μ4 82 23) := ⟨_, rfl⟩
      have h := h μ5 e5
      refine js_mem e5 ?_
      refine jr_iinc [some (.ref 82), some (.int (x1 + 1)), some (.int r)] dX9_findPlace_69 rfl rfl rfl rfl rfl ?_
      refine jr_goto 16 dX9_findPlace_72 rfl ?_
      refine js_drop 2 [some (.ref 82), some (.int (x1 + 1)), none] rfl ?_
      exact h
    · have h := hB c
      refine jr_iload_n dX9_findPlace_58 rfl ?_
      refine jr_goto 66 dX9_findPlace_59 rfl ?_
      refine jr_putI 9 23 jf_RX9_101 dX9_findPlace_66 ga_82 rfl ?_
      obtain ⟨μ6, e6⟩ : ∃ x : Nat → Nat → Int32, x = jm_st μ4 82 23 r := ⟨_, rfl⟩
      have h := h μ6 e6
      refine js_mem e6 ?_
      refine jr_iinc [some (.ref 82), some (.int (x1 + 1)), some (.int r)] dX9_findPlace_69 rfl rfl rfl rfl rfl ?_
      refine jr_goto 16 dX9_findPlace_72 rfl ?_
      refine js_drop 2 [some (.ref 82), some (.int (x1 + 1)), none] rfl ?_
      exact h

set_option maxRecDepth 100000 in
set_option maxHeartbeats 4000000 in
theorem sX9_findCandidates_0 {g : jm_G} {ad : Nat → Nat} {κ : jm_K} {P : Option Value → (Nat → Nat → Int32) → Prop} (hE : jE g ad m_X9_findCandidates P κ) {μ : Nat → Nat → Int32}  (p1 : Int32)
    (h : jS g ad m_X9_findCandidates κ 4 [some (.ref 82), some (.int p1), some (.int (1 : Int32)), some (.int (0 : Int32)), none, none, none] [] μ) :
    jS g ad m_X9_findCandidates κ 0 [some (.ref 82), some (.int p1), none, none, none, none, none] [] μ := by
  refine jr_iconst (1 : Int32) dX9_findCandidates_0 (by decide) ?_
  refine jr_istore_n [some (.ref 82), some (.int p1), some (.int (1 : Int32)), none, none, none, none] dX9_findCandidates_1 rfl rfl rfl ?_
  refine jr_iconst (0 : Int32) dX9_findCandidates_2 (by decide) ?_
  refine jr_istore_n [some (.ref 82), some (.int p1), some (.int (1 : Int32)), some (.int (0 : Int32)), none, none, none] dX9_findCandidates_3 rfl rfl rfl ?_
  exact h

set_option maxRecDepth 100000 in
set_option maxHeartbeats 4000000 in
theorem sX9_findCandidates_4 {g : jm_G} {ad : Nat → Nat} {κ : jm_K} {P : Option Value → (Nat → Nat → Int32) → Prop} (hE : jE g ad m_X9_findCandidates P κ) {μ : Nat → Nat → Int32}  (x1 : Int32) (x2 : Int32) (x3 : Int32)
    (h : (((4 : Int32) ≤ x3 →
    jD g ad m_X9_earOf [.ref 82, .int x1] μ (fun v μ' => jS g ad m_X9_findCandidates κ 185 [some (.ref 82), some (.int x1), some (.int x2), none, none, none, none] (jm_ps v [.int (2 : Int32), .ref 97]) μ')) ∧
    (¬ (4 : Int32) ≤ x3 →
    vp_in ((2 : Int32) * x3) 8 ∧
    (∀ μ2 : Nat → Nat → Int32, μ2 = jm_st μ 97 ((2 : Int32) * x3).toNatClampNeg (-6 : Int32) →
    vp_in (((2 : Int32) * x3) + (1 : Int32)) 8 ∧
    (∀ μ4 : Nat → Nat → Int32, μ4 = jm_st μ2 97 (((2 : Int32) * x3) + (1 : Int32)).toNatClampNeg (-6 : Int32) →
    jS g ad m_X9_findCandidates κ 37 [some (.ref 82), some (.int x1), some (.int x2), some (.int x3), some (.int (0 : Int32)), some (.int (0 : Int32)), none] [] μ4))))) :
    jS g ad m_X9_findCandidates κ 4 [some (.ref 82), some (.int x1), some (.int x2), some (.int x3), none, none, none] [] μ := by
  refine jr_iload_n dX9_findCandidates_4 rfl ?_
  refine jr_iconst (4 : Int32) dX9_findCandidates_5 (by decide) ?_
  obtain ⟨hA, hB⟩ := h
  refine jr_icmp_ge 175 dX9_findCandidates_6 rfl (fun c => ?_) (fun c => ?_)
  · have h := hA c
    refine jr_aload_n dX9_findCandidates_175 rfl ?_
    refine jr_get 9 18 jf_RX9_52 dX9_findCandidates_176 ga_82 rfl (.ref 97) rfl ?_
    refine jr_iconst (2 : Int32) dX9_findCandidates_179 (by decide) ?_
    refine jr_aload_n dX9_findCandidates_180 rfl ?_
    refine jr_iload_n dX9_findCandidates_181 rfl ?_
    refine js_drop 3 [some (.ref 82), some (.int x1), some (.int x2), none, none, none, none] rfl ?_
    refine js_callV (st := [.int (2 : Int32), .ref 97]) [.int x1] jc_RX9_87 rfl dX9_findCandidates_182 ga_82 rfl rfl rfl rfl (kk := ?_)
    exact h
  · have h := hB c
    refine jr_iconst (0 : Int32) dX9_findCandidates_9 (by decide) ?_
    refine jr_istore [some (.ref 82), some (.int x1), some (.int x2), some (.int x3), some (.int (0 : Int32)), none, none] dX9_findCandidates_10 rfl rfl rfl ?_
    refine jr_aload_n dX9_findCandidates_12 rfl ?_
    refine jr_get 9 18 jf_RX9_52 dX9_findCandidates_13 ga_82 rfl (.ref 97) rfl ?_
    refine jr_iconst (2 : Int32) dX9_findCandidates_16 (by decide) ?_
    refine jr_iload_n dX9_findCandidates_17 rfl ?_
    refine jr_imul dX9_findCandidates_18 ?_
    refine jr_bipush (-6 : Int32) dX9_findCandidates_19 (by decide) ?_
    obtain ⟨o1, h⟩ := h
    refine jr_iastn _ dX9_findCandidates_21 ga_97 o1 rfl ?_
    obtain ⟨μ2, e2⟩ : ∃ x : Nat → Nat → Int32, x = jm_st μ 97 ((2 : Int32) * x3).toNatClampNeg (-6 : Int32) := ⟨_, rfl⟩
    have h := h μ2 e2
    refine js_mem e2 ?_
    refine jr_aload_n dX9_findCandidates_22 rfl ?_
    refine jr_get 9 18 jf_RX9_52 dX9_findCandidates_23 ga_82 rfl (.ref 97) rfl ?_
    refine jr_iconst (2 : Int32) dX9_findCandidates_26 (by decide) ?_
    refine jr_iload_n dX9_findCandidates_27 rfl ?_
    refine jr_imul dX9_findCandidates_28 ?_
    refine jr_iconst (1 : Int32) dX9_findCandidates_29 (by decide) ?_
    refine jr_iadd dX9_findCandidates_30 ?_
    refine jr_bipush (-6 : Int32) dX9_findCandidates_31 (by decide) ?_
    obtain ⟨o3, h⟩ := h
    refine jr_iastn _ dX9_findCandidates_33 ga_97 o3 rfl ?_
    obtain ⟨μ4, e4⟩ : ∃ x : Nat → Nat → Int32, x = jm_st μ2 97 (((2 : Int32) * x3) + (1 : Int32)).toNatClampNeg (-6 : Int32) := ⟨_, rfl⟩
    have h := h μ4 e4
    refine js_mem e4 ?_
    refine jr_iconst (0 : Int32) dX9_findCandidates_34 (by decide) ?_
    refine jr_istore [some (.ref 82), some (.int x1), some (.int x2), some (.int x3), some (.int (0 : Int32)), some (.int (0 : Int32)), none] dX9_findCandidates_35 rfl rfl rfl ?_
    exact h

set_option maxRecDepth 100000 in
set_option maxHeartbeats 4000000 in
theorem sX9_findCandidates_185 {g : jm_G} {ad : Nat → Nat} {κ : jm_K} {P : Option Value → (Nat → Nat → Int32) → Prop} (hE : jE g ad m_X9_findCandidates P κ) {μ : Nat → Nat → Int32}  (x1 : Int32) (x2 : Int32) (r : Int32) (y1 : Int32)
    (h : vp_in (y1 * r) 8 ∧
    (∀ μ2 : Nat → Nat → Int32, μ2 = jm_st μ 97 (y1 * r).toNatClampNeg x1 →
    jD g ad m_X9_earOf [.ref 82, .int x1] μ2 (fun v μ' => jS g ad m_X9_findCandidates κ 198 [none, none, some (.int x2), none, none, none, none] (jm_ps v [.int (2 : Int32), .ref 97]) μ'))) :
    jS g ad m_X9_findCandidates κ 185 [some (.ref 82), some (.int x1), some (.int x2), none, none, none, none] [.int r, .int y1, .ref 97] μ := by
  refine jr_imul dX9_findCandidates_185 ?_
  refine jr_iload_n dX9_findCandidates_186 rfl ?_
  obtain ⟨o1, h⟩ := h
  refine jr_iastn _ dX9_findCandidates_187 ga_97 o1 rfl ?_
  obtain ⟨μ2, e2⟩ : ∃ x : Nat → Nat → Int32, x = jm_st μ 97 (y1 * r).toNatClampNeg x1 := ⟨_, rfl⟩
  have h := h μ2 e2
  refine js_mem e2 ?_
  refine jr_aload_n dX9_findCandidates_188 rfl ?_
  refine jr_get 9 18 jf_RX9_52 dX9_findCandidates_189 ga_82 rfl (.ref 97) rfl ?_
  refine jr_iconst (2 : Int32) dX9_findCandidates_192 (by decide) ?_
  refine jr_aload_n dX9_findCandidates_193 rfl ?_
  refine jr_iload_n dX9_findCandidates_194 rfl ?_
  refine js_drop 0 [none, some (.int x1), some (.int x2), none, none, none, none] rfl ?_
  refine js_drop 1 [none, none, some (.int x2), none, none, none, none] rfl ?_
  refine js_callV (st := [.int (2 : Int32), .ref 97]) [.int x1] jc_RX9_87 rfl dX9_findCandidates_195 ga_82 rfl rfl rfl rfl (kk := ?_)
  exact h

set_option maxRecDepth 100000 in
set_option maxHeartbeats 4000000 in
theorem sX9_findCandidates_37 {g : jm_G} {ad : Nat → Nat} {κ : jm_K} {P : Option Value → (Nat → Nat → Int32) → Prop} (hE : jE g ad m_X9_findCandidates P κ) {μ : Nat → Nat → Int32}  (x1 : Int32) (x2 : Int32) (x3 : Int32) (x4 : Int32) (x5 : Int32)
    (h : (((μ 83 3) ≤ x5 →
    ((x2 = 0 →
    jS g ad m_X9_findCandidates κ 4 [some (.ref 82), some (.int x1), some (.int (0 : Int32)), some (.int (x3 + 1)), none, none, none] [] μ) ∧
    (¬ x2 = 0 →
    jD g ad m_X9_earOf [.ref 82, .int x1] μ (fun v μ' => jS g ad m_X9_findCandidates κ 155 [some (.ref 82), some (.int x1), none, some (.int x3), some (.int x4), none, none] (jm_ps v [.int x3]) μ')))) ∧
    (¬ (μ 83 3) ≤ x5 →
    (((2 : Int32) ≤ x4 →
    ((x2 = 0 →
    jS g ad m_X9_findCandidates κ 4 [some (.ref 82), some (.int x1), some (.int (0 : Int32)), some (.int (x3 + 1)), none, none, none] [] μ) ∧
    (¬ x2 = 0 →
    jD g ad m_X9_earOf [.ref 82, .int x1] μ (fun v μ' => jS g ad m_X9_findCandidates κ 155 [some (.ref 82), some (.int x1), none, some (.int x3), some (.int x4), none, none] (jm_ps v [.int x3]) μ')))) ∧
    (¬ (2 : Int32) ≤ x4 →
    jD g ad m_X9_earOf [.ref 82, .int x5] μ (fun v μ' => jS g ad m_X9_findCandidates κ 60 [some (.ref 82), some (.int x1), some (.int x2), some (.int x3), some (.int x4), some (.int x5), none] (jm_ps v []) μ')))))) :
    jS g ad m_X9_findCandidates κ 37 [some (.ref 82), some (.int x1), some (.int x2), some (.int x3), some (.int x4), some (.int x5), none] [] μ := by
  refine jr_iload dX9_findCandidates_37 rfl ?_
  refine jr_aload_n dX9_findCandidates_39 rfl ?_
  refine jr_get 9 0 jf_RX9_7 dX9_findCandidates_40 ga_82 rfl (.ref 83) rfl ?_
  refine jr_iconst (3 : Int32) dX9_findCandidates_43 (by decide) ?_
  refine jr_ialdn 3 dX9_findCandidates_44 ga_83 (jm_inD (by decide)) rfl ?_
  obtain ⟨hA, hB⟩ := h
  refine jr_icmp_ge 145 dX9_findCandidates_45 rfl (fun c => ?_) (fun c => ?_)
  · have h := hA c
    refine jr_iload_n dX9_findCandidates_145 rfl ?_
    obtain ⟨hA, hB⟩ := h
    refine jr_if_eq 167 dX9_findCandidates_146 rfl (fun c => ?_) (fun c => ?_)
    · have h := hA c
      refine jr_iconst (0 : Int32) dX9_findCandidates_167 (by decide) ?_
      refine jr_istore_n [some (.ref 82), some (.int x1), some (.int (0 : Int32)), some (.int x3), some (.int x4), some (.int x5), none] dX9_findCandidates_168 rfl rfl rfl ?_
      refine jr_iinc [some (.ref 82), some (.int x1), some (.int (0 : Int32)), some (.int (x3 + 1)), some (.int x4), some (.int x5), none] dX9_findCandidates_169 rfl rfl rfl rfl rfl ?_
      refine jr_goto 4 dX9_findCandidates_172 rfl ?_
      refine js_drop 4 [some (.ref 82), some (.int x1), some (.int (0 : Int32)), some (.int (x3 + 1)), none, some (.int x5), none] rfl ?_
      refine js_drop 5 [some (.ref 82), some (.int x1), some (.int (0 : Int32)), some (.int (x3 + 1)), none, none, none] rfl ?_
      exact h
    · have h := hB c
      refine jr_iload_n dX9_findCandidates_149 rfl ?_
      refine jr_aload_n dX9_findCandidates_150 rfl ?_
      refine jr_iload_n dX9_findCandidates_151 rfl ?_
      refine js_drop 2 [some (.ref 82), some (.int x1), none, some (.int x3), some (.int x4), some (.int x5), none] rfl ?_
      refine js_drop 5 [some (.ref 82), some (.int x1), none, some (.int x3), some (.int x4), none, none] rfl ?_
      refine js_callV (st := [.int x3]) [.int x1] jc_RX9_87 rfl dX9_findCandidates_152 ga_82 rfl rfl rfl rfl (kk := ?_)
      exact h
  · have h := hB c
    refine jr_iload dX9_findCandidates_48 rfl ?_
    refine jr_iconst (2 : Int32) dX9_findCandidates_50 (by decide) ?_
    obtain ⟨hA, hB⟩ := h
    refine jr_icmp_ge 145 dX9_findCandidates_51 rfl (fun c => ?_) (fun c => ?_)
    · have h := hA c
      refine jr_iload_n dX9_findCandidates_145 rfl ?_
      obtain ⟨hA, hB⟩ := h
      refine jr_if_eq 167 dX9_findCandidates_146 rfl (fun c => ?_) (fun c => ?_)
      · have h := hA c
        refine jr_iconst (0 : Int32) dX9_findCandidates_167 (by decide) ?_
        refine jr_istore_n [some (.ref 82), some (.int x1), some (.int (0 : Int32)), some (.int x3), some (.int x4), some (.int x5), none] dX9_findCandidates_168 rfl rfl rfl ?_
        refine jr_iinc [some (.ref 82), some (.int x1), some (.int (0 : Int32)), some (.int (x3 + 1)), some (.int x4), some (.int x5), none] dX9_findCandidates_169 rfl rfl rfl rfl rfl ?_
        refine jr_goto 4 dX9_findCandidates_172 rfl ?_
        refine js_drop 4 [some (.ref 82), some (.int x1), some (.int (0 : Int32)), some (.int (x3 + 1)), none, some (.int x5), none] rfl ?_
        refine js_drop 5 [some (.ref 82), some (.int x1), some (.int (0 : Int32)), some (.int (x3 + 1)), none, none, none] rfl ?_
        exact h
      · have h := hB c
        refine jr_iload_n dX9_findCandidates_149 rfl ?_
        refine jr_aload_n dX9_findCandidates_150 rfl ?_
        refine jr_iload_n dX9_findCandidates_151 rfl ?_
        refine js_drop 2 [some (.ref 82), some (.int x1), none, some (.int x3), some (.int x4), some (.int x5), none] rfl ?_
        refine js_drop 5 [some (.ref 82), some (.int x1), none, some (.int x3), some (.int x4), none, none] rfl ?_
        refine js_callV (st := [.int x3]) [.int x1] jc_RX9_87 rfl dX9_findCandidates_152 ga_82 rfl rfl rfl rfl (kk := ?_)
        exact h
    · have h := hB c
      refine jr_aload_n dX9_findCandidates_54 rfl ?_
      refine jr_iload dX9_findCandidates_55 rfl ?_
      refine js_callV (st := []) [.int x5] jc_RX9_87 rfl dX9_findCandidates_57 ga_82 rfl rfl rfl rfl (kk := ?_)
      exact h

set_option maxRecDepth 100000 in
set_option maxHeartbeats 4000000 in
theorem sX9_findCandidates_198 {g : jm_G} {ad : Nat → Nat} {κ : jm_K} {P : Option Value → (Nat → Nat → Int32) → Prop} (hE : jE g ad m_X9_findCandidates P κ) {μ : Nat → Nat → Int32}  (x2 : Int32) (r : Int32) (y1 : Int32)
    (h : vp_in ((y1 * r) + (1 : Int32)) 8 ∧
    (∀ μ2 : Nat → Nat → Int32, μ2 = jm_st μ 97 ((y1 * r) + (1 : Int32)).toNatClampNeg (-6 : Int32) →
    ((x2 = 0 ∨ x2 = 1) ∧ P (some (.int x2)) μ2))) :
    jS g ad m_X9_findCandidates κ 198 [none, none, some (.int x2), none, none, none, none] [.int r, .int y1, .ref 97] μ := by
  refine jr_imul dX9_findCandidates_198 ?_
  refine jr_iconst (1 : Int32) dX9_findCandidates_199 (by decide) ?_
  refine jr_iadd dX9_findCandidates_200 ?_
  refine jr_bipush (-6 : Int32) dX9_findCandidates_201 (by decide) ?_
  obtain ⟨o1, h⟩ := h
  refine jr_iastn _ dX9_findCandidates_203 ga_97 o1 rfl ?_
  obtain ⟨μ2, e2⟩ : ∃ x : Nat → Nat → Int32, x = jm_st μ 97 ((y1 * r) + (1 : Int32)).toNatClampNeg (-6 : Int32) := ⟨_, rfl⟩
  have h := h μ2 e2
  refine js_mem e2 ?_
  refine jr_iload_n dX9_findCandidates_204 rfl ?_
  exact js_zret hE rfl dX9_findCandidates_205 rfl h.1 h.2

set_option maxRecDepth 100000 in
set_option maxHeartbeats 4000000 in
theorem sX9_findCandidates_155 {g : jm_G} {ad : Nat → Nat} {κ : jm_K} {P : Option Value → (Nat → Nat → Int32) → Prop} (hE : jE g ad m_X9_findCandidates P κ) {μ : Nat → Nat → Int32}  (x1 : Int32) (x3 : Int32) (x4 : Int32) (r : Int32) (y1 : Int32)
    (h : ((y1 = r →
    jS g ad m_X9_findCandidates κ 4 [some (.ref 82), some (.int x1), some (.int (1 : Int32)), some (.int (x3 + 1)), none, none, none] [] μ) ∧
    (¬ y1 = r →
    ((x4 ≤ 0 →
    jS g ad m_X9_findCandidates κ 4 [some (.ref 82), some (.int x1), some (.int (0 : Int32)), some (.int (x3 + 1)), none, none, none] [] μ) ∧
    (¬ x4 ≤ 0 →
    jS g ad m_X9_findCandidates κ 4 [some (.ref 82), some (.int x1), some (.int (1 : Int32)), some (.int (x3 + 1)), none, none, none] [] μ))))) :
    jS g ad m_X9_findCandidates κ 155 [some (.ref 82), some (.int x1), none, some (.int x3), some (.int x4), none, none] [.int r, .int y1] μ := by
  obtain ⟨hA, hB⟩ := h
  refine jr_icmp_eq 163 dX9_findCandidates_155 rfl (fun c => ?_) (fun c => ?_)
  · have h := hA c
    refine jr_iconst (1 : Int32) dX9_findCandidates_163 (by decide) ?_
    refine jr_goto 168 dX9_findCandidates_164 rfl ?_
    refine jr_istore_n [some (.ref 82), some (.int x1), some (.int (1 : Int32)), some (.int x3), some (.int x4), none, none] dX9_findCandidates_168 rfl rfl rfl ?_
    refine jr_iinc [some (.ref 82), some (.int x1), some (.int (1 : Int32)), some (.int (x3 + 1)), some (.int x4), none, none] dX9_findCandidates_169 rfl rfl rfl rfl rfl ?_
    refine jr_goto 4 dX9_findCandidates_172 rfl ?_
    refine js_drop 4 [some (.ref 82), some (.int x1), some (.int (1 : Int32)), some (.int (x3 + 1)), none, none, none] rfl ?_
    exact h
  · have h := hB c
    refine jr_iload dX9_findCandidates_158 rfl ?_
    obtain ⟨hA, hB⟩ := h
    refine jr_if_le 167 dX9_findCandidates_160 rfl (fun c => ?_) (fun c => ?_)
    · have h := hA c
      refine jr_iconst (0 : Int32) dX9_findCandidates_167 (by decide) ?_
      refine jr_istore_n [some (.ref 82), some (.int x1), some (.int (0 : Int32)), some (.int x3), some (.int x4), none, none] dX9_findCandidates_168 rfl rfl rfl ?_
      refine jr_iinc [some (.ref 82), some (.int x1), some (.int (0 : Int32)), some (.int (x3 + 1)), some (.int x4), none, none] dX9_findCandidates_169 rfl rfl rfl rfl rfl ?_
      refine jr_goto 4 dX9_findCandidates_172 rfl ?_
      refine js_drop 4 [some (.ref 82), some (.int x1), some (.int (0 : Int32)), some (.int (x3 + 1)), none, none, none] rfl ?_
      exact h
    · have h := hB c
      refine jr_iconst (1 : Int32) dX9_findCandidates_163 (by decide) ?_
      refine jr_goto 168 dX9_findCandidates_164 rfl ?_
      refine jr_istore_n [some (.ref 82), some (.int x1), some (.int (1 : Int32)), some (.int x3), some (.int x4), none, none] dX9_findCandidates_168 rfl rfl rfl ?_
      refine jr_iinc [some (.ref 82), some (.int x1), some (.int (1 : Int32)), some (.int (x3 + 1)), some (.int x4), none, none] dX9_findCandidates_169 rfl rfl rfl rfl rfl ?_
      refine jr_goto 4 dX9_findCandidates_172 rfl ?_
      refine js_drop 4 [some (.ref 82), some (.int x1), some (.int (1 : Int32)), some (.int (x3 + 1)), none, none, none] rfl ?_
      exact h

set_option maxRecDepth 100000 in
set_option maxHeartbeats 4000000 in
theorem sX9_findCandidates_60 {g : jm_G} {ad : Nat → Nat} {κ : jm_K} {P : Option Value → (Nat → Nat → Int32) → Prop} (hE : jE g ad m_X9_findCandidates P κ) {μ : Nat → Nat → Int32}  (x1 : Int32) (x2 : Int32) (x3 : Int32) (x4 : Int32) (x5 : Int32) (r : Int32)
    (h : ((¬ r = x3 →
    (((0 : Int32) = 0 →
    jS g ad m_X9_findCandidates κ 37 [some (.ref 82), some (.int x1), some (.int x2), some (.int x3), some (.int x4), some (.int (x5 + 1)), none] [] μ) ∧
    (¬ (0 : Int32) = 0 →
    vp_in (((2 : Int32) * x3) + x4) 8 ∧
    (∀ μ2 : Nat → Nat → Int32, μ2 = jm_st μ 97 (((2 : Int32) * x3) + x4).toNatClampNeg x5 →
    jS g ad m_X9_findCandidates κ 37 [some (.ref 82), some (.int x1), some (.int x2), some (.int x3), some (.int (x4 + 1)), some (.int (x5 + 1)), none] [] μ2)))) ∧
    (r = x3 →
    vp_in x5 32 ∧
    ((¬ (μ 91 x5.toNatClampNeg) = (40 : Int32) →
    (((0 : Int32) = 0 →
    jS g ad m_X9_findCandidates κ 37 [some (.ref 82), some (.int x1), some (.int x2), some (.int x3), some (.int x4), some (.int (x5 + 1)), none] [] μ) ∧
    (¬ (0 : Int32) = 0 →
    vp_in (((2 : Int32) * x3) + x4) 8 ∧
    (∀ μ5 : Nat → Nat → Int32, μ5 = jm_st μ 97 (((2 : Int32) * x3) + x4).toNatClampNeg x5 →
    jS g ad m_X9_findCandidates κ 37 [some (.ref 82), some (.int x1), some (.int x2), some (.int x3), some (.int (x4 + 1)), some (.int (x5 + 1)), none] [] μ5)))) ∧
    ((μ 91 x5.toNatClampNeg) = (40 : Int32) →
    jD g ad m_X9_timeOf [.ref 82, .int x5] μ (fun v μ' => jS g ad m_X9_findCandidates κ 82 [some (.ref 82), some (.int x1), some (.int x2), some (.int x3), some (.int x4), some (.int x5), none] (jm_ps v []) μ')))))) :
    jS g ad m_X9_findCandidates κ 60 [some (.ref 82), some (.int x1), some (.int x2), some (.int x3), some (.int x4), some (.int x5), none] [.int r] μ := by
  refine jr_iload_n dX9_findCandidates_60 rfl ?_
  obtain ⟨hA, hB⟩ := h
  refine jr_icmp_ne 115 dX9_findCandidates_61 rfl (fun c => ?_) (fun c => ?_)
  · have h := hA c
    refine jr_iconst (0 : Int32) dX9_findCandidates_115 (by decide) ?_
    refine jr_istore [some (.ref 82), some (.int x1), some (.int x2), some (.int x3), some (.int x4), some (.int x5), some (.int (0 : Int32))] dX9_findCandidates_116 rfl rfl rfl ?_
    refine jr_iload dX9_findCandidates_118 rfl ?_
    obtain ⟨hA, hB⟩ := h
    refine jr_if_eq 139 dX9_findCandidates_120 rfl (fun c => ?_) (fun c => ?_)
    · have h := hA c
      refine jr_iinc [some (.ref 82), some (.int x1), some (.int x2), some (.int x3), some (.int x4), some (.int (x5 + 1)), some (.int (0 : Int32))] dX9_findCandidates_139 rfl rfl rfl rfl rfl ?_
      refine jr_goto 37 dX9_findCandidates_142 rfl ?_
      refine js_drop 6 [some (.ref 82), some (.int x1), some (.int x2), some (.int x3), some (.int x4), some (.int (x5 + 1)), none] rfl ?_
      exact h
    · have h := hB c
      refine jr_aload_n dX9_findCandidates_123 rfl ?_
      refine jr_get 9 18 jf_RX9_52 dX9_findCandidates_124 ga_82 rfl (.ref 97) rfl ?_
      refine jr_iconst (2 : Int32) dX9_findCandidates_127 (by decide) ?_
      refine jr_iload_n dX9_findCandidates_128 rfl ?_
      refine jr_imul dX9_findCandidates_129 ?_
      refine jr_iload dX9_findCandidates_130 rfl ?_
      refine jr_iadd dX9_findCandidates_132 ?_
      refine jr_iload dX9_findCandidates_133 rfl ?_
      obtain ⟨o1, h⟩ := h
      refine jr_iastn _ dX9_findCandidates_135 ga_97 o1 rfl ?_
      obtain ⟨μ2, e2⟩ : ∃ x : Nat → Nat → Int32, x = jm_st μ 97 (((2 : Int32) * x3) + x4).toNatClampNeg x5 := ⟨_, rfl⟩
      have h := h μ2 e2
      refine js_mem e2 ?_
      refine jr_iinc [some (.ref 82), some (.int x1), some (.int x2), some (.int x3), some (.int (x4 + 1)), some (.int x5), some (.int (0 : Int32))] dX9_findCandidates_136 rfl rfl rfl rfl rfl ?_
      refine jr_iinc [some (.ref 82), some (.int x1), some (.int x2), some (.int x3), some (.int (x4 + 1)), some (.int (x5 + 1)), some (.int (0 : Int32))] dX9_findCandidates_139 rfl rfl rfl rfl rfl ?_
      refine jr_goto 37 dX9_findCandidates_142 rfl ?_
      refine js_drop 6 [some (.ref 82), some (.int x1), some (.int x2), some (.int x3), some (.int (x4 + 1)), some (.int (x5 + 1)), none] rfl ?_
      exact h
  · have h := hB c
    refine jr_aload_n dX9_findCandidates_64 rfl ?_
    refine jr_get 9 12 jf_RX9_34 dX9_findCandidates_65 ga_82 rfl (.ref 91) rfl ?_
    refine jr_iload dX9_findCandidates_68 rfl ?_
    obtain ⟨o3, h⟩ := h
    refine jr_ialdn _ dX9_findCandidates_70 ga_91 o3 rfl ?_
    refine jr_bipush (40 : Int32) dX9_findCandidates_71 (by decide) ?_
    obtain ⟨hA, hB⟩ := h
    refine jr_icmp_ne 115 dX9_findCandidates_73 rfl (fun c => ?_) (fun c => ?_)
    · have h := hA c
      refine jr_iconst (0 : Int32) dX9_findCandidates_115 (by decide) ?_
      refine jr_istore [some (.ref 82), some (.int x1), some (.int x2), some (.int x3), some (.int x4), some (.int x5), some (.int (0 : Int32))] dX9_findCandidates_116 rfl rfl rfl ?_
      refine jr_iload dX9_findCandidates_118 rfl ?_
      obtain ⟨hA, hB⟩ := h
      refine jr_if_eq 139 dX9_findCandidates_120 rfl (fun c => ?_) (fun c => ?_)
      · have h := hA c
        refine jr_iinc [some (.ref 82), some (.int x1), some (.int x2), some (.int x3), some (.int x4), some (.int (x5 + 1)), some (.int (0 : Int32))] dX9_findCandidates_139 rfl rfl rfl rfl rfl ?_
        refine jr_goto 37 dX9_findCandidates_142 rfl ?_
        refine js_drop 6 [some (.ref 82), some (.int x1), some (.int x2), some (.int x3), some (.int x4), some (.int (x5 + 1)), none] rfl ?_
        exact h
      · have h := hB c
        refine jr_aload_n dX9_findCandidates_123 rfl ?_
        refine jr_get 9 18 jf_RX9_52 dX9_findCandidates_124 ga_82 rfl (.ref 97) rfl ?_
        refine jr_iconst (2 : Int32) dX9_findCandidates_127 (by decide) ?_
        refine jr_iload_n dX9_findCandidates_128 rfl ?_
        refine jr_imul dX9_findCandidates_129 ?_
        refine jr_iload dX9_findCandidates_130 rfl ?_
        refine jr_iadd dX9_findCandidates_132 ?_
        refine jr_iload dX9_findCandidates_133 rfl ?_
        obtain ⟨o4, h⟩ := h
        refine jr_iastn _ dX9_findCandidates_135 ga_97 o4 rfl ?_
        obtain ⟨μ5, e5⟩ : ∃ x : Nat → Nat → Int32, x = jm_st μ 97 (((2 : Int32) * x3) + x4).toNatClampNeg x5 := ⟨_, rfl⟩
        have h := h μ5 e5
        refine js_mem e5 ?_
        refine jr_iinc [some (.ref 82), some (.int x1), some (.int x2), some (.int x3), some (.int (x4 + 1)), some (.int x5), some (.int (0 : Int32))] dX9_findCandidates_136 rfl rfl rfl rfl rfl ?_
        refine jr_iinc [some (.ref 82), some (.int x1), some (.int x2), some (.int x3), some (.int (x4 + 1)), some (.int (x5 + 1)), some (.int (0 : Int32))] dX9_findCandidates_139 rfl rfl rfl rfl rfl ?_
        refine jr_goto 37 dX9_findCandidates_142 rfl ?_
        refine js_drop 6 [some (.ref 82), some (.int x1), some (.int x2), some (.int x3), some (.int (x4 + 1)), some (.int (x5 + 1)), none] rfl ?_
        exact h
    · have h := hB c
      refine jr_aload_n dX9_findCandidates_76 rfl ?_
      refine jr_iload dX9_findCandidates_77 rfl ?_
      refine js_callV (st := []) [.int x5] jc_RX9_90 rfl dX9_findCandidates_79 ga_82 rfl rfl rfl rfl (kk := ?_)
      exact h

set_option maxRecDepth 100000 in
set_option maxHeartbeats 4000000 in
theorem sX9_findCandidates_82 {g : jm_G} {ad : Nat → Nat} {κ : jm_K} {P : Option Value → (Nat → Nat → Int32) → Prop} (hE : jE g ad m_X9_findCandidates P κ) {μ : Nat → Nat → Int32}  (x1 : Int32) (x2 : Int32) (x3 : Int32) (x4 : Int32) (x5 : Int32) (r : Int32)
    (h : jD g ad m_X9_timeOf [.ref 82, .int x1] μ (fun v μ' => jS g ad m_X9_findCandidates κ 87 [some (.ref 82), some (.int x1), some (.int x2), some (.int x3), some (.int x4), some (.int x5), none] (jm_ps v [.int r]) μ')) :
    jS g ad m_X9_findCandidates κ 82 [some (.ref 82), some (.int x1), some (.int x2), some (.int x3), some (.int x4), some (.int x5), none] [.int r] μ := by
  refine jr_aload_n dX9_findCandidates_82 rfl ?_
  refine jr_iload_n dX9_findCandidates_83 rfl ?_
  refine js_callV (st := [.int r]) [.int x1] jc_RX9_90 rfl dX9_findCandidates_84 ga_82 rfl rfl rfl rfl (kk := ?_)
  exact h

set_option maxRecDepth 100000 in
set_option maxHeartbeats 4000000 in
theorem sX9_findCandidates_87 {g : jm_G} {ad : Nat → Nat} {κ : jm_K} {P : Option Value → (Nat → Nat → Int32) → Prop} (hE : jE g ad m_X9_findCandidates P κ) {μ : Nat → Nat → Int32}  (x1 : Int32) (x2 : Int32) (x3 : Int32) (x4 : Int32) (x5 : Int32) (r : Int32) (y1 : Int32)
    (h : ((y1 < r →
    (((0 : Int32) = 0 →
    jS g ad m_X9_findCandidates κ 37 [some (.ref 82), some (.int x1), some (.int x2), some (.int x3), some (.int x4), some (.int (x5 + 1)), none] [] μ) ∧
    (¬ (0 : Int32) = 0 →
    vp_in (((2 : Int32) * x3) + x4) 8 ∧
    (∀ μ2 : Nat → Nat → Int32, μ2 = jm_st μ 97 (((2 : Int32) * x3) + x4).toNatClampNeg x5 →
    jS g ad m_X9_findCandidates κ 37 [some (.ref 82), some (.int x1), some (.int x2), some (.int x3), some (.int (x4 + 1)), some (.int (x5 + 1)), none] [] μ2)))) ∧
    (¬ y1 < r →
    jD g ad m_X9_timeOf [.ref 82, .int x5] μ (fun v μ' => jS g ad m_X9_findCandidates κ 96 [some (.ref 82), some (.int x1), some (.int x2), some (.int x3), some (.int x4), some (.int x5), none] (jm_ps v []) μ')))) :
    jS g ad m_X9_findCandidates κ 87 [some (.ref 82), some (.int x1), some (.int x2), some (.int x3), some (.int x4), some (.int x5), none] [.int r, .int y1] μ := by
  obtain ⟨hA, hB⟩ := h
  refine jr_icmp_lt 115 dX9_findCandidates_87 rfl (fun c => ?_) (fun c => ?_)
  · have h := hA c
    refine jr_iconst (0 : Int32) dX9_findCandidates_115 (by decide) ?_
    refine jr_istore [some (.ref 82), some (.int x1), some (.int x2), some (.int x3), some (.int x4), some (.int x5), some (.int (0 : Int32))] dX9_findCandidates_116 rfl rfl rfl ?_
    refine jr_iload dX9_findCandidates_118 rfl ?_
    obtain ⟨hA, hB⟩ := h
    refine jr_if_eq 139 dX9_findCandidates_120 rfl (fun c => ?_) (fun c => ?_)
    · have h := hA c
      refine jr_iinc [some (.ref 82), some (.int x1), some (.int x2), some (.int x3), some (.int x4), some (.int (x5 + 1)), some (.int (0 : Int32))] dX9_findCandidates_139 rfl rfl rfl rfl rfl ?_
      refine jr_goto 37 dX9_findCandidates_142 rfl ?_
      refine js_drop 6 [some (.ref 82), some (.int x1), some (.int x2), some (.int x3), some (.int x4), some (.int (x5 + 1)), none] rfl ?_
      exact h
    · have h := hB c
      refine jr_aload_n dX9_findCandidates_123 rfl ?_
      refine jr_get 9 18 jf_RX9_52 dX9_findCandidates_124 ga_82 rfl (.ref 97) rfl ?_
      refine jr_iconst (2 : Int32) dX9_findCandidates_127 (by decide) ?_
      refine jr_iload_n dX9_findCandidates_128 rfl ?_
      refine jr_imul dX9_findCandidates_129 ?_
      refine jr_iload dX9_findCandidates_130 rfl ?_
      refine jr_iadd dX9_findCandidates_132 ?_
      refine jr_iload dX9_findCandidates_133 rfl ?_
      obtain ⟨o1, h⟩ := h
      refine jr_iastn _ dX9_findCandidates_135 ga_97 o1 rfl ?_
      obtain ⟨μ2, e2⟩ : ∃ x : Nat → Nat → Int32, x = jm_st μ 97 (((2 : Int32) * x3) + x4).toNatClampNeg x5 := ⟨_, rfl⟩
      have h := h μ2 e2
      refine js_mem e2 ?_
      refine jr_iinc [some (.ref 82), some (.int x1), some (.int x2), some (.int x3), some (.int (x4 + 1)), some (.int x5), some (.int (0 : Int32))] dX9_findCandidates_136 rfl rfl rfl rfl rfl ?_
      refine jr_iinc [some (.ref 82), some (.int x1), some (.int x2), some (.int x3), some (.int (x4 + 1)), some (.int (x5 + 1)), some (.int (0 : Int32))] dX9_findCandidates_139 rfl rfl rfl rfl rfl ?_
      refine jr_goto 37 dX9_findCandidates_142 rfl ?_
      refine js_drop 6 [some (.ref 82), some (.int x1), some (.int x2), some (.int x3), some (.int (x4 + 1)), some (.int (x5 + 1)), none] rfl ?_
      exact h
  · have h := hB c
    refine jr_aload_n dX9_findCandidates_90 rfl ?_
    refine jr_iload dX9_findCandidates_91 rfl ?_
    refine js_callV (st := []) [.int x5] jc_RX9_90 rfl dX9_findCandidates_93 ga_82 rfl rfl rfl rfl (kk := ?_)
    exact h

set_option maxRecDepth 100000 in
set_option maxHeartbeats 4000000 in
theorem sX9_findCandidates_96 {g : jm_G} {ad : Nat → Nat} {κ : jm_K} {P : Option Value → (Nat → Nat → Int32) → Prop} (hE : jE g ad m_X9_findCandidates P κ) {μ : Nat → Nat → Int32}  (x1 : Int32) (x2 : Int32) (x3 : Int32) (x4 : Int32) (x5 : Int32) (r : Int32)
    (h : jD g ad m_X9_timeOf [.ref 82, .int x1] μ (fun v μ' => jS g ad m_X9_findCandidates κ 101 [some (.ref 82), some (.int x1), some (.int x2), some (.int x3), some (.int x4), some (.int x5), none] (jm_ps v [.int r]) μ')) :
    jS g ad m_X9_findCandidates κ 96 [some (.ref 82), some (.int x1), some (.int x2), some (.int x3), some (.int x4), some (.int x5), none] [.int r] μ := by
  refine jr_aload_n dX9_findCandidates_96 rfl ?_
  refine jr_iload_n dX9_findCandidates_97 rfl ?_
  refine js_callV (st := [.int r]) [.int x1] jc_RX9_90 rfl dX9_findCandidates_98 ga_82 rfl rfl rfl rfl (kk := ?_)
  exact h

set_option maxRecDepth 100000 in
set_option maxHeartbeats 4000000 in
theorem sX9_findCandidates_101 {g : jm_G} {ad : Nat → Nat} {κ : jm_K} {P : Option Value → (Nat → Nat → Int32) → Prop} (hE : jE g ad m_X9_findCandidates P κ) {μ : Nat → Nat → Int32}  (x1 : Int32) (x2 : Int32) (x3 : Int32) (x4 : Int32) (x5 : Int32) (r : Int32) (y1 : Int32)
    (h : (((μ 83 1) < (y1 - r) →
    (((0 : Int32) = 0 →
    jS g ad m_X9_findCandidates κ 37 [some (.ref 82), some (.int x1), some (.int x2), some (.int x3), some (.int x4), some (.int (x5 + 1)), none] [] μ) ∧
    (¬ (0 : Int32) = 0 →
    vp_in (((2 : Int32) * x3) + x4) 8 ∧
    (∀ μ2 : Nat → Nat → Int32, μ2 = jm_st μ 97 (((2 : Int32) * x3) + x4).toNatClampNeg x5 →
    jS g ad m_X9_findCandidates κ 37 [some (.ref 82), some (.int x1), some (.int x2), some (.int x3), some (.int (x4 + 1)), some (.int (x5 + 1)), none] [] μ2)))) ∧
    (¬ (μ 83 1) < (y1 - r) →
    (((1 : Int32) = 0 →
    jS g ad m_X9_findCandidates κ 37 [some (.ref 82), some (.int x1), some (.int x2), some (.int x3), some (.int x4), some (.int (x5 + 1)), none] [] μ) ∧
    (¬ (1 : Int32) = 0 →
    vp_in (((2 : Int32) * x3) + x4) 8 ∧
    (∀ μ4 : Nat → Nat → Int32, μ4 = jm_st μ 97 (((2 : Int32) * x3) + x4).toNatClampNeg x5 →
    jS g ad m_X9_findCandidates κ 37 [some (.ref 82), some (.int x1), some (.int x2), some (.int x3), some (.int (x4 + 1)), some (.int (x5 + 1)), none] [] μ4)))))) :
    jS g ad m_X9_findCandidates κ 101 [some (.ref 82), some (.int x1), some (.int x2), some (.int x3), some (.int x4), some (.int x5), none] [.int r, .int y1] μ := by
  refine jr_isub dX9_findCandidates_101 ?_
  refine jr_aload_n dX9_findCandidates_102 rfl ?_
  refine jr_get 9 0 jf_RX9_7 dX9_findCandidates_103 ga_82 rfl (.ref 83) rfl ?_
  refine jr_iconst (1 : Int32) dX9_findCandidates_106 (by decide) ?_
  refine jr_ialdn 1 dX9_findCandidates_107 ga_83 (jm_inD (by decide)) rfl ?_
  obtain ⟨hA, hB⟩ := h
  refine jr_icmp_gt 115 dX9_findCandidates_108 rfl (fun c => ?_) (fun c => ?_)
  · have h := hA c
    refine jr_iconst (0 : Int32) dX9_findCandidates_115 (by decide) ?_
    refine jr_istore [some (.ref 82), some (.int x1), some (.int x2), some (.int x3), some (.int x4), some (.int x5), some (.int (0 : Int32))] dX9_findCandidates_116 rfl rfl rfl ?_
    refine jr_iload dX9_findCandidates_118 rfl ?_
    obtain ⟨hA, hB⟩ := h
    refine jr_if_eq 139 dX9_findCandidates_120 rfl (fun c => ?_) (fun c => ?_)
    · have h := hA c
      refine jr_iinc [some (.ref 82), some (.int x1), some (.int x2), some (.int x3), some (.int x4), some (.int (x5 + 1)), some (.int (0 : Int32))] dX9_findCandidates_139 rfl rfl rfl rfl rfl ?_
      refine jr_goto 37 dX9_findCandidates_142 rfl ?_
      refine js_drop 6 [some (.ref 82), some (.int x1), some (.int x2), some (.int x3), some (.int x4), some (.int (x5 + 1)), none] rfl ?_
      exact h
    · have h := hB c
      refine jr_aload_n dX9_findCandidates_123 rfl ?_
      refine jr_get 9 18 jf_RX9_52 dX9_findCandidates_124 ga_82 rfl (.ref 97) rfl ?_
      refine jr_iconst (2 : Int32) dX9_findCandidates_127 (by decide) ?_
      refine jr_iload_n dX9_findCandidates_128 rfl ?_
      refine jr_imul dX9_findCandidates_129 ?_
      refine jr_iload dX9_findCandidates_130 rfl ?_
      refine jr_iadd dX9_findCandidates_132 ?_
      refine jr_iload dX9_findCandidates_133 rfl ?_
      obtain ⟨o1, h⟩ := h
      refine jr_iastn _ dX9_findCandidates_135 ga_97 o1 rfl ?_
      obtain ⟨μ2, e2⟩ : ∃ x : Nat → Nat → Int32, x = jm_st μ 97 (((2 : Int32) * x3) + x4).toNatClampNeg x5 := ⟨_, rfl⟩
      have h := h μ2 e2
      refine js_mem e2 ?_
      refine jr_iinc [some (.ref 82), some (.int x1), some (.int x2), some (.int x3), some (.int (x4 + 1)), some (.int x5), some (.int (0 : Int32))] dX9_findCandidates_136 rfl rfl rfl rfl rfl ?_
      refine jr_iinc [some (.ref 82), some (.int x1), some (.int x2), some (.int x3), some (.int (x4 + 1)), some (.int (x5 + 1)), some (.int (0 : Int32))] dX9_findCandidates_139 rfl rfl rfl rfl rfl ?_
      refine jr_goto 37 dX9_findCandidates_142 rfl ?_
      refine js_drop 6 [some (.ref 82), some (.int x1), some (.int x2), some (.int x3), some (.int (x4 + 1)), some (.int (x5 + 1)), none] rfl ?_
      exact h
  · have h := hB c
    refine jr_iconst (1 : Int32) dX9_findCandidates_111 (by decide) ?_
    refine jr_goto 116 dX9_findCandidates_112 rfl ?_
    refine jr_istore [some (.ref 82), some (.int x1), some (.int x2), some (.int x3), some (.int x4), some (.int x5), some (.int (1 : Int32))] dX9_findCandidates_116 rfl rfl rfl ?_
    refine jr_iload dX9_findCandidates_118 rfl ?_
    obtain ⟨hA, hB⟩ := h
    refine jr_if_eq 139 dX9_findCandidates_120 rfl (fun c => ?_) (fun c => ?_)
    · have h := hA c
      refine jr_iinc [some (.ref 82), some (.int x1), some (.int x2), some (.int x3), some (.int x4), some (.int (x5 + 1)), some (.int (1 : Int32))] dX9_findCandidates_139 rfl rfl rfl rfl rfl ?_
      refine jr_goto 37 dX9_findCandidates_142 rfl ?_
      refine js_drop 6 [some (.ref 82), some (.int x1), some (.int x2), some (.int x3), some (.int x4), some (.int (x5 + 1)), none] rfl ?_
      exact h
    · have h := hB c
      refine jr_aload_n dX9_findCandidates_123 rfl ?_
      refine jr_get 9 18 jf_RX9_52 dX9_findCandidates_124 ga_82 rfl (.ref 97) rfl ?_
      refine jr_iconst (2 : Int32) dX9_findCandidates_127 (by decide) ?_
      refine jr_iload_n dX9_findCandidates_128 rfl ?_
      refine jr_imul dX9_findCandidates_129 ?_
      refine jr_iload dX9_findCandidates_130 rfl ?_
      refine jr_iadd dX9_findCandidates_132 ?_
      refine jr_iload dX9_findCandidates_133 rfl ?_
      obtain ⟨o3, h⟩ := h
      refine jr_iastn _ dX9_findCandidates_135 ga_97 o3 rfl ?_
      obtain ⟨μ4, e4⟩ : ∃ x : Nat → Nat → Int32, x = jm_st μ 97 (((2 : Int32) * x3) + x4).toNatClampNeg x5 := ⟨_, rfl⟩
      have h := h μ4 e4
      refine js_mem e4 ?_
      refine jr_iinc [some (.ref 82), some (.int x1), some (.int x2), some (.int x3), some (.int (x4 + 1)), some (.int x5), some (.int (1 : Int32))] dX9_findCandidates_136 rfl rfl rfl rfl rfl ?_
      refine jr_iinc [some (.ref 82), some (.int x1), some (.int x2), some (.int x3), some (.int (x4 + 1)), some (.int (x5 + 1)), some (.int (1 : Int32))] dX9_findCandidates_139 rfl rfl rfl rfl rfl ?_
      refine jr_goto 37 dX9_findCandidates_142 rfl ?_
      refine js_drop 6 [some (.ref 82), some (.int x1), some (.int x2), some (.int x3), some (.int (x4 + 1)), some (.int (x5 + 1)), none] rfl ?_
      exact h

set_option maxRecDepth 100000 in
set_option maxHeartbeats 4000000 in
theorem sX9_takeRow_0 {g : jm_G} {ad : Nat → Nat} {κ : jm_K} {P : Option Value → (Nat → Nat → Int32) → Prop} (hE : jE g ad m_X9_takeRow P κ) {μ : Nat → Nat → Int32}  (p1 : Int32)
    (h : jS g ad m_X9_takeRow κ 2 [some (.ref 82), some (.int p1), some (.int (0 : Int32))] [] μ) :
    jS g ad m_X9_takeRow κ 0 [some (.ref 82), some (.int p1), none] [] μ := by
  refine jr_iconst (0 : Int32) dX9_takeRow_0 (by decide) ?_
  refine jr_istore_n [some (.ref 82), some (.int p1), some (.int (0 : Int32))] dX9_takeRow_1 rfl rfl rfl ?_
  exact h

set_option maxRecDepth 100000 in
set_option maxHeartbeats 4000000 in
theorem sX9_takeRow_2 {g : jm_G} {ad : Nat → Nat} {κ : jm_K} {P : Option Value → (Nat → Nat → Int32) → Prop} (hE : jE g ad m_X9_takeRow P κ) {μ : Nat → Nat → Int32}  (x1 : Int32) (x2 : Int32)
    (h : (((4 : Int32) ≤ x2 →
    P none μ) ∧
    (¬ (4 : Int32) ≤ x2 →
    vp_in (((2 : Int32) * x2) + ((x1 >>> (((3 : Int32) - x2) &&& 31)) &&& (1 : Int32))) 8 ∧
    vp_in x2 4 ∧
    (∀ μ3 : Nat → Nat → Int32, μ3 = jm_st μ 96 x2.toNatClampNeg (μ 97 (((2 : Int32) * x2) + ((x1 >>> (((3 : Int32) - x2) &&& 31)) &&& (1 : Int32))).toNatClampNeg) →
    jS g ad m_X9_takeRow κ 2 [some (.ref 82), some (.int x1), some (.int (x2 + 1))] [] μ3)))) :
    jS g ad m_X9_takeRow κ 2 [some (.ref 82), some (.int x1), some (.int x2)] [] μ := by
  refine jr_iload_n dX9_takeRow_2 rfl ?_
  refine jr_iconst (4 : Int32) dX9_takeRow_3 (by decide) ?_
  obtain ⟨hA, hB⟩ := h
  refine jr_icmp_ge 35 dX9_takeRow_4 rfl (fun c => ?_) (fun c => ?_)
  · have h := hA c
    exact js_vret hE rfl dX9_takeRow_35 rfl h
  · have h := hB c
    refine jr_aload_n dX9_takeRow_7 rfl ?_
    refine jr_get 9 17 jf_RX9_49 dX9_takeRow_8 ga_82 rfl (.ref 96) rfl ?_
    refine jr_iload_n dX9_takeRow_11 rfl ?_
    refine jr_aload_n dX9_takeRow_12 rfl ?_
    refine jr_get 9 18 jf_RX9_52 dX9_takeRow_13 ga_82 rfl (.ref 97) rfl ?_
    refine jr_iconst (2 : Int32) dX9_takeRow_16 (by decide) ?_
    refine jr_iload_n dX9_takeRow_17 rfl ?_
    refine jr_imul dX9_takeRow_18 ?_
    refine jr_iload_n dX9_takeRow_19 rfl ?_
    refine jr_iconst (3 : Int32) dX9_takeRow_20 (by decide) ?_
    refine jr_iload_n dX9_takeRow_21 rfl ?_
    refine jr_isub dX9_takeRow_22 ?_
    refine jr_ishr dX9_takeRow_23 ?_
    refine jr_iconst (1 : Int32) dX9_takeRow_24 (by decide) ?_
    refine jr_iand dX9_takeRow_25 ?_
    refine jr_iadd dX9_takeRow_26 ?_
    obtain ⟨o1, h⟩ := h
    refine jr_ialdn _ dX9_takeRow_27 ga_97 o1 rfl ?_
    obtain ⟨o2, h⟩ := h
    refine jr_iastn _ dX9_takeRow_28 ga_96 o2 rfl ?_
    obtain ⟨μ3, e3⟩ : ∃ x : Nat → Nat → Int32, x = jm_st μ 96 x2.toNatClampNeg (μ 97 (((2 : Int32) * x2) + ((x1 >>> (((3 : Int32) - x2) &&& 31)) &&& (1 : Int32))).toNatClampNeg) := ⟨_, rfl⟩
    have h := h μ3 e3
    refine js_mem e3 ?_
    refine jr_iinc [some (.ref 82), some (.int x1), some (.int (x2 + 1))] dX9_takeRow_29 rfl rfl rfl rfl rfl ?_
    refine jr_goto 2 dX9_takeRow_32 rfl ?_
    exact h

set_option maxRecDepth 100000 in
set_option maxHeartbeats 4000000 in
theorem sX9_isRow_0 {g : jm_G} {ad : Nat → Nat} {κ : jm_K} {P : Option Value → (Nat → Nat → Int32) → Prop} (hE : jE g ad m_X9_isRow P κ) {μ : Nat → Nat → Int32}  
    (h : jS g ad m_X9_isRow κ 4 [some (.ref 82), some (.int (1 : Int32)), some (.int (0 : Int32))] [] μ) :
    jS g ad m_X9_isRow κ 0 [some (.ref 82), none, none] [] μ := by
  refine jr_iconst (1 : Int32) dX9_isRow_0 (by decide) ?_
  refine jr_istore_n [some (.ref 82), some (.int (1 : Int32)), none] dX9_isRow_1 rfl rfl rfl ?_
  refine jr_iconst (0 : Int32) dX9_isRow_2 (by decide) ?_
  refine jr_istore_n [some (.ref 82), some (.int (1 : Int32)), some (.int (0 : Int32))] dX9_isRow_3 rfl rfl rfl ?_
  exact h

set_option maxRecDepth 100000 in
set_option maxHeartbeats 4000000 in
theorem sX9_isRow_4 {g : jm_G} {ad : Nat → Nat} {κ : jm_K} {P : Option Value → (Nat → Nat → Int32) → Prop} (hE : jE g ad m_X9_isRow P κ) {μ : Nat → Nat → Int32}  (x1 : Int32) (x2 : Int32)
    (h : (((4 : Int32) ≤ x2 →
    ((x1 = 0 ∨ x1 = 1) ∧ P (some (.int x1)) μ)) ∧
    (¬ (4 : Int32) ≤ x2 →
    ((x1 = 0 →
    jS g ad m_X9_isRow κ 4 [some (.ref 82), some (.int (0 : Int32)), some (.int (x2 + 1))] [] μ) ∧
    (¬ x1 = 0 →
    vp_in x2 4 ∧
    (((μ 96 x2.toNatClampNeg) = (-6 : Int32) →
    jS g ad m_X9_isRow κ 4 [some (.ref 82), some (.int (0 : Int32)), some (.int (x2 + 1))] [] μ) ∧
    (¬ (μ 96 x2.toNatClampNeg) = (-6 : Int32) →
    jS g ad m_X9_isRow κ 4 [some (.ref 82), some (.int (1 : Int32)), some (.int (x2 + 1))] [] μ))))))) :
    jS g ad m_X9_isRow κ 4 [some (.ref 82), some (.int x1), some (.int x2)] [] μ := by
  refine jr_iload_n dX9_isRow_4 rfl ?_
  refine jr_iconst (4 : Int32) dX9_isRow_5 (by decide) ?_
  obtain ⟨hA, hB⟩ := h
  refine jr_icmp_ge 36 dX9_isRow_6 rfl (fun c => ?_) (fun c => ?_)
  · have h := hA c
    refine jr_iload_n dX9_isRow_36 rfl ?_
    exact js_zret hE rfl dX9_isRow_37 rfl h.1 h.2
  · have h := hB c
    refine jr_iload_n dX9_isRow_9 rfl ?_
    obtain ⟨hA, hB⟩ := h
    refine jr_if_eq 28 dX9_isRow_10 rfl (fun c => ?_) (fun c => ?_)
    · have h := hA c
      refine jr_iconst (0 : Int32) dX9_isRow_28 (by decide) ?_
      refine jr_istore_n [some (.ref 82), some (.int (0 : Int32)), some (.int x2)] dX9_isRow_29 rfl rfl rfl ?_
      refine jr_iinc [some (.ref 82), some (.int (0 : Int32)), some (.int (x2 + 1))] dX9_isRow_30 rfl rfl rfl rfl rfl ?_
      refine jr_goto 4 dX9_isRow_33 rfl ?_
      exact h
    · have h := hB c
      refine jr_aload_n dX9_isRow_13 rfl ?_
      refine jr_get 9 17 jf_RX9_49 dX9_isRow_14 ga_82 rfl (.ref 96) rfl ?_
      refine jr_iload_n dX9_isRow_17 rfl ?_
      obtain ⟨o1, h⟩ := h
      refine jr_ialdn _ dX9_isRow_18 ga_96 o1 rfl ?_
      refine jr_bipush (-6 : Int32) dX9_isRow_19 (by decide) ?_
      obtain ⟨hA, hB⟩ := h
      refine jr_icmp_eq 28 dX9_isRow_21 rfl (fun c => ?_) (fun c => ?_)
      · have h := hA c
        refine jr_iconst (0 : Int32) dX9_isRow_28 (by decide) ?_
        refine jr_istore_n [some (.ref 82), some (.int (0 : Int32)), some (.int x2)] dX9_isRow_29 rfl rfl rfl ?_
        refine jr_iinc [some (.ref 82), some (.int (0 : Int32)), some (.int (x2 + 1))] dX9_isRow_30 rfl rfl rfl rfl rfl ?_
        refine jr_goto 4 dX9_isRow_33 rfl ?_
        exact h
      · have h := hB c
        refine jr_iconst (1 : Int32) dX9_isRow_24 (by decide) ?_
        refine jr_goto 29 dX9_isRow_25 rfl ?_
        refine jr_istore_n [some (.ref 82), some (.int (1 : Int32)), some (.int x2)] dX9_isRow_29 rfl rfl rfl ?_
        refine jr_iinc [some (.ref 82), some (.int (1 : Int32)), some (.int (x2 + 1))] dX9_isRow_30 rfl rfl rfl rfl rfl ?_
        refine jr_goto 4 dX9_isRow_33 rfl ?_
        exact h

set_option maxRecDepth 100000 in
set_option maxHeartbeats 4000000 in
theorem sX9_findBest_0 {g : jm_G} {ad : Nat → Nat} {κ : jm_K} {P : Option Value → (Nat → Nat → Int32) → Prop} (hE : jE g ad m_X9_findBest P κ) {μ : Nat → Nat → Int32}  
    (h : (∀ μ1 : Nat → Nat → Int32, μ1 = jm_st μ 82 21 (-6 : Int32) →
    jS g ad m_X9_findBest κ 8 [some (.ref 82), some (.int (0 : Int32)), none] [] μ1)) :
    jS g ad m_X9_findBest κ 0 [some (.ref 82), none, none] [] μ := by
  refine jr_aload_n dX9_findBest_0 rfl ?_
  refine jr_bipush (-6 : Int32) dX9_findBest_1 (by decide) ?_
  refine jr_putI 9 21 jf_RX9_104 dX9_findBest_3 ga_82 rfl ?_
  obtain ⟨μ1, e1⟩ : ∃ x : Nat → Nat → Int32, x = jm_st μ 82 21 (-6 : Int32) := ⟨_, rfl⟩
  have h := h μ1 e1
  refine js_mem e1 ?_
  refine jr_iconst (0 : Int32) dX9_findBest_6 (by decide) ?_
  refine jr_istore_n [some (.ref 82), some (.int (0 : Int32)), none] dX9_findBest_7 rfl rfl rfl ?_
  exact h

set_option maxRecDepth 100000 in
set_option maxHeartbeats 4000000 in
theorem sX9_findBest_8 {g : jm_G} {ad : Nat → Nat} {κ : jm_K} {P : Option Value → (Nat → Nat → Int32) → Prop} (hE : jE g ad m_X9_findBest P κ) {μ : Nat → Nat → Int32}  (x1 : Int32)
    (h : (((16 : Int32) ≤ x1 →
    P none μ) ∧
    (¬ (16 : Int32) ≤ x1 →
    jD g ad m_X9_takeRow [.ref 82, .int x1] μ (fun v μ' => jS g ad m_X9_findBest κ 19 [some (.ref 82), some (.int x1), none] (jm_ps v []) μ')))) :
    jS g ad m_X9_findBest κ 8 [some (.ref 82), some (.int x1), none] [] μ := by
  refine jr_iload_n dX9_findBest_8 rfl ?_
  refine jr_bipush (16 : Int32) dX9_findBest_9 (by decide) ?_
  obtain ⟨hA, hB⟩ := h
  refine jr_icmp_ge 97 dX9_findBest_11 rfl (fun c => ?_) (fun c => ?_)
  · have h := hA c
    exact js_vret hE rfl dX9_findBest_97 rfl h
  · have h := hB c
    refine jr_aload_n dX9_findBest_14 rfl ?_
    refine jr_iload_n dX9_findBest_15 rfl ?_
    refine js_callV (st := []) [.int x1] jc_RX9_107 rfl dX9_findBest_16 ga_82 rfl rfl rfl rfl (kk := ?_)
    exact h

set_option maxRecDepth 100000 in
set_option maxHeartbeats 4000000 in
theorem sX9_findBest_19 {g : jm_G} {ad : Nat → Nat} {κ : jm_K} {P : Option Value → (Nat → Nat → Int32) → Prop} (hE : jE g ad m_X9_findBest P κ) {μ : Nat → Nat → Int32}  (x1 : Int32)
    (h : jD g ad m_X9_isRow [.ref 82] μ (fun v μ' => jS g ad m_X9_findBest κ 23 [some (.ref 82), some (.int x1), none] (jm_ps v []) μ')) :
    jS g ad m_X9_findBest κ 19 [some (.ref 82), some (.int x1), none] [] μ := by
  refine jr_aload_n dX9_findBest_19 rfl ?_
  refine js_callV (st := []) [] jc_RX9_111 rfl dX9_findBest_20 ga_82 rfl rfl rfl rfl (kk := ?_)
  exact h

set_option maxRecDepth 100000 in
set_option maxHeartbeats 4000000 in
theorem sX9_findBest_23 {g : jm_G} {ad : Nat → Nat} {κ : jm_K} {P : Option Value → (Nat → Nat → Int32) → Prop} (hE : jE g ad m_X9_findBest P κ) {μ : Nat → Nat → Int32}  (x1 : Int32) (r : Int32)
    (h : ((r = 0 →
    jS g ad m_X9_findBest κ 8 [some (.ref 82), some (.int (x1 + 1)), none] [] μ) ∧
    (¬ r = 0 →
    jD g ad m_X9_findPlace [.ref 82] μ (fun v μ' => jS g ad m_X9_findBest κ 30 [some (.ref 82), some (.int x1), none] (jm_ps v []) μ')))) :
    jS g ad m_X9_findBest κ 23 [some (.ref 82), some (.int x1), none] [.int r] μ := by
  obtain ⟨hA, hB⟩ := h
  refine jr_if_eq 91 dX9_findBest_23 rfl (fun c => ?_) (fun c => ?_)
  · have h := hA c
    refine jr_iinc [some (.ref 82), some (.int (x1 + 1)), none] dX9_findBest_91 rfl rfl rfl rfl rfl ?_
    refine jr_goto 8 dX9_findBest_94 rfl ?_
    exact h
  · have h := hB c
    refine jr_aload_n dX9_findBest_26 rfl ?_
    refine js_callV (st := []) [] jc_RX9_115 rfl dX9_findBest_27 ga_82 rfl rfl rfl rfl (kk := ?_)
    exact h

set_option maxRecDepth 100000 in
set_option maxHeartbeats 4000000 in
theorem sX9_findBest_30 {g : jm_G} {ad : Nat → Nat} {κ : jm_K} {P : Option Value → (Nat → Nat → Int32) → Prop} (hE : jE g ad m_X9_findBest P κ) {μ : Nat → Nat → Int32}  (x1 : Int32)
    (h : (((μ 82 21) = (-6 : Int32) →
    (∀ μ1 : Nat → Nat → Int32, μ1 = jm_st μ 82 21 (μ 82 23) →
    (∀ μ2 : Nat → Nat → Int32, μ2 = jm_st μ1 82 20 (μ1 82 22) →
    jS g ad m_X9_findBest κ 68 [some (.ref 82), some (.int x1), some (.int (0 : Int32))] [] μ2))) ∧
    (¬ (μ 82 21) = (-6 : Int32) →
    (((μ 82 21) ≤ (μ 82 23) →
    jS g ad m_X9_findBest κ 8 [some (.ref 82), some (.int (x1 + 1)), none] [] μ) ∧
    (¬ (μ 82 21) ≤ (μ 82 23) →
    (∀ μ3 : Nat → Nat → Int32, μ3 = jm_st μ 82 21 (μ 82 23) →
    (∀ μ4 : Nat → Nat → Int32, μ4 = jm_st μ3 82 20 (μ3 82 22) →
    jS g ad m_X9_findBest κ 68 [some (.ref 82), some (.int x1), some (.int (0 : Int32))] [] μ4))))))) :
    jS g ad m_X9_findBest κ 30 [some (.ref 82), some (.int x1), none] [] μ := by
  refine jr_aload_n dX9_findBest_30 rfl ?_
  refine jr_get 9 21 jf_RX9_104 dX9_findBest_31 ga_82 rfl (.int (μ 82 21)) rfl ?_
  refine jr_bipush (-6 : Int32) dX9_findBest_34 (by decide) ?_
  obtain ⟨hA, hB⟩ := h
  refine jr_icmp_eq 50 dX9_findBest_36 rfl (fun c => ?_) (fun c => ?_)
  · have h := hA c
    refine jr_aload_n dX9_findBest_50 rfl ?_
    refine jr_aload_n dX9_findBest_51 rfl ?_
    refine jr_get 9 23 jf_RX9_101 dX9_findBest_52 ga_82 rfl (.int (μ 82 23)) rfl ?_
    refine jr_putI 9 21 jf_RX9_104 dX9_findBest_55 ga_82 rfl ?_
    obtain ⟨μ1, e1⟩ : ∃ x : Nat → Nat → Int32, x = jm_st μ 82 21 (μ 82 23) := ⟨_, rfl⟩
    have h := h μ1 e1
    refine js_mem e1 ?_
    refine jr_aload_n dX9_findBest_58 rfl ?_
    refine jr_aload_n dX9_findBest_59 rfl ?_
    refine jr_get 9 22 jf_RX9_95 dX9_findBest_60 ga_82 rfl (.int (μ1 82 22)) rfl ?_
    refine jr_putI 9 20 jf_RX9_118 dX9_findBest_63 ga_82 rfl ?_
    obtain ⟨μ2, e2⟩ : ∃ x : Nat → Nat → Int32, x = jm_st μ1 82 20 (μ1 82 22) := ⟨_, rfl⟩
    have h := h μ2 e2
    refine js_mem e2 ?_
    refine jr_iconst (0 : Int32) dX9_findBest_66 (by decide) ?_
    refine jr_istore_n [some (.ref 82), some (.int x1), some (.int (0 : Int32))] dX9_findBest_67 rfl rfl rfl ?_
    exact h
  · have h := hB c
    refine jr_aload_n dX9_findBest_39 rfl ?_
    refine jr_get 9 23 jf_RX9_101 dX9_findBest_40 ga_82 rfl (.int (μ 82 23)) rfl ?_
    refine jr_aload_n dX9_findBest_43 rfl ?_
    refine jr_get 9 21 jf_RX9_104 dX9_findBest_44 ga_82 rfl (.int (μ 82 21)) rfl ?_
    obtain ⟨hA, hB⟩ := h
    refine jr_icmp_ge 91 dX9_findBest_47 rfl (fun c => ?_) (fun c => ?_)
    · have h := hA c
      refine jr_iinc [some (.ref 82), some (.int (x1 + 1)), none] dX9_findBest_91 rfl rfl rfl rfl rfl ?_
      refine jr_goto 8 dX9_findBest_94 rfl ?_
      exact h
    · have h := hB c
      refine jr_aload_n dX9_findBest_50 rfl ?_
      refine jr_aload_n dX9_findBest_51 rfl ?_
      refine jr_get 9 23 jf_RX9_101 dX9_findBest_52 ga_82 rfl (.int (μ 82 23)) rfl ?_
      refine jr_putI 9 21 jf_RX9_104 dX9_findBest_55 ga_82 rfl ?_
      obtain ⟨μ3, e3⟩ : ∃ x : Nat → Nat → Int32, x = jm_st μ 82 21 (μ 82 23) := ⟨_, rfl⟩
      have h := h μ3 e3
      refine js_mem e3 ?_
      refine jr_aload_n dX9_findBest_58 rfl ?_
      refine jr_aload_n dX9_findBest_59 rfl ?_
      refine jr_get 9 22 jf_RX9_95 dX9_findBest_60 ga_82 rfl (.int (μ3 82 22)) rfl ?_
      refine jr_putI 9 20 jf_RX9_118 dX9_findBest_63 ga_82 rfl ?_
      obtain ⟨μ4, e4⟩ : ∃ x : Nat → Nat → Int32, x = jm_st μ3 82 20 (μ3 82 22) := ⟨_, rfl⟩
      have h := h μ4 e4
      refine js_mem e4 ?_
      refine jr_iconst (0 : Int32) dX9_findBest_66 (by decide) ?_
      refine jr_istore_n [some (.ref 82), some (.int x1), some (.int (0 : Int32))] dX9_findBest_67 rfl rfl rfl ?_
      exact h

set_option maxRecDepth 100000 in
set_option maxHeartbeats 4000000 in
theorem sX9_findBest_68 {g : jm_G} {ad : Nat → Nat} {κ : jm_K} {P : Option Value → (Nat → Nat → Int32) → Prop} (hE : jE g ad m_X9_findBest P κ) {μ : Nat → Nat → Int32}  (x1 : Int32) (x2 : Int32)
    (h : (((4 : Int32) ≤ x2 →
    jS g ad m_X9_findBest κ 8 [some (.ref 82), some (.int (x1 + 1)), none] [] μ) ∧
    (¬ (4 : Int32) ≤ x2 →
    vp_in x2 4 ∧
    vp_in x2 4 ∧
    (∀ μ3 : Nat → Nat → Int32, μ3 = jm_st μ 98 x2.toNatClampNeg (μ 96 x2.toNatClampNeg) →
    jS g ad m_X9_findBest κ 68 [some (.ref 82), some (.int x1), some (.int (x2 + 1))] [] μ3)))) :
    jS g ad m_X9_findBest κ 68 [some (.ref 82), some (.int x1), some (.int x2)] [] μ := by
  refine jr_iload_n dX9_findBest_68 rfl ?_
  refine jr_iconst (4 : Int32) dX9_findBest_69 (by decide) ?_
  obtain ⟨hA, hB⟩ := h
  refine jr_icmp_ge 91 dX9_findBest_70 rfl (fun c => ?_) (fun c => ?_)
  · have h := hA c
    refine jr_iinc [some (.ref 82), some (.int (x1 + 1)), some (.int x2)] dX9_findBest_91 rfl rfl rfl rfl rfl ?_
    refine jr_goto 8 dX9_findBest_94 rfl ?_
    refine js_drop 2 [some (.ref 82), some (.int (x1 + 1)), none] rfl ?_
    exact h
  · have h := hB c
    refine jr_aload_n dX9_findBest_73 rfl ?_
    refine jr_get 9 19 jf_RX9_55 dX9_findBest_74 ga_82 rfl (.ref 98) rfl ?_
    refine jr_iload_n dX9_findBest_77 rfl ?_
    refine jr_aload_n dX9_findBest_78 rfl ?_
    refine jr_get 9 17 jf_RX9_49 dX9_findBest_79 ga_82 rfl (.ref 96) rfl ?_
    refine jr_iload_n dX9_findBest_82 rfl ?_
    obtain ⟨o1, h⟩ := h
    refine jr_ialdn _ dX9_findBest_83 ga_96 o1 rfl ?_
    obtain ⟨o2, h⟩ := h
    refine jr_iastn _ dX9_findBest_84 ga_98 o2 rfl ?_
    obtain ⟨μ3, e3⟩ : ∃ x : Nat → Nat → Int32, x = jm_st μ 98 x2.toNatClampNeg (μ 96 x2.toNatClampNeg) := ⟨_, rfl⟩
    have h := h μ3 e3
    refine js_mem e3 ?_
    refine jr_iinc [some (.ref 82), some (.int x1), some (.int (x2 + 1))] dX9_findBest_85 rfl rfl rfl rfl rfl ?_
    refine jr_goto 68 dX9_findBest_88 rfl ?_
    exact h

set_option maxRecDepth 100000 in
set_option maxHeartbeats 4000000 in
theorem sX9_becomesShot_0 {g : jm_G} {ad : Nat → Nat} {κ : jm_K} {P : Option Value → (Nat → Nat → Int32) → Prop} (hE : jE g ad m_X9_becomesShot P κ) {μ : Nat → Nat → Int32}  
    (h : jS g ad m_X9_becomesShot κ 2 [some (.ref 82), some (.int (0 : Int32))] [] μ) :
    jS g ad m_X9_becomesShot κ 0 [some (.ref 82), none] [] μ := by
  refine jr_iconst (0 : Int32) dX9_becomesShot_0 (by decide) ?_
  refine jr_istore_n [some (.ref 82), some (.int (0 : Int32))] dX9_becomesShot_1 rfl rfl rfl ?_
  exact h

set_option maxRecDepth 100000 in
set_option maxHeartbeats 4000000 in
theorem sX9_becomesShot_2 {g : jm_G} {ad : Nat → Nat} {κ : jm_K} {P : Option Value → (Nat → Nat → Int32) → Prop} (hE : jE g ad m_X9_becomesShot P κ) {μ : Nat → Nat → Int32}  (x1 : Int32)
    (h : (((4 : Int32) ≤ x1 →
    vp_in (μ 82 11) 8 ∧
    (∀ μ2 : Nat → Nat → Int32, μ2 = jm_st μ 92 (μ 82 11).toNatClampNeg (μ 82 20) →
    vp_in (μ2 82 11) 8 ∧
    (∀ μ4 : Nat → Nat → Int32, μ4 = jm_st μ2 93 (μ2 82 11).toNatClampNeg (μ2 82 21) →
    jD g ad m_X9_momentAt [.ref 82, .int (μ4 82 20)] μ4 (fun v μ' => jS g ad m_X9_becomesShot κ 101 [some (.ref 82), none] (jm_ps v [.int (μ4 82 11), .ref 94]) μ')))) ∧
    (¬ (4 : Int32) ≤ x1 →
    vp_in x1 4 ∧
    vp_in x1 4 ∧
    (∀ μ7 : Nat → Nat → Int32, μ7 = jm_st μ 96 x1.toNatClampNeg (μ 98 x1.toNatClampNeg) →
    vp_in x1 4 ∧
    vp_in (μ7 98 x1.toNatClampNeg) 32 ∧
    (∀ μ10 : Nat → Nat → Int32, μ10 = jm_st μ7 91 (μ7 98 x1.toNatClampNeg).toNatClampNeg (μ7 82 11) →
    vp_in x1 4 ∧
    vp_in (((4 : Int32) * (μ10 82 11)) + x1) 32 ∧
    (∀ μ13 : Nat → Nat → Int32, μ13 = jm_st μ10 95 (((4 : Int32) * (μ10 82 11)) + x1).toNatClampNeg (μ10 98 x1.toNatClampNeg) →
    jS g ad m_X9_becomesShot κ 2 [some (.ref 82), some (.int (x1 + 1))] [] μ13)))))) :
    jS g ad m_X9_becomesShot κ 2 [some (.ref 82), some (.int x1)] [] μ := by
  refine jr_iload_n dX9_becomesShot_2 rfl ?_
  refine jr_iconst (4 : Int32) dX9_becomesShot_3 (by decide) ?_
  obtain ⟨hA, hB⟩ := h
  refine jr_icmp_ge 59 dX9_becomesShot_4 rfl (fun c => ?_) (fun c => ?_)
  · have h := hA c
    refine jr_aload_n dX9_becomesShot_59 rfl ?_
    refine jr_get 9 13 jf_RX9_37 dX9_becomesShot_60 ga_82 rfl (.ref 92) rfl ?_
    refine jr_aload_n dX9_becomesShot_63 rfl ?_
    refine jr_get 9 11 jf_RX9_121 dX9_becomesShot_64 ga_82 rfl (.int (μ 82 11)) rfl ?_
    refine jr_aload_n dX9_becomesShot_67 rfl ?_
    refine jr_get 9 20 jf_RX9_118 dX9_becomesShot_68 ga_82 rfl (.int (μ 82 20)) rfl ?_
    obtain ⟨o1, h⟩ := h
    refine jr_iastn _ dX9_becomesShot_71 ga_92 o1 rfl ?_
    obtain ⟨μ2, e2⟩ : ∃ x : Nat → Nat → Int32, x = jm_st μ 92 (μ 82 11).toNatClampNeg (μ 82 20) := ⟨_, rfl⟩
    have h := h μ2 e2
    refine js_mem e2 ?_
    refine jr_aload_n dX9_becomesShot_72 rfl ?_
    refine jr_get 9 14 jf_RX9_40 dX9_becomesShot_73 ga_82 rfl (.ref 93) rfl ?_
    refine jr_aload_n dX9_becomesShot_76 rfl ?_
    refine jr_get 9 11 jf_RX9_121 dX9_becomesShot_77 ga_82 rfl (.int (μ2 82 11)) rfl ?_
    refine jr_aload_n dX9_becomesShot_80 rfl ?_
    refine jr_get 9 21 jf_RX9_104 dX9_becomesShot_81 ga_82 rfl (.int (μ2 82 21)) rfl ?_
    obtain ⟨o3, h⟩ := h
    refine jr_iastn _ dX9_becomesShot_84 ga_93 o3 rfl ?_
    obtain ⟨μ4, e4⟩ : ∃ x : Nat → Nat → Int32, x = jm_st μ2 93 (μ2 82 11).toNatClampNeg (μ2 82 21) := ⟨_, rfl⟩
    have h := h μ4 e4
    refine js_mem e4 ?_
    refine jr_aload_n dX9_becomesShot_85 rfl ?_
    refine jr_get 9 15 jf_RX9_43 dX9_becomesShot_86 ga_82 rfl (.ref 94) rfl ?_
    refine jr_aload_n dX9_becomesShot_89 rfl ?_
    refine jr_get 9 11 jf_RX9_121 dX9_becomesShot_90 ga_82 rfl (.int (μ4 82 11)) rfl ?_
    refine jr_aload_n dX9_becomesShot_93 rfl ?_
    refine jr_aload_n dX9_becomesShot_94 rfl ?_
    refine jr_get 9 20 jf_RX9_118 dX9_becomesShot_95 ga_82 rfl (.int (μ4 82 20)) rfl ?_
    refine js_drop 1 [some (.ref 82), none] rfl ?_
    refine js_callV (st := [.int (μ4 82 11), .ref 94]) [.int (μ4 82 20)] jc_RX9_124 rfl dX9_becomesShot_98 ga_82 rfl rfl rfl rfl (kk := ?_)
    exact h
  · have h := hB c
    refine jr_aload_n dX9_becomesShot_7 rfl ?_
    refine jr_get 9 17 jf_RX9_49 dX9_becomesShot_8 ga_82 rfl (.ref 96) rfl ?_
    refine jr_iload_n dX9_becomesShot_11 rfl ?_
    refine jr_aload_n dX9_becomesShot_12 rfl ?_
    refine jr_get 9 19 jf_RX9_55 dX9_becomesShot_13 ga_82 rfl (.ref 98) rfl ?_
    refine jr_iload_n dX9_becomesShot_16 rfl ?_
    obtain ⟨o5, h⟩ := h
    refine jr_ialdn _ dX9_becomesShot_17 ga_98 o5 rfl ?_
    obtain ⟨o6, h⟩ := h
    refine jr_iastn _ dX9_becomesShot_18 ga_96 o6 rfl ?_
    obtain ⟨μ7, e7⟩ : ∃ x : Nat → Nat → Int32, x = jm_st μ 96 x1.toNatClampNeg (μ 98 x1.toNatClampNeg) := ⟨_, rfl⟩
    have h := h μ7 e7
    refine js_mem e7 ?_
    refine jr_aload_n dX9_becomesShot_19 rfl ?_
    refine jr_get 9 12 jf_RX9_34 dX9_becomesShot_20 ga_82 rfl (.ref 91) rfl ?_
    refine jr_aload_n dX9_becomesShot_23 rfl ?_
    refine jr_get 9 19 jf_RX9_55 dX9_becomesShot_24 ga_82 rfl (.ref 98) rfl ?_
    refine jr_iload_n dX9_becomesShot_27 rfl ?_
    obtain ⟨o8, h⟩ := h
    refine jr_ialdn _ dX9_becomesShot_28 ga_98 o8 rfl ?_
    refine jr_aload_n dX9_becomesShot_29 rfl ?_
    refine jr_get 9 11 jf_RX9_121 dX9_becomesShot_30 ga_82 rfl (.int (μ7 82 11)) rfl ?_
    obtain ⟨o9, h⟩ := h
    refine jr_iastn _ dX9_becomesShot_33 ga_91 o9 rfl ?_
    obtain ⟨μ10, e10⟩ : ∃ x : Nat → Nat → Int32, x = jm_st μ7 91 (μ7 98 x1.toNatClampNeg).toNatClampNeg (μ7 82 11) := ⟨_, rfl⟩
    have h := h μ10 e10
    refine js_mem e10 ?_
    refine jr_aload_n dX9_becomesShot_34 rfl ?_
    refine jr_get 9 16 jf_RX9_46 dX9_becomesShot_35 ga_82 rfl (.ref 95) rfl ?_
    refine jr_iconst (4 : Int32) dX9_becomesShot_38 (by decide) ?_
    refine jr_aload_n dX9_becomesShot_39 rfl ?_
    refine jr_get 9 11 jf_RX9_121 dX9_becomesShot_40 ga_82 rfl (.int (μ10 82 11)) rfl ?_
    refine jr_imul dX9_becomesShot_43 ?_
    refine jr_iload_n dX9_becomesShot_44 rfl ?_
    refine jr_iadd dX9_becomesShot_45 ?_
    refine jr_aload_n dX9_becomesShot_46 rfl ?_
    refine jr_get 9 19 jf_RX9_55 dX9_becomesShot_47 ga_82 rfl (.ref 98) rfl ?_
    refine jr_iload_n dX9_becomesShot_50 rfl ?_
    obtain ⟨o11, h⟩ := h
    refine jr_ialdn _ dX9_becomesShot_51 ga_98 o11 rfl ?_
    obtain ⟨o12, h⟩ := h
    refine jr_iastn _ dX9_becomesShot_52 ga_95 o12 rfl ?_
    obtain ⟨μ13, e13⟩ : ∃ x : Nat → Nat → Int32, x = jm_st μ10 95 (((4 : Int32) * (μ10 82 11)) + x1).toNatClampNeg (μ10 98 x1.toNatClampNeg) := ⟨_, rfl⟩
    have h := h μ13 e13
    refine js_mem e13 ?_
    refine jr_iinc [some (.ref 82), some (.int (x1 + 1))] dX9_becomesShot_53 rfl rfl rfl rfl rfl ?_
    refine jr_goto 2 dX9_becomesShot_56 rfl ?_
    exact h

set_option maxRecDepth 100000 in
set_option maxHeartbeats 4000000 in
theorem sX9_becomesShot_101 {g : jm_G} {ad : Nat → Nat} {κ : jm_K} {P : Option Value → (Nat → Nat → Int32) → Prop} (hE : jE g ad m_X9_becomesShot P κ) {μ : Nat → Nat → Int32}  (r : Int32) (y1 : Int32)
    (h : vp_in y1 8 ∧
    (∀ μ2 : Nat → Nat → Int32, μ2 = jm_st μ 94 y1.toNatClampNeg r →
    (∀ μ3 : Nat → Nat → Int32, μ3 = jm_st μ2 82 11 ((μ2 82 11) + (1 : Int32)) →
    P none μ3))) :
    jS g ad m_X9_becomesShot κ 101 [some (.ref 82), none] [.int r, .int y1, .ref 94] μ := by
  obtain ⟨o1, h⟩ := h
  refine jr_iastn _ dX9_becomesShot_101 ga_94 o1 rfl ?_
  obtain ⟨μ2, e2⟩ : ∃ x : Nat → Nat → Int32, x = jm_st μ 94 y1.toNatClampNeg r := ⟨_, rfl⟩
  have h := h μ2 e2
  refine js_mem e2 ?_
  refine jr_aload_n dX9_becomesShot_102 rfl ?_
  refine jr_dup dX9_becomesShot_103 rfl ?_
  refine jr_get 9 11 jf_RX9_121 dX9_becomesShot_104 ga_82 rfl (.int (μ2 82 11)) rfl ?_
  refine jr_iconst (1 : Int32) dX9_becomesShot_107 (by decide) ?_
  refine jr_iadd dX9_becomesShot_108 ?_
  refine jr_putI 9 11 jf_RX9_121 dX9_becomesShot_109 ga_82 rfl ?_
  obtain ⟨μ3, e3⟩ : ∃ x : Nat → Nat → Int32, x = jm_st μ2 82 11 ((μ2 82 11) + (1 : Int32)) := ⟨_, rfl⟩
  have h := h μ3 e3
  refine js_mem e3 ?_
  exact js_vret hE rfl dX9_becomesShot_112 rfl h

set_option maxRecDepth 100000 in
set_option maxHeartbeats 4000000 in
theorem sX9_findShots_0 {g : jm_G} {ad : Nat → Nat} {κ : jm_K} {P : Option Value → (Nat → Nat → Int32) → Prop} (hE : jE g ad m_X9_findShots P κ) {μ : Nat → Nat → Int32}  (p1 : Int32)
    (h : jD g ad m_X9_speedBy [.int p1] μ (fun v μ' => jS g ad m_X9_findShots κ 5 [some (.ref 82), none, none, none] (jm_ps v [.ref 82]) μ')) :
    jS g ad m_X9_findShots κ 0 [some (.ref 82), some (.int p1), none, none] [] μ := by
  refine jr_aload_n dX9_findShots_0 rfl ?_
  refine jr_iload_n dX9_findShots_1 rfl ?_
  refine js_drop 1 [some (.ref 82), none, none, none] rfl ?_
  refine js_callS (st := [.ref 82]) [.int p1] jc_RX9_127 rfl dX9_findShots_2 rfl rfl rfl (kk := ?_)
  exact h

set_option maxRecDepth 100000 in
set_option maxHeartbeats 4000000 in
theorem sX9_findShots_5 {g : jm_G} {ad : Nat → Nat} {κ : jm_K} {P : Option Value → (Nat → Nat → Int32) → Prop} (hE : jE g ad m_X9_findShots P κ) {μ : Nat → Nat → Int32}  (r : Int32)
    (h : jD g ad m_X9_reckon [.ref 82, .int r] μ (fun v μ' => jS g ad m_X9_findShots κ 8 [some (.ref 82), none, none, none] (jm_ps v []) μ')) :
    jS g ad m_X9_findShots κ 5 [some (.ref 82), none, none, none] [.int r, .ref 82] μ := by
  refine js_callV (st := []) [.int r] jc_RX9_130 rfl dX9_findShots_5 ga_82 rfl rfl rfl rfl (kk := ?_)
  exact h

set_option maxRecDepth 100000 in
set_option maxHeartbeats 4000000 in
theorem sX9_findShots_8 {g : jm_G} {ad : Nat → Nat} {κ : jm_K} {P : Option Value → (Nat → Nat → Int32) → Prop} (hE : jE g ad m_X9_findShots P κ) {μ : Nat → Nat → Int32}  
    (h : (∀ μ1 : Nat → Nat → Int32, μ1 = jm_st μ 82 11 (0 : Int32) →
    jS g ad m_X9_findShots κ 15 [some (.ref 82), none, some (.int (0 : Int32)), none] [] μ1)) :
    jS g ad m_X9_findShots κ 8 [some (.ref 82), none, none, none] [] μ := by
  refine jr_aload_n dX9_findShots_8 rfl ?_
  refine jr_iconst (0 : Int32) dX9_findShots_9 (by decide) ?_
  refine jr_putI 9 11 jf_RX9_121 dX9_findShots_10 ga_82 rfl ?_
  obtain ⟨μ1, e1⟩ : ∃ x : Nat → Nat → Int32, x = jm_st μ 82 11 (0 : Int32) := ⟨_, rfl⟩
  have h := h μ1 e1
  refine js_mem e1 ?_
  refine jr_iconst (0 : Int32) dX9_findShots_13 (by decide) ?_
  refine jr_istore_n [some (.ref 82), none, some (.int (0 : Int32)), none] dX9_findShots_14 rfl rfl rfl ?_
  exact h

set_option maxRecDepth 100000 in
set_option maxHeartbeats 4000000 in
theorem sX9_findShots_15 {g : jm_G} {ad : Nat → Nat} {κ : jm_K} {P : Option Value → (Nat → Nat → Int32) → Prop} (hE : jE g ad m_X9_findShots P κ) {μ : Nat → Nat → Int32}  (x2 : Int32)
    (h : (((32 : Int32) ≤ x2 →
    jS g ad m_X9_findShots κ 37 [some (.ref 82), none, some (.int (0 : Int32)), none] [] μ) ∧
    (¬ (32 : Int32) ≤ x2 →
    vp_in x2 32 ∧
    (∀ μ2 : Nat → Nat → Int32, μ2 = jm_st μ 91 x2.toNatClampNeg (40 : Int32) →
    jS g ad m_X9_findShots κ 15 [some (.ref 82), none, some (.int (x2 + 1)), none] [] μ2)))) :
    jS g ad m_X9_findShots κ 15 [some (.ref 82), none, some (.int x2), none] [] μ := by
  refine jr_iload_n dX9_findShots_15 rfl ?_
  refine jr_bipush (32 : Int32) dX9_findShots_16 (by decide) ?_
  obtain ⟨hA, hB⟩ := h
  refine jr_icmp_ge 35 dX9_findShots_18 rfl (fun c => ?_) (fun c => ?_)
  · have h := hA c
    refine jr_iconst (0 : Int32) dX9_findShots_35 (by decide) ?_
    refine jr_istore_n [some (.ref 82), none, some (.int (0 : Int32)), none] dX9_findShots_36 rfl rfl rfl ?_
    exact h
  · have h := hB c
    refine jr_aload_n dX9_findShots_21 rfl ?_
    refine jr_get 9 12 jf_RX9_34 dX9_findShots_22 ga_82 rfl (.ref 91) rfl ?_
    refine jr_iload_n dX9_findShots_25 rfl ?_
    refine jr_bipush (40 : Int32) dX9_findShots_26 (by decide) ?_
    obtain ⟨o1, h⟩ := h
    refine jr_iastn _ dX9_findShots_28 ga_91 o1 rfl ?_
    obtain ⟨μ2, e2⟩ : ∃ x : Nat → Nat → Int32, x = jm_st μ 91 x2.toNatClampNeg (40 : Int32) := ⟨_, rfl⟩
    have h := h μ2 e2
    refine js_mem e2 ?_
    refine jr_iinc [some (.ref 82), none, some (.int (x2 + 1)), none] dX9_findShots_29 rfl rfl rfl rfl rfl ?_
    refine jr_goto 15 dX9_findShots_32 rfl ?_
    exact h

set_option maxRecDepth 100000 in
set_option maxHeartbeats 4000000 in
theorem sX9_findShots_37 {g : jm_G} {ad : Nat → Nat} {κ : jm_K} {P : Option Value → (Nat → Nat → Int32) → Prop} (hE : jE g ad m_X9_findShots P κ) {μ : Nat → Nat → Int32}  (x2 : Int32)
    (h : (((μ 83 3) ≤ x2 →
    P none μ) ∧
    (¬ (μ 83 3) ≤ x2 →
    vp_in x2 32 ∧
    ((¬ (μ 91 x2.toNatClampNeg) = (40 : Int32) →
    jS g ad m_X9_findShots κ 37 [some (.ref 82), none, some (.int (x2 + 1)), none] [] μ) ∧
    ((μ 91 x2.toNatClampNeg) = (40 : Int32) →
    vp_in x2 32 ∧
    (∀ μ3 : Nat → Nat → Int32, μ3 = jm_st μ 91 x2.toNatClampNeg (-6 : Int32) →
    jD g ad m_X9_findCandidates [.ref 82, .int x2] μ3 (fun v μ' => jS g ad m_X9_findShots κ 71 [some (.ref 82), none, some (.int x2), none] (jm_ps v []) μ'))))))) :
    jS g ad m_X9_findShots κ 37 [some (.ref 82), none, some (.int x2), none] [] μ := by
  refine jr_iload_n dX9_findShots_37 rfl ?_
  refine jr_aload_n dX9_findShots_38 rfl ?_
  refine jr_get 9 0 jf_RX9_7 dX9_findShots_39 ga_82 rfl (.ref 83) rfl ?_
  refine jr_iconst (3 : Int32) dX9_findShots_42 (by decide) ?_
  refine jr_ialdn 3 dX9_findShots_43 ga_83 (jm_inD (by decide)) rfl ?_
  obtain ⟨hA, hB⟩ := h
  refine jr_icmp_ge 107 dX9_findShots_44 rfl (fun c => ?_) (fun c => ?_)
  · have h := hA c
    exact js_vret hE rfl dX9_findShots_107 rfl h
  · have h := hB c
    refine jr_aload_n dX9_findShots_47 rfl ?_
    refine jr_get 9 12 jf_RX9_34 dX9_findShots_48 ga_82 rfl (.ref 91) rfl ?_
    refine jr_iload_n dX9_findShots_51 rfl ?_
    obtain ⟨o1, h⟩ := h
    refine jr_ialdn _ dX9_findShots_52 ga_91 o1 rfl ?_
    refine jr_bipush (40 : Int32) dX9_findShots_53 (by decide) ?_
    obtain ⟨hA, hB⟩ := h
    refine jr_icmp_ne 101 dX9_findShots_55 rfl (fun c => ?_) (fun c => ?_)
    · have h := hA c
      refine jr_iinc [some (.ref 82), none, some (.int (x2 + 1)), none] dX9_findShots_101 rfl rfl rfl rfl rfl ?_
      refine jr_goto 37 dX9_findShots_104 rfl ?_
      exact h
    · have h := hB c
      refine jr_aload_n dX9_findShots_58 rfl ?_
      refine jr_get 9 12 jf_RX9_34 dX9_findShots_59 ga_82 rfl (.ref 91) rfl ?_
      refine jr_iload_n dX9_findShots_62 rfl ?_
      refine jr_bipush (-6 : Int32) dX9_findShots_63 (by decide) ?_
      obtain ⟨o2, h⟩ := h
      refine jr_iastn _ dX9_findShots_65 ga_91 o2 rfl ?_
      obtain ⟨μ3, e3⟩ : ∃ x : Nat → Nat → Int32, x = jm_st μ 91 x2.toNatClampNeg (-6 : Int32) := ⟨_, rfl⟩
      have h := h μ3 e3
      refine js_mem e3 ?_
      refine jr_aload_n dX9_findShots_66 rfl ?_
      refine jr_iload_n dX9_findShots_67 rfl ?_
      refine js_callV (st := []) [.int x2] jc_RX9_133 rfl dX9_findShots_68 ga_82 rfl rfl rfl rfl (kk := ?_)
      exact h

set_option maxRecDepth 100000 in
set_option maxHeartbeats 4000000 in
theorem sX9_findShots_71 {g : jm_G} {ad : Nat → Nat} {κ : jm_K} {P : Option Value → (Nat → Nat → Int32) → Prop} (hE : jE g ad m_X9_findShots P κ) {μ : Nat → Nat → Int32}  (x2 : Int32) (r : Int32)
    (h : ((r = 0 →
    ((r = 0 →
    jS g ad m_X9_findShots κ 37 [some (.ref 82), none, some (.int (x2 + 1)), none] [] μ) ∧
    (¬ r = 0 →
    (((μ 83 2) < (μ 82 21) →
    jS g ad m_X9_findShots κ 37 [some (.ref 82), none, some (.int (x2 + 1)), none] [] μ) ∧
    (¬ (μ 83 2) < (μ 82 21) →
    jD g ad m_X9_becomesShot [.ref 82] μ (fun v μ' => jS g ad m_X9_findShots κ 101 [some (.ref 82), none, some (.int x2), none] (jm_ps v []) μ')))))) ∧
    (¬ r = 0 →
    jD g ad m_X9_findBest [.ref 82] μ (fun v μ' => jS g ad m_X9_findShots κ 80 [some (.ref 82), none, some (.int x2), some (.int r)] (jm_ps v []) μ')))) :
    jS g ad m_X9_findShots κ 71 [some (.ref 82), none, some (.int x2), none] [.int r] μ := by
  refine jr_istore_n [some (.ref 82), none, some (.int x2), some (.int r)] dX9_findShots_71 rfl rfl rfl ?_
  refine jr_iload_n dX9_findShots_72 rfl ?_
  obtain ⟨hA, hB⟩ := h
  refine jr_if_eq 80 dX9_findShots_73 rfl (fun c => ?_) (fun c => ?_)
  · have h := hA c
    refine jr_iload_n dX9_findShots_80 rfl ?_
    obtain ⟨hA, hB⟩ := h
    refine jr_if_eq 101 dX9_findShots_81 rfl (fun c => ?_) (fun c => ?_)
    · have h := hA c
      refine jr_iinc [some (.ref 82), none, some (.int (x2 + 1)), some (.int r)] dX9_findShots_101 rfl rfl rfl rfl rfl ?_
      refine jr_goto 37 dX9_findShots_104 rfl ?_
      refine js_drop 3 [some (.ref 82), none, some (.int (x2 + 1)), none] rfl ?_
      exact h
    · have h := hB c
      refine jr_aload_n dX9_findShots_84 rfl ?_
      refine jr_get 9 21 jf_RX9_104 dX9_findShots_85 ga_82 rfl (.int (μ 82 21)) rfl ?_
      refine jr_aload_n dX9_findShots_88 rfl ?_
      refine jr_get 9 0 jf_RX9_7 dX9_findShots_89 ga_82 rfl (.ref 83) rfl ?_
      refine jr_iconst (2 : Int32) dX9_findShots_92 (by decide) ?_
      refine jr_ialdn 2 dX9_findShots_93 ga_83 (jm_inD (by decide)) rfl ?_
      obtain ⟨hA, hB⟩ := h
      refine jr_icmp_gt 101 dX9_findShots_94 rfl (fun c => ?_) (fun c => ?_)
      · have h := hA c
        refine jr_iinc [some (.ref 82), none, some (.int (x2 + 1)), some (.int r)] dX9_findShots_101 rfl rfl rfl rfl rfl ?_
        refine jr_goto 37 dX9_findShots_104 rfl ?_
        refine js_drop 3 [some (.ref 82), none, some (.int (x2 + 1)), none] rfl ?_
        exact h
      · have h := hB c
        refine jr_aload_n dX9_findShots_97 rfl ?_
        refine js_drop 3 [some (.ref 82), none, some (.int x2), none] rfl ?_
        refine js_callV (st := []) [] jc_RX9_140 rfl dX9_findShots_98 ga_82 rfl rfl rfl rfl (kk := ?_)
        exact h
  · have h := hB c
    refine jr_aload_n dX9_findShots_76 rfl ?_
    refine js_callV (st := []) [] jc_RX9_137 rfl dX9_findShots_77 ga_82 rfl rfl rfl rfl (kk := ?_)
    exact h

set_option maxRecDepth 100000 in
set_option maxHeartbeats 4000000 in
theorem sX9_findShots_101 {g : jm_G} {ad : Nat → Nat} {κ : jm_K} {P : Option Value → (Nat → Nat → Int32) → Prop} (hE : jE g ad m_X9_findShots P κ) {μ : Nat → Nat → Int32}  (x2 : Int32)
    (h : jS g ad m_X9_findShots κ 37 [some (.ref 82), none, some (.int (x2 + 1)), none] [] μ) :
    jS g ad m_X9_findShots κ 101 [some (.ref 82), none, some (.int x2), none] [] μ := by
  refine jr_iinc [some (.ref 82), none, some (.int (x2 + 1)), none] dX9_findShots_101 rfl rfl rfl rfl rfl ?_
  refine jr_goto 37 dX9_findShots_104 rfl ?_
  exact h

set_option maxRecDepth 100000 in
set_option maxHeartbeats 4000000 in
theorem sX9_findShots_80 {g : jm_G} {ad : Nat → Nat} {κ : jm_K} {P : Option Value → (Nat → Nat → Int32) → Prop} (hE : jE g ad m_X9_findShots P κ) {μ : Nat → Nat → Int32}  (x2 : Int32) (x3 : Int32)
    (h : ((x3 = 0 →
    jS g ad m_X9_findShots κ 37 [some (.ref 82), none, some (.int (x2 + 1)), none] [] μ) ∧
    (¬ x3 = 0 →
    (((μ 83 2) < (μ 82 21) →
    jS g ad m_X9_findShots κ 37 [some (.ref 82), none, some (.int (x2 + 1)), none] [] μ) ∧
    (¬ (μ 83 2) < (μ 82 21) →
    jD g ad m_X9_becomesShot [.ref 82] μ (fun v μ' => jS g ad m_X9_findShots κ 101 [some (.ref 82), none, some (.int x2), none] (jm_ps v []) μ')))))) :
    jS g ad m_X9_findShots κ 80 [some (.ref 82), none, some (.int x2), some (.int x3)] [] μ := by
  refine jr_iload_n dX9_findShots_80 rfl ?_
  obtain ⟨hA, hB⟩ := h
  refine jr_if_eq 101 dX9_findShots_81 rfl (fun c => ?_) (fun c => ?_)
  · have h := hA c
    refine jr_iinc [some (.ref 82), none, some (.int (x2 + 1)), some (.int x3)] dX9_findShots_101 rfl rfl rfl rfl rfl ?_
    refine jr_goto 37 dX9_findShots_104 rfl ?_
    refine js_drop 3 [some (.ref 82), none, some (.int (x2 + 1)), none] rfl ?_
    exact h
  · have h := hB c
    refine jr_aload_n dX9_findShots_84 rfl ?_
    refine jr_get 9 21 jf_RX9_104 dX9_findShots_85 ga_82 rfl (.int (μ 82 21)) rfl ?_
    refine jr_aload_n dX9_findShots_88 rfl ?_
    refine jr_get 9 0 jf_RX9_7 dX9_findShots_89 ga_82 rfl (.ref 83) rfl ?_
    refine jr_iconst (2 : Int32) dX9_findShots_92 (by decide) ?_
    refine jr_ialdn 2 dX9_findShots_93 ga_83 (jm_inD (by decide)) rfl ?_
    obtain ⟨hA, hB⟩ := h
    refine jr_icmp_gt 101 dX9_findShots_94 rfl (fun c => ?_) (fun c => ?_)
    · have h := hA c
      refine jr_iinc [some (.ref 82), none, some (.int (x2 + 1)), some (.int x3)] dX9_findShots_101 rfl rfl rfl rfl rfl ?_
      refine jr_goto 37 dX9_findShots_104 rfl ?_
      refine js_drop 3 [some (.ref 82), none, some (.int (x2 + 1)), none] rfl ?_
      exact h
    · have h := hB c
      refine jr_aload_n dX9_findShots_97 rfl ?_
      refine js_drop 3 [some (.ref 82), none, some (.int x2), none] rfl ?_
      refine js_callV (st := []) [] jc_RX9_140 rfl dX9_findShots_98 ga_82 rfl rfl rfl rfl (kk := ?_)
      exact h

set_option maxRecDepth 100000 in
set_option maxHeartbeats 4000000 in
theorem sX9_find_0 {g : jm_G} {ad : Nat → Nat} {κ : jm_K} {P : Option Value → (Nat → Nat → Int32) → Prop} (hE : jE g ad m_X9_find P κ) {μ : Nat → Nat → Int32}  
    (h : jD g ad m_X9_findShots [.ref 82, .int (μ 83 0)] μ (fun v μ' => jS g ad m_X9_find κ 10 [none] (jm_ps v []) μ')) :
    jS g ad m_X9_find κ 0 [some (.ref 82)] [] μ := by
  refine jr_aload_n dX9_find_0 rfl ?_
  refine jr_aload_n dX9_find_1 rfl ?_
  refine jr_get 9 0 jf_RX9_7 dX9_find_2 ga_82 rfl (.ref 83) rfl ?_
  refine jr_iconst (0 : Int32) dX9_find_5 (by decide) ?_
  refine jr_ialdn 0 dX9_find_6 ga_83 (jm_inD (by decide)) rfl ?_
  refine js_drop 0 [none] rfl ?_
  refine js_callV (st := []) [.int (μ 83 0)] jc_RX9_143 rfl dX9_find_7 ga_82 rfl rfl rfl rfl (kk := ?_)
  exact h

set_option maxRecDepth 100000 in
set_option maxHeartbeats 4000000 in
theorem sX9_find_10 {g : jm_G} {ad : Nat → Nat} {κ : jm_K} {P : Option Value → (Nat → Nat → Int32) → Prop} (hE : jE g ad m_X9_find P κ) {μ : Nat → Nat → Int32}  
    (h : P none μ) :
    jS g ad m_X9_find κ 10 [none] [] μ := by
  exact js_vret hE rfl dX9_find_10 rfl h

end
