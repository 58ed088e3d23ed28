section JMP
theorem onb {r b : Nat} (h : r = b) : r < b + 1 := by omega
set_option maxRecDepth 100000 in
set_option maxHeartbeats 4000000 in
theorem vX2_rootOf_0 {g : jm_G} {κ : jm_K} {P : Option Value → jm_W → Prop} (hE : jm_E g m_X2_rootOf P κ) {w : jm_W}  (p1 : Int32)
    (h : jm_R g m_X2_rootOf κ 0 0 6 [some (.int p1), some (.int (0 : Int32)), some (.int (4096 : Int32))] [] w) :
    jm_R g m_X2_rootOf κ 0 0 0 [some (.int p1), none, none] [] w := by
  refine jr_iconst (0 : Int32) dX2_rootOf_0 (by decide) ?_
  refine jr_istore_n [some (.int p1), some (.int (0 : Int32)), none] dX2_rootOf_1 rfl rfl rfl ?_
  refine jr_sipush (4096 : Int32) dX2_rootOf_2 (by decide) ?_
  refine jr_istore_n [some (.int p1), some (.int (0 : Int32)), some (.int (4096 : Int32))] dX2_rootOf_5 rfl rfl rfl ?_
  exact h
set_option maxRecDepth 100000 in
set_option maxHeartbeats 4000000 in
theorem vX2_rootOf_6 {g : jm_G} {κ : jm_K} {P : Option Value → jm_W → Prop} (hE : jm_E g m_X2_rootOf P κ) {w : jm_W}  (x0 : Int32) (x1 : Int32) (x2 : Int32)
    (h : ((x2 ≤ 0 →
    P (some (.int x1)) w) ∧
    (¬ x2 ≤ 0 →
    ((x0 < ((x1 + x2) * (x1 + x2)) →
    jm_R g m_X2_rootOf κ 0 0 6 [some (.int x0), some (.int x1), some (.int (x2 / (2 : Int32)))] [] w) ∧
    (¬ x0 < ((x1 + x2) * (x1 + x2)) →
    jm_R g m_X2_rootOf κ 0 0 6 [some (.int x0), some (.int (x1 + x2)), some (.int (x2 / (2 : Int32)))] [] w))))) :
    jm_R g m_X2_rootOf κ 0 0 6 [some (.int x0), some (.int x1), some (.int x2)] [] w := by
  refine jr_iload_n dX2_rootOf_6 rfl ?_
  obtain ⟨hA, hB⟩ := h
  refine jr_if_le 32 dX2_rootOf_7 rfl (fun c => ?_) (fun c => ?_)
  · have h := hA c
    refine jr_iload_n dX2_rootOf_32 rfl ?_
    exact jr_iret hE rfl dX2_rootOf_33 rfl h
  · have h := hB c
    refine jr_iload_n dX2_rootOf_10 rfl ?_
    refine jr_iload_n dX2_rootOf_11 rfl ?_
    refine jr_iadd dX2_rootOf_12 ?_
    refine jr_iload_n dX2_rootOf_13 rfl ?_
    refine jr_iload_n dX2_rootOf_14 rfl ?_
    refine jr_iadd dX2_rootOf_15 ?_
    refine jr_imul dX2_rootOf_16 ?_
    refine jr_iload_n dX2_rootOf_17 rfl ?_
    obtain ⟨hA, hB⟩ := h
    refine jr_icmp_gt 25 dX2_rootOf_18 rfl (fun c => ?_) (fun c => ?_)
    · have h := hA c
      refine jr_iload_n dX2_rootOf_25 rfl ?_
      refine jr_iconst (2 : Int32) dX2_rootOf_26 (by decide) ?_
      refine jr_idiv dX2_rootOf_27 (by decide) ?_
      refine jr_istore_n [some (.int x0), some (.int x1), some (.int (x2 / (2 : Int32)))] dX2_rootOf_28 rfl rfl rfl ?_
      refine jr_goto 6 dX2_rootOf_29 rfl ?_
      exact h
    · have h := hB c
      refine jr_iload_n dX2_rootOf_21 rfl ?_
      refine jr_iload_n dX2_rootOf_22 rfl ?_
      refine jr_iadd dX2_rootOf_23 ?_
      refine jr_istore_n [some (.int x0), some (.int (x1 + x2)), some (.int x2)] dX2_rootOf_24 rfl rfl rfl ?_
      refine jr_iload_n dX2_rootOf_25 rfl ?_
      refine jr_iconst (2 : Int32) dX2_rootOf_26 (by decide) ?_
      refine jr_idiv dX2_rootOf_27 (by decide) ?_
      refine jr_istore_n [some (.int x0), some (.int (x1 + x2)), some (.int (x2 / (2 : Int32)))] dX2_rootOf_28 rfl rfl rfl ?_
      refine jr_goto 6 dX2_rootOf_29 rfl ?_
      exact h
set_option maxRecDepth 100000 in
set_option maxHeartbeats 4000000 in
theorem vX9_root_0 {g : jm_G} {κ : jm_K} {P : Option Value → jm_W → Prop} (hE : jm_E g m_X9_root P κ) {w : jm_W}  (p1 : Int32)
    (h : jm_R g m_X9_root κ 0 0 6 [some (.int p1), some (.int (0 : Int32)), some (.int (4096 : Int32))] [] w) :
    jm_R g m_X9_root κ 0 0 0 [some (.int p1), none, none] [] w := by
  refine jr_iconst (0 : Int32) dX9_root_0 (by decide) ?_
  refine jr_istore_n [some (.int p1), some (.int (0 : Int32)), none] dX9_root_1 rfl rfl rfl ?_
  refine jr_sipush (4096 : Int32) dX9_root_2 (by decide) ?_
  refine jr_istore_n [some (.int p1), some (.int (0 : Int32)), some (.int (4096 : Int32))] dX9_root_5 rfl rfl rfl ?_
  exact h
set_option maxRecDepth 100000 in
set_option maxHeartbeats 4000000 in
theorem vX9_root_6 {g : jm_G} {κ : jm_K} {P : Option Value → jm_W → Prop} (hE : jm_E g m_X9_root P κ) {w : jm_W}  (x0 : Int32) (x1 : Int32) (x2 : Int32)
    (h : ((x2 ≤ 0 →
    P (some (.int x1)) w) ∧
    (¬ x2 ≤ 0 →
    ((x0 < ((x1 + x2) * (x1 + x2)) →
    jm_R g m_X9_root κ 0 0 6 [some (.int x0), some (.int (x1 + (0 : Int32))), some (.int (x2 / (2 : Int32)))] [] w) ∧
    (¬ x0 < ((x1 + x2) * (x1 + x2)) →
    jm_R g m_X9_root κ 0 0 6 [some (.int x0), some (.int (x1 + x2)), some (.int (x2 / (2 : Int32)))] [] w))))) :
    jm_R g m_X9_root κ 0 0 6 [some (.int x0), some (.int x1), some (.int x2)] [] w := by
  refine jr_iload_n dX9_root_6 rfl ?_
  obtain ⟨hA, hB⟩ := h
  refine jr_if_le 36 dX9_root_7 rfl (fun c => ?_) (fun c => ?_)
  · have h := hA c
    refine jr_iload_n dX9_root_36 rfl ?_
    exact jr_iret hE rfl dX9_root_37 rfl h
  · have h := hB c
    refine jr_iload_n dX9_root_10 rfl ?_
    refine jr_iload_n dX9_root_11 rfl ?_
    refine jr_iload_n dX9_root_12 rfl ?_
    refine jr_iadd dX9_root_13 ?_
    refine jr_iload_n dX9_root_14 rfl ?_
    refine jr_iload_n dX9_root_15 rfl ?_
    refine jr_iadd dX9_root_16 ?_
    refine jr_imul dX9_root_17 ?_
    refine jr_iload_n dX9_root_18 rfl ?_
    obtain ⟨hA, hB⟩ := h
    refine jr_icmp_gt 26 dX9_root_19 rfl (fun c => ?_) (fun c => ?_)
    · have h := hA c
      refine jr_iconst (0 : Int32) dX9_root_26 (by decide) ?_
      refine jr_iadd dX9_root_27 ?_
      refine jr_istore_n [some (.int x0), some (.int (x1 + (0 : Int32))), some (.int x2)] dX9_root_28 rfl rfl rfl ?_
      refine jr_iload_n dX9_root_29 rfl ?_
      refine jr_iconst (2 : Int32) dX9_root_30 (by decide) ?_
      refine jr_idiv dX9_root_31 (by decide) ?_
      refine jr_istore_n [some (.int x0), some (.int (x1 + (0 : Int32))), some (.int (x2 / (2 : Int32)))] dX9_root_32 rfl rfl rfl ?_
      refine jr_goto 6 dX9_root_33 rfl ?_
      exact h
    · have h := hB c
      refine jr_iload_n dX9_root_22 rfl ?_
      refine jr_goto 27 dX9_root_23 rfl ?_
      refine jr_iadd dX9_root_27 ?_
      refine jr_istore_n [some (.int x0), some (.int (x1 + x2)), some (.int x2)] dX9_root_28 rfl rfl rfl ?_
      refine jr_iload_n dX9_root_29 rfl ?_
      refine jr_iconst (2 : Int32) dX9_root_30 (by decide) ?_
      refine jr_idiv dX9_root_31 (by decide) ?_
      refine jr_istore_n [some (.int x0), some (.int (x1 + x2)), some (.int (x2 / (2 : Int32)))] dX9_root_32 rfl rfl rfl ?_
      refine jr_goto 6 dX9_root_33 rfl ?_
      exact h
theorem c_X2_rootOf_w {g : jm_G} {w : jm_W} {P : Option Value → jm_W → Prop} {v : Int} (hv : 0 ≤ v ∧ v < 67108864) (h : P (some (.int (ii (rt v)))) w) : jm_Cp g m_X2_rootOf [.int (ii v)] w P := by
  refine jm_intro [some (.int (ii v)), none, none] (by decide) rfl rfl (fun κ hE => ?_)
  have key : ∀ (k : Nat) (r : Int), k ≤ 13 → 0 ≤ r → r + 2 ^ k ≤ 8192 → P (some (.int (ii (rtF v k r)))) w → jm_R g m_X2_rootOf κ 0 0 6 [some (.int (ii v)), some (.int (ii r)), some (.int (ii (btI k)))] [] w := by
    intro k
    induction k with
    | zero =>
      intro r _ h0 _ hp
      refine vX2_rootOf_6 hE _ _ _ ⟨fun _ => hp, fun c => absurd (by decide) c⟩
    | succ k ih =>
      intro r hk h0 hr hp
      have hp0 : (0 : Int) < 2 ^ k := Int.pow_pos (by decide)
      have hp1 : (2 : Int) ^ k ≤ 2 ^ 13 := two_pow_le (by omega)
      have hp2 : (2 : Int) ^ 13 = 8192 := by decide
      have e : (2 : Int) ^ (k + 1) = 2 ^ k + 2 ^ k := by rw [Int.pow_succ]; omega
      have hm : (r + 2 ^ k) * (r + 2 ^ k) ≤ 8192 * 8192 := Int.mul_le_mul (by omega) (by omega) (by omega) (by decide)
      have hm0 : 0 ≤ (r + 2 ^ k) * (r + 2 ^ k) := Int.mul_nonneg (by omega) (by omega)
      have hb : ii (btI (k + 1)) / 2 = ii (btI k) := by
        rw [ii_lit, ii_div (by simp only [btI]; omega) (by simp only [btI]; omega) (by decide) (by decide), btI_half]
      refine vX2_rootOf_6 hE _ _ _ ⟨fun c => ?_, fun c => ⟨fun c2 => ?_, fun c2 => ?_⟩⟩
      · rw [ii_0, ii_le (by simp only [btI]; omega) (by omega)] at c
        simp only [btI] at c
        omega
      · rw [ii_add, ii_mul, ii_lt (by omega) (by simp only [btI]; omega)] at c2
        simp only [btI] at c2
        simp only [rtF] at hp
        rw [if_pos c2] at hp
        rw [hb]
        exact ih r (by omega) h0 (by omega) hp
      · rw [ii_add, ii_mul, ii_lt (by omega) (by simp only [btI]; omega)] at c2
        simp only [btI] at c2
        simp only [rtF] at hp
        rw [if_neg c2] at hp
        rw [hb, ii_add]
        exact ih (r + 2 ^ k) (by omega) (by omega) (by omega) hp
  refine vX2_rootOf_0 hE _ ?_
  have h13 := key 13 0 (Nat.le_refl _) (by decide) (by decide) h
  have e1 : (0 : Int32) = ii 0 := by decide
  have e2 : (4096 : Int32) = ii (btI 13) := by decide
  rw [e1, e2]
  exact h13

theorem c_X9_root_w {g : jm_G} {w : jm_W} {P : Option Value → jm_W → Prop} {v : Int} (hv : 0 ≤ v ∧ v < 67108864) (h : P (some (.int (ii (rt v)))) w) : jm_Cp g m_X9_root [.int (ii v)] w P := by
  refine jm_intro [some (.int (ii v)), none, none] (by decide) rfl rfl (fun κ hE => ?_)
  have key : ∀ (k : Nat) (r : Int), k ≤ 13 → 0 ≤ r → r + 2 ^ k ≤ 8192 → P (some (.int (ii (rtF v k r)))) w → jm_R g m_X9_root κ 0 0 6 [some (.int (ii v)), some (.int (ii r)), some (.int (ii (btI k)))] [] w := by
    intro k
    induction k with
    | zero =>
      intro r _ h0 _ hp
      refine vX9_root_6 hE _ _ _ ⟨fun _ => hp, fun c => absurd (by decide) c⟩
    | succ k ih =>
      intro r hk h0 hr hp
      have hp0 : (0 : Int) < 2 ^ k := Int.pow_pos (by decide)
      have hp1 : (2 : Int) ^ k ≤ 2 ^ 13 := two_pow_le (by omega)
      have hp2 : (2 : Int) ^ 13 = 8192 := by decide
      have e : (2 : Int) ^ (k + 1) = 2 ^ k + 2 ^ k := by rw [Int.pow_succ]; omega
      have hm : (r + 2 ^ k) * (r + 2 ^ k) ≤ 8192 * 8192 := Int.mul_le_mul (by omega) (by omega) (by omega) (by decide)
      have hm0 : 0 ≤ (r + 2 ^ k) * (r + 2 ^ k) := Int.mul_nonneg (by omega) (by omega)
      have hb : ii (btI (k + 1)) / 2 = ii (btI k) := by
        rw [ii_lit, ii_div (by simp only [btI]; omega) (by simp only [btI]; omega) (by decide) (by decide), btI_half]
      refine vX9_root_6 hE _ _ _ ⟨fun c => ?_, fun c => ⟨fun c2 => ?_, fun c2 => ?_⟩⟩
      · rw [ii_0, ii_le (by simp only [btI]; omega) (by omega)] at c
        simp only [btI] at c
        omega
      · rw [ii_add, ii_mul, ii_lt (by omega) (by simp only [btI]; omega)] at c2
        simp only [btI] at c2
        simp only [rtF] at hp
        rw [if_pos c2] at hp
        rw [hb, ii_0, ii_add, Int.add_zero]
        exact ih r (by omega) h0 (by omega) hp
      · rw [ii_add, ii_mul, ii_lt (by omega) (by simp only [btI]; omega)] at c2
        simp only [btI] at c2
        simp only [rtF] at hp
        rw [if_neg c2] at hp
        rw [hb, ii_add]
        exact ih (r + 2 ^ k) (by omega) (by omega) (by omega) hp
  refine vX9_root_0 hE _ ?_
  have h13 := key 13 0 (Nat.le_refl _) (by decide) (by decide) h
  have e1 : (0 : Int32) = ii 0 := by decide
  have e2 : (4096 : Int32) = ii (btI 13) := by decide
  rw [e1, e2]
  exact h13

def mkFit (b : Nat) : List jm_Sh := [.inl (1, [some (some (b + 1)), none, none, none]), .inr (0, 4, none)]
def mkPad (b : Nat) : List jm_Sh := [.inl (5, [some (some (b + 1)), some (some (b + 2)), none, none, none, none]), .inr (1, 80, none), .inr (0, 20, none)]
def mkFrame (b : Nat) : List jm_Sh := [.inl (2, [some (some (b + 1)), some (some (b + 2)), none]), .inr (0, 1681, none), .inr (0, 1681, none)]
theorem i_X6 {g : jm_G} : jm_Mk g m_X6_init 6 [some none, none, none, none, none, none] jm_shShot (fun _ _ => True) := by
  intro Γ0 b ad μ P hb w0 z0 hp
  refine jm_intro [some (.ref b)] (by decide) rfl rfl (fun κ hE => ?_)
  refine jr_aload_n dX6_init_0 rfl (jr_objInit jc_RX6_3 dX6_init_1 rfl rfl ?_)
  refine mk_arr 0 4 0 hb w0 rfl (fun r hr => onb (by simpa using hr)) dX6_init_4 (fun st w kk => jr_iconst _ dX6_init_5 (by decide) kk) dX6_init_6 rfl rfl rfl ja_int rfl (by decide) rfl jf_RX6_9 rfl rfl dX6_init_8 (by simp) (fun _ => rfl) (fun _ => rfl) (fun ad1 h1 w1 => ?_)
  exact jr_vret hE rfl dX6_init_11 rfl (hp ad1 _ h1 w1 (fun c hc => jm_up_n _ _ (by show c ≠ b + 1; omega)) trivial)
theorem i_X1 {g : jm_G} : jm_Mk g m_X1_init 1 [some none, none, none, none] mkFit (fun _ _ => True) := by
  intro Γ0 b ad μ P hb w0 z0 hp
  refine jm_intro [some (.ref b)] (by decide) rfl rfl (fun κ hE => ?_)
  refine jr_aload_n dX1_init_0 rfl (jr_objInit jc_RX1_3 dX1_init_1 rfl rfl ?_)
  refine mk_arr 0 4 0 hb w0 rfl (fun r hr => onb (by simpa using hr)) dX1_init_4 (fun st w kk => jr_iconst _ dX1_init_5 (by decide) kk) dX1_init_6 rfl rfl rfl ja_int rfl (by decide) rfl jf_RX1_9 rfl rfl dX1_init_8 (by simp) (fun _ => rfl) (fun _ => rfl) (fun ad1 h1 w1 => ?_)
  exact jr_vret hE rfl dX1_init_11 rfl (hp ad1 _ h1 w1 (fun c hc => jm_up_n _ _ (by show c ≠ b + 1; omega)) trivial)
theorem i_X5 {g : jm_G} : jm_Mk g m_X5_init 5 [some none, some none, none, none, none, none] mkPad (fun b μ => μ b = fun _ => 0) := by
  intro Γ0 b ad μ P hb w0 z0 hp
  refine jm_intro [some (.ref b)] (by decide) rfl rfl (fun κ hE => ?_)
  refine jr_aload_n dX5_init_0 rfl (jr_objInit jc_RX5_3 dX5_init_1 rfl rfl ?_)
  refine mk_arr 1 80 0 hb w0 rfl (fun r hr => onb (by simpa using hr)) dX5_init_4 (fun st w kk => jr_bipush _ dX5_init_5 (by decide) kk) dX5_init_7 rfl rfl rfl ja_char rfl (by decide) rfl jf_RX5_11 rfl rfl dX5_init_9 (by simp) (fun _ => rfl) (fun _ => rfl) (fun ad1 h1 w1 => ?_)
  refine mk_arr 0 20 1 hb w1 rfl (fun r hr => onb (by simpa using hr)) dX5_init_12 (fun st w kk => jr_bipush _ dX5_init_13 (by decide) kk) dX5_init_15 rfl rfl rfl ja_int rfl (by decide) rfl jf_RX5_15 rfl rfl dX5_init_17 (by simp) (fun _ => rfl) (fun _ => rfl) (fun ad2 h2 w2 => ?_)
  exact jr_vret hE rfl dX5_init_20 rfl (hp ad2 _ (fun r hr => by rw [h2 r (by show r < b + 1 + 1; omega), h1 r hr]) w2 (fun c hc => by rw [jm_up_n _ _ (by show c ≠ b + 1 + 1; omega), jm_up_n _ _ (by show c ≠ b + 1; omega)]) (by show (jm_up (jm_up μ (b + 1) (fun _ => 0)) (b + 1 + 1) (fun _ => 0)) b = (fun _ => 0); rw [jm_up_n _ _ (by omega), jm_up_n _ _ (by omega)]; exact z0))
end JMP
