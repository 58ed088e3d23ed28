section JMS
/-- an array of references to objects in a row -/
def jm_lst (b s n : Nat) : Nat → Option Nat := fun j => if j < n then some (b + s * j) else none
def jm_shHeard (h : Nat) : List jm_Sh := [.inl (3, [some (some (h + 1)), some (some (h + 2)), none]), .inr (0, 3, none), .inr (0, 32, none)]
def jm_shShot (t : Nat) : List jm_Sh := [.inl (6, [some (some (t + 1)), none, none, none, none, none]), .inr (0, 4, none)]
def jm_shShots (u : Nat) : List jm_Sh := [.inl (7, [some (some (u + 1)), some (some (u + 2)), none]), .inr (4, 8, some (jm_lst (u + 3) 2 8)), .inr (0, 32, none)] ++ (jm_shShot (u + 3) ++ jm_shShot (u + 5) ++ jm_shShot (u + 7) ++ jm_shShot (u + 9) ++ jm_shShot (u + 11) ++ jm_shShot (u + 13) ++ jm_shShot (u + 15) ++ jm_shShot (u + 17))
/-- the class's cells, and the reference's, once both are made -/
def jm_GA : List jm_Sh := [.inl (8, [some (some 1), some (some 4), some (some 24), some (some 25), some (some 26), some (some 29), some (some 32), some (some 38), some (some 57), none])] ++ jm_shHeard 1 ++ [.inl (4, [some (some 5), none, none]), .inr (3, 6, some (jm_lst 6 3 6))] ++ jm_shHeard 6 ++ jm_shHeard 9 ++ jm_shHeard 12 ++ jm_shHeard 15 ++ jm_shHeard 18 ++ jm_shHeard 21 ++ [.inr (3, 2, some (jm_lst 76 3 2)), .inr (2, 2, none)] ++ [.inl (5, [some (some 27), some (some 28), none, none, none, none]), .inr (1, 80, none), .inr (0, 20, none)] ++ [.inl (2, [some (some 30), some (some 31), none]), .inr (0, 1681, none), .inr (0, 1681, none)] ++ [.inl (0, [some (some 33), some (some 35), some (some 36), some (some 37)]), .inl (1, [some (some 34), none, none, none]), .inr (0, 4, none), .inr (0, 8, none), .inr (0, 4, none), .inr (0, 4, none)] ++ jm_shShots 38 ++ jm_shShots 57 ++ jm_shHeard 76 ++ jm_shHeard 79
def jm_GB : List jm_Sh := [.inl (9, [some (some 83), some (some 84), some (some 85), none, some (some 86), some (some 87), some (some 88), none, some (some 89), some (some 90), none, none, some (some 91), some (some 92), some (some 93), some (some 94), some (some 95), some (some 96), some (some 97), some (some 98), none, none, none, none, none, none, none]), .inr (0, 68, none), .inr (0, 68, none), .inr (0, 408, none), .inr (0, 136, none), .inr (0, 2, none), .inr (0, 80, none), .inr (0, 1681, none), .inr (0, 6724, none), .inr (0, 32, none), .inr (0, 8, none), .inr (0, 8, none), .inr (0, 8, none), .inr (0, 32, none), .inr (0, 4, none), .inr (0, 8, none), .inr (0, 4, none)]
def jm_GAM : List jm_Sh := jm_GA ++ jm_GB
theorem ga_0 : jm_GAM[0]? = some (.inl (8, [some (some 1), some (some 4), some (some 24), some (some 25), some (some 26), some (some 29), some (some 32), some (some 38), some (some 57), none])) := rfl
theorem ga_1 : jm_GAM[1]? = some (.inl (3, [some (some 2), some (some 3), none])) := rfl
theorem ga_2 : jm_GAM[2]? = some (.inr (0, 3, none)) := rfl
theorem ga_3 : jm_GAM[3]? = some (.inr (0, 32, none)) := rfl
theorem ga_4 : jm_GAM[4]? = some (.inl (4, [some (some 5), none, none])) := rfl
theorem ga_5 : jm_GAM[5]? = some (.inr (3, 6, some (jm_lst 6 3 6))) := rfl
theorem ga_6 : jm_GAM[6]? = some (.inl (3, [some (some 7), some (some 8), none])) := rfl
theorem ga_7 : jm_GAM[7]? = some (.inr (0, 3, none)) := rfl
theorem ga_8 : jm_GAM[8]? = some (.inr (0, 32, none)) := rfl
theorem ga_9 : jm_GAM[9]? = some (.inl (3, [some (some 10), some (some 11), none])) := rfl
theorem ga_10 : jm_GAM[10]? = some (.inr (0, 3, none)) := rfl
theorem ga_11 : jm_GAM[11]? = some (.inr (0, 32, none)) := rfl
theorem ga_12 : jm_GAM[12]? = some (.inl (3, [some (some 13), some (some 14), none])) := rfl
theorem ga_13 : jm_GAM[13]? = some (.inr (0, 3, none)) := rfl
theorem ga_14 : jm_GAM[14]? = some (.inr (0, 32, none)) := rfl
theorem ga_15 : jm_GAM[15]? = some (.inl (3, [some (some 16), some (some 17), none])) := rfl
theorem ga_16 : jm_GAM[16]? = some (.inr (0, 3, none)) := rfl
theorem ga_17 : jm_GAM[17]? = some (.inr (0, 32, none)) := rfl
theorem ga_18 : jm_GAM[18]? = some (.inl (3, [some (some 19), some (some 20), none])) := rfl
theorem ga_19 : jm_GAM[19]? = some (.inr (0, 3, none)) := rfl
theorem ga_20 : jm_GAM[20]? = some (.inr (0, 32, none)) := rfl
theorem ga_21 : jm_GAM[21]? = some (.inl (3, [some (some 22), some (some 23), none])) := rfl
theorem ga_22 : jm_GAM[22]? = some (.inr (0, 3, none)) := rfl
theorem ga_23 : jm_GAM[23]? = some (.inr (0, 32, none)) := rfl
theorem ga_24 : jm_GAM[24]? = some (.inr (3, 2, some (jm_lst 76 3 2))) := rfl
theorem ga_25 : jm_GAM[25]? = some (.inr (2, 2, none)) := rfl
theorem ga_26 : jm_GAM[26]? = some (.inl (5, [some (some 27), some (some 28), none, none, none, none])) := rfl
theorem ga_27 : jm_GAM[27]? = some (.inr (1, 80, none)) := rfl
theorem ga_28 : jm_GAM[28]? = some (.inr (0, 20, none)) := rfl
theorem ga_29 : jm_GAM[29]? = some (.inl (2, [some (some 30), some (some 31), none])) := rfl
theorem ga_30 : jm_GAM[30]? = some (.inr (0, 1681, none)) := rfl
theorem ga_31 : jm_GAM[31]? = some (.inr (0, 1681, none)) := rfl
theorem ga_32 : jm_GAM[32]? = some (.inl (0, [some (some 33), some (some 35), some (some 36), some (some 37)])) := rfl
theorem ga_33 : jm_GAM[33]? = some (.inl (1, [some (some 34), none, none, none])) := rfl
theorem ga_34 : jm_GAM[34]? = some (.inr (0, 4, none)) := rfl
theorem ga_35 : jm_GAM[35]? = some (.inr (0, 8, none)) := rfl
theorem ga_36 : jm_GAM[36]? = some (.inr (0, 4, none)) := rfl
theorem ga_37 : jm_GAM[37]? = some (.inr (0, 4, none)) := rfl
theorem ga_38 : jm_GAM[38]? = some (.inl (7, [some (some 39), some (some 40), none])) := rfl
theorem ga_39 : jm_GAM[39]? = some (.inr (4, 8, some (jm_lst 41 2 8))) := rfl
theorem ga_40 : jm_GAM[40]? = some (.inr (0, 32, none)) := rfl
theorem ga_41 : jm_GAM[41]? = some (.inl (6, [some (some 42), none, none, none, none, none])) := rfl
theorem ga_42 : jm_GAM[42]? = some (.inr (0, 4, none)) := rfl
theorem ga_43 : jm_GAM[43]? = some (.inl (6, [some (some 44), none, none, none, none, none])) := rfl
theorem ga_44 : jm_GAM[44]? = some (.inr (0, 4, none)) := rfl
theorem ga_45 : jm_GAM[45]? = some (.inl (6, [some (some 46), none, none, none, none, none])) := rfl
theorem ga_46 : jm_GAM[46]? = some (.inr (0, 4, none)) := rfl
theorem ga_47 : jm_GAM[47]? = some (.inl (6, [some (some 48), none, none, none, none, none])) := rfl
theorem ga_48 : jm_GAM[48]? = some (.inr (0, 4, none)) := rfl
theorem ga_49 : jm_GAM[49]? = some (.inl (6, [some (some 50), none, none, none, none, none])) := rfl
theorem ga_50 : jm_GAM[50]? = some (.inr (0, 4, none)) := rfl
theorem ga_51 : jm_GAM[51]? = some (.inl (6, [some (some 52), none, none, none, none, none])) := rfl
theorem ga_52 : jm_GAM[52]? = some (.inr (0, 4, none)) := rfl
theorem ga_53 : jm_GAM[53]? = some (.inl (6, [some (some 54), none, none, none, none, none])) := rfl
theorem ga_54 : jm_GAM[54]? = some (.inr (0, 4, none)) := rfl
theorem ga_55 : jm_GAM[55]? = some (.inl (6, [some (some 56), none, none, none, none, none])) := rfl
theorem ga_56 : jm_GAM[56]? = some (.inr (0, 4, none)) := rfl
theorem ga_57 : jm_GAM[57]? = some (.inl (7, [some (some 58), some (some 59), none])) := rfl
theorem ga_58 : jm_GAM[58]? = some (.inr (4, 8, some (jm_lst 60 2 8))) := rfl
theorem ga_59 : jm_GAM[59]? = some (.inr (0, 32, none)) := rfl
theorem ga_60 : jm_GAM[60]? = some (.inl (6, [some (some 61), none, none, none, none, none])) := rfl
theorem ga_61 : jm_GAM[61]? = some (.inr (0, 4, none)) := rfl
theorem ga_62 : jm_GAM[62]? = some (.inl (6, [some (some 63), none, none, none, none, none])) := rfl
theorem ga_63 : jm_GAM[63]? = some (.inr (0, 4, none)) := rfl
theorem ga_64 : jm_GAM[64]? = some (.inl (6, [some (some 65), none, none, none, none, none])) := rfl
theorem ga_65 : jm_GAM[65]? = some (.inr (0, 4, none)) := rfl
theorem ga_66 : jm_GAM[66]? = some (.inl (6, [some (some 67), none, none, none, none, none])) := rfl
theorem ga_67 : jm_GAM[67]? = some (.inr (0, 4, none)) := rfl
theorem ga_68 : jm_GAM[68]? = some (.inl (6, [some (some 69), none, none, none, none, none])) := rfl
theorem ga_69 : jm_GAM[69]? = some (.inr (0, 4, none)) := rfl
theorem ga_70 : jm_GAM[70]? = some (.inl (6, [some (some 71), none, none, none, none, none])) := rfl
theorem ga_71 : jm_GAM[71]? = some (.inr (0, 4, none)) := rfl
theorem ga_72 : jm_GAM[72]? = some (.inl (6, [some (some 73), none, none, none, none, none])) := rfl
theorem ga_73 : jm_GAM[73]? = some (.inr (0, 4, none)) := rfl
theorem ga_74 : jm_GAM[74]? = some (.inl (6, [some (some 75), none, none, none, none, none])) := rfl
theorem ga_75 : jm_GAM[75]? = some (.inr (0, 4, none)) := rfl
theorem ga_76 : jm_GAM[76]? = some (.inl (3, [some (some 77), some (some 78), none])) := rfl
theorem ga_77 : jm_GAM[77]? = some (.inr (0, 3, none)) := rfl
theorem ga_78 : jm_GAM[78]? = some (.inr (0, 32, none)) := rfl
theorem ga_79 : jm_GAM[79]? = some (.inl (3, [some (some 80), some (some 81), none])) := rfl
theorem ga_80 : jm_GAM[80]? = some (.inr (0, 3, none)) := rfl
theorem ga_81 : jm_GAM[81]? = some (.inr (0, 32, none)) := rfl
theorem ga_82 : jm_GAM[82]? = some (.inl (9, [some (some 83), some (some 84), some (some 85), none, some (some 86), some (some 87), some (some 88), none, some (some 89), some (some 90), none, none, some (some 91), some (some 92), some (some 93), some (some 94), some (some 95), some (some 96), some (some 97), some (some 98), none, none, none, none, none, none, none])) := rfl
theorem ga_83 : jm_GAM[83]? = some (.inr (0, 68, none)) := rfl
theorem ga_84 : jm_GAM[84]? = some (.inr (0, 68, none)) := rfl
theorem ga_85 : jm_GAM[85]? = some (.inr (0, 408, none)) := rfl
theorem ga_86 : jm_GAM[86]? = some (.inr (0, 136, none)) := rfl
theorem ga_87 : jm_GAM[87]? = some (.inr (0, 2, none)) := rfl
theorem ga_88 : jm_GAM[88]? = some (.inr (0, 80, none)) := rfl
theorem ga_89 : jm_GAM[89]? = some (.inr (0, 1681, none)) := rfl
theorem ga_90 : jm_GAM[90]? = some (.inr (0, 6724, none)) := rfl
theorem ga_91 : jm_GAM[91]? = some (.inr (0, 32, none)) := rfl
theorem ga_92 : jm_GAM[92]? = some (.inr (0, 8, none)) := rfl
theorem ga_93 : jm_GAM[93]? = some (.inr (0, 8, none)) := rfl
theorem ga_94 : jm_GAM[94]? = some (.inr (0, 8, none)) := rfl
theorem ga_95 : jm_GAM[95]? = some (.inr (0, 32, none)) := rfl
theorem ga_96 : jm_GAM[96]? = some (.inr (0, 4, none)) := rfl
theorem ga_97 : jm_GAM[97]? = some (.inr (0, 8, none)) := rfl
theorem ga_98 : jm_GAM[98]? = some (.inr (0, 4, none)) := rfl
def jm_Heard (h : Nat) : Prop := jm_GAM[h]? = some (.inl (3, [some (some (h + 1)), some (some (h + 2)), none])) ∧ jm_GAM[h + 1]? = some (.inr (0, 3, none)) ∧ jm_GAM[h + 2]? = some (.inr (0, 32, none))
def jm_Shot (t : Nat) : Prop := jm_GAM[t]? = some (.inl (6, [some (some (t + 1)), none, none, none, none, none])) ∧ jm_GAM[t + 1]? = some (.inr (0, 4, none))
def jm_Shots (u : Nat) : Prop := jm_GAM[u]? = some (.inl (7, [some (some (u + 1)), some (some (u + 2)), none])) ∧ jm_GAM[u + 1]? = some (.inr (4, 8, some (jm_lst (u + 3) 2 8))) ∧ jm_GAM[u + 2]? = some (.inr (0, 32, none)) ∧ ∀ j : Nat, j < 8 → jm_Shot (u + 3 + 2 * j)
theorem jm_heard1 : jm_Heard 1 := ⟨rfl, rfl, rfl⟩
theorem jm_lt6 {P : Nat → Prop} (h0 : P 0) (h1 : P 1) (h2 : P 2) (h3 : P 3) (h4 : P 4) (h5 : P 5) {j : Nat} (h : j < 6) : P j := by
  rcases (show j = 0 ∨ j = 1 ∨ j = 2 ∨ j = 3 ∨ j = 4 ∨ j = 5 by omega) with rfl | rfl | rfl | rfl | rfl | rfl <;> assumption
theorem jm_lt8 {P : Nat → Prop} (h0 : P 0) (h1 : P 1) (h2 : P 2) (h3 : P 3) (h4 : P 4) (h5 : P 5) (h6 : P 6) (h7 : P 7) (j : Nat) (h : j < 8) : P j := by
  rcases (show j = 0 ∨ j = 1 ∨ j = 2 ∨ j = 3 ∨ j = 4 ∨ j = 5 ∨ j = 6 ∨ j = 7 by omega) with rfl | rfl | rfl | rfl | rfl | rfl | rfl | rfl <;> assumption
theorem jm_states_heard {j : Nat} (h : j < 6) : jm_Heard (6 + 3 * j) := jm_lt6 (P := fun j => jm_Heard (6 + 3 * j)) ⟨rfl, rfl, rfl⟩ ⟨rfl, rfl, rfl⟩ ⟨rfl, rfl, rfl⟩ ⟨rfl, rfl, rfl⟩ ⟨rfl, rfl, rfl⟩ ⟨rfl, rfl, rfl⟩ h
theorem jm_slots_heard {j : Nat} (h : j < 2) : jm_Heard (76 + 3 * j) := by
  rcases (show j = 0 ∨ j = 1 by omega) with rfl | rfl
  · exact ⟨rfl, rfl, rfl⟩
  · exact ⟨rfl, rfl, rfl⟩
theorem jm_shots38 : jm_Shots 38 := ⟨rfl, rfl, rfl, jm_lt8 ⟨rfl, rfl⟩ ⟨rfl, rfl⟩ ⟨rfl, rfl⟩ ⟨rfl, rfl⟩ ⟨rfl, rfl⟩ ⟨rfl, rfl⟩ ⟨rfl, rfl⟩ ⟨rfl, rfl⟩⟩
theorem jm_shots57 : jm_Shots 57 := ⟨rfl, rfl, rfl, jm_lt8 ⟨rfl, rfl⟩ ⟨rfl, rfl⟩ ⟨rfl, rfl⟩ ⟨rfl, rfl⟩ ⟨rfl, rfl⟩ ⟨rfl, rfl⟩ ⟨rfl, rfl⟩ ⟨rfl, rfl⟩⟩
theorem jm_inD {i : Int32} {n : Nat} (h : decide (¬ (i < 0 ∨ n ≤ i.toNatClampNeg)) = true) : vp_in i n := (of_decide_eq_true h : ¬ (i < 0 ∨ n ≤ i.toNatClampNeg))
theorem jm_inlt {i : Int32} {n : Nat} (h : vp_in i n) : i.toNatClampNeg < n := Nat.not_le.mp fun q => h (Or.inr q)
/-- the judgement over the steady world: nothing is made -/
abbrev jS (g : jm_G) (ad : Nat → Nat) (M : jm_M) (κ : jm_K) (pc : Nat) (ls : List (Option Value)) (st : List Value) (μ : Nat → Nat → Int32) : Prop := jm_R g M κ 0 0 pc ls st (jm_GAM, ad, μ)
abbrev jQ (ad : Nat → Nat) (P : Option Value → (Nat → Nat → Int32) → Prop) : Option Value → jm_W → Prop := fun v w' => ∃ μ', w' = (jm_GAM, ad, μ') ∧ P v μ'
def jD (g : jm_G) (ad : Nat → Nat) (M : jm_M) (av : List Value) (μ : Nat → Nat → Int32) (P : Option Value → (Nat → Nat → Int32) → Prop) : Prop := jm_Cp g M av (jm_GAM, ad, μ) (jQ ad P)
def jE (g : jm_G) (ad : Nat → Nat) (M : jm_M) (P : Option Value → (Nat → Nat → Int32) → Prop) (κ : jm_K) : Prop := jm_E g M (jQ ad P) κ
section
variable {g : jm_G} {ad : Nat → Nat} {M M2 : jm_M} {κ : jm_K} {pc : Nat} {ls : List (Option Value)} {st : List Value} {μ : Nat → Nat → Int32} {P : Option Value → (Nat → Nat → Int32) → Prop}
theorem jd_intro {av : List Value} (ls : List (Option Value)) (hy : plainName M.1.cls = true) (hav : jm_ok0 av M.2.2.1 = true) (hls : jm_l0 av ++ List.replicate (M.2.2.1 - (jm_l0 av).length) none = ls) (body : ∀ κ : jm_K, jE g ad M P κ → jS g ad M κ 0 ls [] μ) : jD g ad M av μ P := jm_intro ls hy hav hls body
theorem js_drop (i : Nat) (ls' : List (Option Value)) (h : ls.set i none = ls') {n k : Nat} {w : jm_W} (kk : jm_R g M κ k n pc ls' st w) : jm_R g M κ k n pc ls st w := by
  obtain ⟨p, e, s, m, args, below, meth, c, A, Q⟩ := κ
  intro C H locs la hP hD hS hl
  subst h
  refine kk C H locs la hP hD hS (jm_has hl (fun q hq => ?_))
  obtain ⟨v, h1, h2⟩ := jm_ls_in.mp hq
  refine jm_ls_in.mpr ⟨v, ?_, h2⟩
  by_cases hi : i = q.1
  · rw [← hi, List.getElem?_set_self'] at h1
    cases hz : ls[i]? with
    | none => simp [hz] at h1
    | some z => simp [hz] at h1
  · rwa [List.getElem?_set_ne hi] at h1
theorem js_mem {n k : Nat} {Γ : List jm_Sh} {μ1 μ2 : Nat → Nat → Int32} (e : μ1 = μ2) (kk : jm_R g M κ k n pc ls st (Γ, ad, μ1)) : jm_R g M κ k n pc ls st (Γ, ad, μ2) := by rw [← e]; exact kk
theorem js_iret {v : Int32} (hE : jE g ad M P κ) (hret : M.2.2.2.1 = some .int) (hdg : decode M.2.1 pc = .ok (.ireturn, 1)) (hkn : decide (0 ≤ M.2.2.2.2.cells ∧ 0 ≤ M.2.2.2.2.slots) = true) (hp : P (some (.int v)) μ) : jS g ad M κ pc ls [.int v] μ := jr_iret hE hret hdg hkn ⟨μ, rfl, hp⟩
theorem js_zret {v : Int32} (hE : jE g ad M P κ) (hret : M.2.2.2.1 = some .boolean) (hdg : decode M.2.1 pc = .ok (.ireturn, 1)) (hkn : decide (0 ≤ M.2.2.2.2.cells ∧ 0 ≤ M.2.2.2.2.slots) = true) (hv : v = 0 ∨ v = 1) (hp : P (some (.int v)) μ) : jS g ad M κ pc ls [.int v] μ := jr_zret hE hret hdg hkn hv ⟨μ, rfl, hp⟩
theorem js_vret (hE : jE g ad M P κ) (hret : M.2.2.2.1 = none) (hdg : decode M.2.1 pc = .ok (.return_, 1)) (hkn : decide (0 ≤ M.2.2.2.2.cells ∧ 0 ≤ M.2.2.2.2.slots) = true) (hp : P none μ) : jS g ad M κ pc ls [] μ := jr_vret hE hret hdg hkn ⟨μ, rfl, hp⟩
theorem js_aret {q : Nat} {rt : FieldType} (hE : jE g ad M P κ) (hret : M.2.2.2.1 = some rt) (hrt : (∃ nm, rt = .object nm) ∨ ∃ t, rt = .array t) (hdg : decode M.2.1 pc = .ok (.areturn, 1)) (hkn : decide (0 ≤ M.2.2.2.2.cells ∧ 0 ≤ M.2.2.2.2.slots) = true) (hp : P (some (.ref q)) μ) : jS g ad M κ pc ls [.ref q] μ := jr_aret hE hret hrt hdg hkn ⟨μ, rfl, hp⟩
/-- a contract says less, if less is asked -/
theorem jm_Cp.mono {g : jm_G} {M : jm_M} {av : List Value} {w : jm_W} {P P' : Option Value → jm_W → Prop} (h : jm_Cp g M av w P) (hp : ∀ v w', P v w' → P' v w') : jm_Cp g M av w P' := by
  intro sz
  have h1 := h sz
  intro p e ha hc hk s m args below hf happ hpre hK
  obtain ⟨t, o, h2, h3, h4, ⟨⟨⟨v, w', e1, e2, e3⟩, e4⟩, e5⟩⟩ := h1 p e ha hc hk s m args below hf happ hpre hK
  exact ⟨t, o, h2, h3, h4, ⟨⟨⟨v, w', e1, hp _ _ e2, e3⟩, e4⟩, e5⟩⟩
theorem js_callV {idx np q : Nat} {st0 : List Value} (As : List Value) {ci : Nat} {fs : List (Option (Option Nat))} (hL : jm_LV M.1.cls idx M2 np) (hfit : jm_fit M M2 = true) (hdg : decode M.2.1 pc = .ok (.invokevirtual idx, 3)) (hg : jm_GAM[q]? = some (.inl (ci, fs))) (hci : (vwCl[ci]?).map (fun r => r.1) = some M2.1.cls) (hst : st0 = As.reverse ++ .ref q :: st) (hnp : As.length = np) (hlow : jm_low st = true) (hz : M2.2.2.2.2.cells = 0 ∧ M2.2.2.2.2.slots = 0 := by exact ⟨rfl, rfl⟩)
    (kk : jD g ad M2 (.ref q :: As) μ (fun v μ' => jS g ad M κ (pc + 3) ls (jm_ps v st) μ')) : jS g ad M κ pc ls st0 μ := by
  refine jr_callV (w := (jm_GAM, ad, μ)) As hL hfit hdg hg hci hst hnp hlow (by rw [hz.1, hz.2]; simp) (jm_Cp.mono kk (fun v w' hw => ?_))
  obtain ⟨μ', rfl, h⟩ := hw
  refine ⟨rfl, ?_⟩
  rw [hz.1, hz.2]
  exact h
theorem js_callS {idx np : Nat} {st0 : List Value} (As : List Value) (hL : jm_LS M.1.cls idx M2 np) (hfit : jm_fit M M2 = true) (hdg : decode M.2.1 pc = .ok (.invokestatic idx, 3)) (hst : st0 = As.reverse ++ st) (hnp : As.length = np) (hlow : jm_low st = true) (hz : M2.2.2.2.2.cells = 0 ∧ M2.2.2.2.2.slots = 0 := by exact ⟨rfl, rfl⟩)
    (kk : jD g ad M2 As μ (fun v μ' => jS g ad M κ (pc + 3) ls (jm_ps v st) μ')) : jS g ad M κ pc ls st0 μ := by
  refine jr_callS (w := (jm_GAM, ad, μ)) As hL hfit hdg hst hnp hlow (by rw [hz.1, hz.2]; simp) (jm_Cp.mono kk (fun v w' hw => ?_))
  obtain ⟨μ', rfl, h⟩ := hw
  refine ⟨rfl, ?_⟩
  rw [hz.1, hz.2]
  exact h
theorem js_callNS {idx np : Nat} {st0 : List Value} (As : List Value) (hL : jm_LNS M.1.cls idx M2 np) (hfit : jm_fit M M2 = true) (hdg : decode M.2.1 pc = .ok (.invokestatic idx, 3)) (hst : st0 = As.reverse ++ st) (hnp : As.length = np) (hlow : jm_low st = true) (hz : M2.2.2.2.2.cells = 0 ∧ M2.2.2.2.2.slots = 0 := by exact ⟨rfl, rfl⟩)
    (kk : jD g ad M2 As μ (fun v μ' => jS g ad M κ (pc + 3) ls (jm_ps v st) μ')) : jS g ad M κ pc ls st0 μ := by
  refine jr_callNS (w := (jm_GAM, ad, μ)) As hL hfit hdg hst hnp hlow (by rw [hz.1, hz.2]; simp) (jm_Cp.mono kk (fun v w' hw => ?_))
  obtain ⟨μ', rfl, h⟩ := hw
  refine ⟨rfl, ?_⟩
  rw [hz.1, hz.2]
  exact h
end
section
variable {g : jm_G} {M : jm_M} {κ : jm_K} {k n pc : Nat} {ls : List (Option Value)} {st : List Value} {w : jm_W}
theorem jr_ialdn {q : Nat} {len : Nat} {i : Int32} (j : Nat) (hdg : decode M.2.1 pc = .ok (.iaload, 1)) (hg : w.1[q]? = some (.inr (0, len, none))) (hi : vp_in i len) (hj : i.toNatClampNeg = j) (kk : jm_R g M κ k n (pc + 1) ls (.int (w.2.2 q j) :: st) w) : jm_R g M κ k n pc ls (.int i :: .ref q :: st) w := by
  subst hj; exact jr_iald hdg hg hi kk
theorem jr_caldn {q : Nat} {len : Nat} {i : Int32} (j : Nat) (hdg : decode M.2.1 pc = .ok (.caload, 1)) (hg : w.1[q]? = some (.inr (1, len, none))) (hi : vp_in i len) (hj : i.toNatClampNeg = j) (kk : jm_R g M κ k n (pc + 1) ls (.int (w.2.2 q j) :: st) w) : jm_R g M κ k n pc ls (.int i :: .ref q :: st) w := by
  subst hj; exact jr_cald hdg hg hi kk
theorem jr_zaldn {q : Nat} {len : Nat} {i : Int32} (j : Nat) (hdg : decode M.2.1 pc = .ok (.baload, 1)) (hg : w.1[q]? = some (.inr (2, len, none))) (hi : vp_in i len) (hj : i.toNatClampNeg = j) (kk : jm_R g M κ k n (pc + 1) ls (.int (w.2.2 q j) :: st) w) : jm_R g M κ k n pc ls (.int i :: .ref q :: st) w := by
  subst hj; exact jr_zald hdg hg hi kk
theorem jr_iastn {q : Nat} {len : Nat} {i x : Int32} {Γ : List jm_Sh} {ad : Nat → Nat} {μ : Nat → Nat → Int32} (j : Nat) (hdg : decode M.2.1 pc = .ok (.iastore, 1)) (hg : Γ[q]? = some (.inr (0, len, none))) (hi : vp_in i len) (hj : i.toNatClampNeg = j) (kk : jm_R g M κ k n (pc + 1) ls st (Γ, ad, jm_st μ q j x)) : jm_R g M κ k n pc ls (.int x :: .int i :: .ref q :: st) (Γ, ad, μ) := by
  subst hj; exact jr_iast hdg hg hi kk
theorem jr_castn {q : Nat} {len : Nat} {i x : Int32} {Γ : List jm_Sh} {ad : Nat → Nat} {μ : Nat → Nat → Int32} (j : Nat) (hdg : decode M.2.1 pc = .ok (.castore, 1)) (hg : Γ[q]? = some (.inr (1, len, none))) (hi : vp_in i len) (hj : i.toNatClampNeg = j) (kk : jm_R g M κ k n (pc + 1) ls st (Γ, ad, jm_st μ q j (vp_nar .char x))) : jm_R g M κ k n pc ls (.int x :: .int i :: .ref q :: st) (Γ, ad, μ) := by
  subst hj; exact jr_cast hdg hg hi kk
theorem jr_zastn {q : Nat} {len : Nat} {i x : Int32} {Γ : List jm_Sh} {ad : Nat → Nat} {μ : Nat → Nat → Int32} (j : Nat) (hdg : decode M.2.1 pc = .ok (.bastore, 1)) (hg : Γ[q]? = some (.inr (2, len, none))) (hi : vp_in i len) (hj : i.toNatClampNeg = j) (kk : jm_R g M κ k n (pc + 1) ls st (Γ, ad, jm_st μ q j (vp_nar .boolean x))) : jm_R g M κ k n pc ls (.int x :: .int i :: .ref q :: st) (Γ, ad, μ) := by
  subst hj; exact jr_zast hdg hg hi kk
end
end JMS
