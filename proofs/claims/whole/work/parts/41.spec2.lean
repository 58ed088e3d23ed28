section JS2
/-! the document's state, and what each call answers and leaves -/
def hasB (f : Nat → Int) (m : Int) : Nat → Bool
  | 0 => false
  | n + 1 => hasB f m n || decide (f n = m)
theorem hasB_iff {f : Nat → Int} {m : Int} : ∀ {n : Nat}, hasB f m n = true ↔ hasF n f m := by
  intro n
  induction n with
  | zero =>
    constructor
    · intro h; cases h
    · rintro ⟨j, hj, -⟩; omega
  | succ n ih =>
    show (hasB f m n || decide (f n = m)) = true ↔ _
    rw [Bool.or_eq_true, ih, decide_eq_true_eq]
    constructor
    · rintro (⟨j, h1, h2⟩ | h)
      · exact ⟨j, by omega, h2⟩
      · exact ⟨n, by omega, h⟩
    · rintro ⟨j, h1, h2⟩
      by_cases c : j = n
      · exact Or.inr (by rw [← c]; exact h2)
      · exact Or.inl ⟨j, by omega, h2⟩
def plc (f : Nat → Int) (m : Int) : Nat → Nat
  | 0 => 0
  | n + 1 => if f n < m then n + 1 else plc f m n
theorem plc_is {f : Nat → Int} {m : Int} : ∀ {n : Nat}, fS n f → isPl n f m (plc f m n) := by
  intro n
  induction n with
  | zero => intro _; exact ⟨Nat.le_refl _, fun j hj => absurd hj (Nat.not_lt_zero _), fun j _ hj => absurd hj (Nat.not_lt_zero _)⟩
  | succ n ih =>
    intro h
    unfold plc
    by_cases c : f n < m
    · rw [if_pos c]
      refine ⟨Nat.le_refl _, fun j hj => ?_, fun j h1 h2 => by omega⟩
      by_cases c2 : j = n
      · rw [c2]; exact c
      · have := h j n (by omega) (by omega)
        omega
    · rw [if_neg c]
      obtain ⟨a, b, d⟩ := ih (fun i j h1 h2 => h i j h1 (by omega))
      refine ⟨by omega, b, fun j h1 h2 => ?_⟩
      by_cases c2 : j = n
      · rw [c2]; omega
      · exact d j h1 (by omega)
theorem ins_ok {n p : Nat} {f : Nat → Int} {m : Int} (hB : fB n f) (hS : fS n f) (hm : 0 ≤ m ∧ m ≤ 399999) (hp : isPl n f m p) (hh : ¬ hasF n f m) : fB (n + 1) (insF f p m) ∧ fS (n + 1) (insF f p m) := by
  obtain ⟨p1, p2, p3⟩ := hp
  have p4 : ∀ j : Nat, p ≤ j → j < n → m < f j := by
    intro j h1 h2
    have h3 := p3 j h1 h2
    have h4 : f j ≠ m := fun c => hh ⟨j, h2, c⟩
    omega
  refine ⟨fun j hj => ?_, fun i j hij hj => ?_⟩
  · unfold insF
    by_cases c1 : j < p
    · rw [if_pos c1]; exact hB j (by omega)
    · rw [if_neg c1]
      by_cases c2 : j = p
      · rw [if_pos c2]; exact hm
      · rw [if_neg c2]; exact hB (j - 1) (by omega)
  · unfold insF
    by_cases c1 : j < p
    · rw [if_pos (by omega), if_pos c1]; exact hS i j hij (by omega)
    · rw [if_neg c1]
      by_cases c2 : j = p
      · rw [if_pos c2, if_pos (by omega)]; exact p2 i (by omega)
      · rw [if_neg c2]
        by_cases c3 : i < p
        · rw [if_pos c3]
          have := p2 i c3
          have := p4 (j - 1) (by omega) (by omega)
          omega
        · rw [if_neg c3]
          by_cases c4 : i = p
          · rw [if_pos c4]; exact p4 (j - 1) (by omega) (by omega)
          · rw [if_neg c4]; exact hS (i - 1) (j - 1) (by omega) (by omega)
theorem del_ok {n p : Nat} {f : Nat → Int} (hB : fB n f) (hS : fS n f) : fB (n - 1) (delF f p) ∧ fS (n - 1) (delF f p) := by
  refine ⟨fun j hj => ?_, fun i j hij hj => ?_⟩
  · unfold delF
    split
    · exact hB j (by omega)
    · exact hB (j + 1) (by omega)
  · unfold delF
    by_cases c1 : j < p
    · rw [if_pos (by omega), if_pos c1]; exact hS i j hij (by omega)
    · rw [if_neg c1]
      split
      · exact hS i (j + 1) (by omega) (by omega)
      · exact hS (i + 1) (j + 1) (by omega) (by omega)
/-- the whole state: now, history, slots, pad -/
abbrev sT : Type := sH × List sH × (Nat → Option sH) × List Int
def insH (h : sH) (m : Int) : sH := (h.1, h.2.1 + 1, insF h.2.2 (plc h.2.2 m h.2.1) m)
def delH (h : sH) (p : Nat) : sH := (h.1, h.2.1 - 1, delF h.2.2 p)
theorem insH_v {h : sH} {m : Int} (hv : vH h) (hm : 0 ≤ m ∧ m ≤ 399999) (hn : h.2.1 < 32) (hh : ¬ hasF h.2.1 h.2.2 m) : vH (insH h m) := by
  obtain ⟨v0, v1, v2, vn, vB, vS⟩ := hv
  obtain ⟨a, b⟩ := ins_ok vB vS hm (plc_is vS) hh
  exact ⟨v0, v1, v2, hn, a, b⟩
theorem delH_v {h : sH} {p : Nat} (hv : vH h) : vH (delH h p) := by
  obtain ⟨v0, v1, v2, vn, vB, vS⟩ := hv
  obtain ⟨a, b⟩ := del_ok (p := p) vB vS
  exact ⟨v0, v1, v2, by show h.2.1 - 1 ≤ 32; omega, a, b⟩
/-- a change of the state's now -/
def chg (σ : sT) (h : sH) : sT := (h, pushH σ.2.1 σ.1, σ.2.2.1, σ.2.2.2)
def loS (a : Int) : Int := if a = 0 then -30 else if a = 1 then 100 else 0
def hiS (a : Int) : Int := if a = 0 then 50 else if a = 1 then 4000 else 300
def opSet (σ : sT) (a b : Int) : Int × sT := if 0 ≤ a ∧ a ≤ 2 ∧ loS a ≤ b ∧ b ≤ hiS a then (σ.1.1 a.toNat + 100, chg σ (fun i => if i = a.toNat then b else σ.1.1 i, σ.1.2)) else (-2, σ)
/-- why a mark isn't heard: 0 if it is -/
def whyM (h : sH) (m : Int) : Int := if hasB h.2.2 m h.2.1 = true then -5 else if h.2.1 = 32 then -4 else 0
def opHear (σ : sT) (e t : Int) : Int × sT := if ¬ (0 ≤ e ∧ e < 4) then (-1, σ) else if ¬ (0 ≤ t ∧ t ≤ 99999) then (-2, σ) else if whyM σ.1 (t * 4 + e) = 0 then ((plc σ.1.2.2 (t * 4 + e) σ.1.2.1 : Nat), chg σ (insH σ.1 (t * 4 + e))) else (whyM σ.1 (t * 4 + e), σ)
def fireM (h : sH) (x y t : Int) (e : Nat) : Int := (t + tk (spd (h.1 0)) e x y) * 4 + e
def fireH (h : sH) (x y t : Int) : Nat → sH
  | 0 => h
  | e + 1 => insH (fireH h x y t e) (fireM h x y t e)
def anyF (h : sH) (x y t : Int) : Nat → Bool
  | 0 => false
  | e + 1 => anyF h x y t e || hasB h.2.2 (fireM h x y t e) h.2.1
def opFire (σ : sT) (x y t : Int) : Int × sT := if ¬ (0 ≤ x ∧ x ≤ 40 ∧ 0 ≤ y ∧ y ≤ 40) then (-1, σ) else if ¬ (0 ≤ t ∧ t ≤ 90000) then (-2, σ) else if anyF σ.1 x y t 4 = true then (-5, σ) else if 28 < σ.1.2.1 then (-4, σ) else ((σ.1.2.1 + 4 : Nat), chg σ (fireH σ.1 x y t 4))
def isP (σ : sT) (z : Int) : Prop := 0 ≤ z ∧ z < σ.1.2.1
def opForget (σ : sT) (z : Int) : Int × sT := if 0 ≤ z ∧ z < σ.1.2.1 then (σ.1.2.2 z.toNat / 4, chg σ (delH σ.1 z.toNat)) else (-1, σ)
def opClear (σ : sT) : Int × sT := (σ.1.2.1, chg σ (σ.1.1, 0, σ.1.2.2))
def opTakes (σ : sT) (x y e : Int) : Int := if 0 ≤ x ∧ x ≤ 40 ∧ 0 ≤ y ∧ y ≤ 40 ∧ 0 ≤ e ∧ e < 4 then tk (spd (σ.1.1 0)) e x y else -1
/-- the shots of the state -/
def fdT (σ : sT) : fS3 := fd σ.1 (σ.1.1 0) (-1)
def opPulse (σ : sT) (z w : Int) : Int := if ¬ (0 ≤ z ∧ z < σ.1.2.1) then -1 else if w = 0 then σ.1.2.2 z.toNat % 4 else if w = 1 then σ.1.2.2 z.toNat / 4 else if w = 2 then (fdT σ).1 z.toNat else -2
def opShot (σ : sT) (z w : Int) : Int := if 0 ≤ z ∧ z < (fdT σ).2.2 then tellS ((fdT σ).2.1 z.toNat) w else -1
def opCount (σ : sT) (w : Int) : Int := if w = 0 then σ.1.2.1 else if w = 1 then (fdT σ).2.2 else if w = 2 then σ.1.2.1 - 4 * (fdT σ).2.2 else if w = 3 then sumK (fun s => rng s.2.1 s.2.2.1) (fdT σ).2.1 (fdT σ).2.2 else if w = 4 then (grK (fdT σ).2.1 (fdT σ).2.2).1 else if w = 5 then sumK (fun s => s.2.2.2.1) (fdT σ).2.1 (fdT σ).2.2 else if w = 6 then wdK (fdT σ).2.1 (fdT σ).2.2 else if w = 7 then spd (σ.1.1 0) else if w = 8 then σ.1.1 0 + 100 else if w = 9 then σ.1.1 1 else if w = 10 then σ.1.1 2 else if w = 11 then σ.2.2.2.length else if w = 12 then σ.2.1.length else -2
def opFits (σ : sT) (z x y : Int) : Int := if 0 ≤ z ∧ z < (fdT σ).2.2 ∧ 0 ≤ x ∧ x ≤ 40 ∧ 0 ≤ y ∧ y ≤ 40 then spr (spd (σ.1.1 0)) (fun e => σ.1.2.2 (((fdT σ).2.1 z.toNat).1 e).toNat / 4) x y else -1
def opMean (σ : sT) (w : Int) : Int := if w ≠ 0 ∧ w ≠ 1 then -2 else if (fdT σ).2.2 = 0 then -6 else if w = 0 then sumK (fun s => s.2.1) (fdT σ).2.1 (fdT σ).2.2 * 100 / (fdT σ).2.2 else sumK (fun s => s.2.2.1) (fdT σ).2.1 (fdT σ).2.2 * 100 / (fdT σ).2.2
def opIfHeat (σ : sT) (t w : Int) : Int := if ¬ (-30 ≤ t ∧ t ≤ 50) ∨ ¬ (0 ≤ w ∧ w ≤ 2) then -2 else if w = 0 then (fd σ.1 t (-1)).2.2 else if w = 1 then sumK (fun s => rng s.2.1 s.2.2.1) (fd σ.1 t (-1)).2.1 (fd σ.1 t (-1)).2.2 else sumK (fun s => s.2.2.2.1) (fd σ.1 t (-1)).2.1 (fd σ.1 t (-1)).2.2
/-- the sum of spreads at a heat -/
def sSp (h : sH) (t : Int) : Int := sumK (fun s => s.2.2.2.1) (fd h t (-1)).2.1 (fd h t (-1)).2.2
/-- the best of the first k heats, its shots, its sum of spreads -/
def bhK (h : sH) : Nat → Int × Int × Int
  | 0 => (-30, -1, 0)
  | k + 1 => if (bhK h k).2.1 < (fd h (-30 + 10 * k) (-1)).2.2 ∨ (((fd h (-30 + 10 * k) (-1)).2.2 : Int) = (bhK h k).2.1 ∧ sSp h (-30 + 10 * k) < (bhK h k).2.2) then (-30 + 10 * k, (fd h (-30 + 10 * k) (-1)).2.2, sSp h (-30 + 10 * k)) else bhK h k
def opBestHeat (σ : sT) : Int := (bhK σ.1 9).1 + 100
def opIfForgot (σ : sT) (z : Int) : Int := if 0 ≤ z ∧ z < σ.1.2.1 then (fd σ.1 (σ.1.1 0) z).2.2 else -1
def opWipe (σ : sT) : Int × sT := (σ.2.2.2.length, (σ.1, σ.2.1, σ.2.2.1, []))
def opUndo (σ : sT) : Int × sT := match σ.2.1.getLast? with
  | none => (-5, σ)
  | some h => ((σ.2.1.dropLast.length : Nat), (h, σ.2.1.dropLast, σ.2.2.1, σ.2.2.2))
def opSave (σ : sT) (i : Int) : Int × sT := if 0 ≤ i ∧ i < 2 then (σ.1.2.1, (σ.1, σ.2.1, fun k => if k = i.toNat then some σ.1 else σ.2.2.1 k, σ.2.2.2)) else (-2, σ)
def opRestore (σ : sT) (i : Int) : Int × sT := if 0 ≤ i ∧ i < 2 then (match σ.2.2.1 i.toNat with
  | none => (-5, σ)
  | some h => (h.2.1, chg σ h)) else (-2, σ)
end JS2
