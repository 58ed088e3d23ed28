section JDI
/-! the root by bits, distances, times: numbers -/
def rtF (v : Int) : Nat → Int → Int
  | 0, r => r
  | k + 1, r => rtF v k (if v < (r + 2 ^ k) * (r + 2 ^ k) then r else r + 2 ^ k)
def rt (v : Int) : Int := rtF v 13 0
theorem rtF_spec (v : Int) : ∀ (k : Nat) (r : Int), 0 ≤ r → r * r ≤ v → v < (r + 2 ^ k) * (r + 2 ^ k) → 0 ≤ rtF v k r ∧ rtF v k r * rtF v k r ≤ v ∧ v < (rtF v k r + 1) * (rtF v k r + 1) ∧ rtF v k r < r + 2 ^ k := by
  intro k
  induction k with
  | zero =>
    intro r h0 h1 h2
    simp only [rtF, Int.pow_zero] at *
    exact ⟨h0, h1, h2, by omega⟩
  | succ k ih =>
    intro r h0 h1 h2
    have hp : (0 : Int) < 2 ^ k := Int.pow_pos (by decide)
    have e : (2 : Int) ^ (k + 1) = 2 ^ k + 2 ^ k := by rw [Int.pow_succ]; omega
    rw [e] at h2 ⊢
    simp only [rtF]
    by_cases c : v < (r + 2 ^ k) * (r + 2 ^ k)
    · rw [if_pos c]
      obtain ⟨a, b, d, f⟩ := ih r h0 h1 c
      exact ⟨a, b, d, by omega⟩
    · rw [if_neg c]
      obtain ⟨a, b, d, f⟩ := ih (r + 2 ^ k) (by omega) (by omega) (by rw [Int.add_assoc]; exact h2)
      exact ⟨a, b, d, by omega⟩
theorem rt_spec {v : Int} (h0 : 0 ≤ v) (h : v < 67108864) : 0 ≤ rt v ∧ rt v * rt v ≤ v ∧ v < (rt v + 1) * (rt v + 1) := by
  obtain ⟨a, b, c, d⟩ := rtF_spec v 13 0 (by omega) (by omega) (by show v < (0 + 8192) * (0 + 8192); omega)
  exact ⟨a, b, c⟩
theorem sq_lt {a b : Int} (ha : 0 ≤ a) (h : a * a < b * b) (hb : 0 ≤ b) : a < b := by
  rcases Int.lt_or_le a b with c | c
  · exact c
  · have := Int.mul_le_mul c c hb ha
    omega
theorem rt_mono {v w : Int} (h0 : 0 ≤ v) (h : v ≤ w) (hw : w < 67108864) : rt v ≤ rt w := by
  obtain ⟨a1, a2, a3⟩ := rt_spec h0 (by omega)
  obtain ⟨b1, b2, b3⟩ := rt_spec (v := w) (by omega) hw
  have := sq_lt a1 (show rt v * rt v < (rt w + 1) * (rt w + 1) by omega) (by omega)
  omega
theorem rt_le {v b : Int} (h0 : 0 ≤ v) (h : v < 67108864) (hb : 0 ≤ b) (hv : v < (b + 1) * (b + 1)) : rt v ≤ b := by
  obtain ⟨a1, a2, a3⟩ := rt_spec h0 h
  have := sq_lt a1 (show rt v * rt v < (b + 1) * (b + 1) by omega) (by omega)
  omega
/-- the distance of two points whose coordinates differ so -/
def dD (dx dy : Int) : Int := rt (10000 * (dx * dx + dy * dy))
theorem sq_le40 {x : Int} (h0 : 0 ≤ x) (h : x ≤ 40) : 0 ≤ x * x ∧ x * x ≤ 1600 := by
  have h1 := Int.mul_le_mul h h h0 (by decide : (0:Int) ≤ 40)
  have h2 := Int.mul_nonneg h0 h0
  omega
theorem sq_mono {x y : Int} (h0 : 0 ≤ x) (h : x ≤ y) : x * x ≤ y * y := Int.mul_le_mul h h h0 (by omega)
theorem dD_rng {dx dy : Int} (hx : 0 ≤ dx ∧ dx ≤ 40) (hy : 0 ≤ dy ∧ dy ≤ 40) : 0 ≤ dD dx dy ∧ dD dx dy ≤ 5656 := by
  have h1 := sq_le40 hx.1 hx.2
  have h2 := sq_le40 hy.1 hy.2
  refine ⟨(rt_spec (by omega) (by omega)).1, rt_le (by omega) (by omega) (by omega) ?_⟩
  show _ < (5656 + 1 : Int) * (5656 + 1)
  omega
theorem dD_mono {dx dy dx' dy' : Int} (h1 : 0 ≤ dx) (h2 : dx ≤ dx') (h3 : dx' ≤ 40) (h4 : 0 ≤ dy) (h5 : dy ≤ dy') (h6 : dy' ≤ 40) : dD dx dy ≤ dD dx' dy' := by
  have a1 := sq_le40 (by omega : 0 ≤ dx') h3
  have a2 := sq_le40 (by omega : 0 ≤ dy') h6
  have b1 := sq_mono h1 h2
  have b2 := sq_mono h4 h5
  have c1 := Int.mul_nonneg h1 h1
  have c2 := Int.mul_nonneg h4 h4
  exact rt_mono (by omega) (by omega) (by omega)
theorem dD_comm (dx dy : Int) : dD dx dy = dD dy dx := by
  unfold dD
  rw [Int.add_comm]
/-- the speed by heat -/
def spd (h : Int) : Int := 331 + 3 * h / 5
theorem spd_rng {h : Int} (h1 : -30 ≤ h) (h2 : h ≤ 50) : 313 ≤ spd h ∧ spd h ≤ 361 := by
  unfold spd
  omega
/-- what a crack takes over such a difference -/
def tD (sp dx dy : Int) : Int := 100 * dD dx dy / sp
theorem tD_rng {sp dx dy : Int} (hs : 313 ≤ sp) (hx : 0 ≤ dx ∧ dx ≤ 40) (hy : 0 ≤ dy ∧ dy ≤ 40) : 0 ≤ tD sp dx dy ∧ tD sp dx dy ≤ 1807 := by
  have h := dD_rng hx hy
  unfold tD
  refine ⟨Int.ediv_nonneg (by omega) (by omega), ?_⟩
  have h3 : 100 * dD dx dy / sp < 1808 := by
    apply Int.ediv_lt_of_lt_mul (by omega)
    have : (1808 : Int) * 313 ≤ 1808 * sp := Int.mul_le_mul_of_nonneg_left hs (by decide)
    omega
  omega
theorem tD_mono {sp dx dy dx' dy' : Int} (hs : 0 < sp) (h1 : 0 ≤ dx) (h2 : dx ≤ dx') (h3 : dx' ≤ 40) (h4 : 0 ≤ dy) (h5 : dy ≤ dy') (h6 : dy' ≤ 40) : tD sp dx dy ≤ tD sp dx' dy' := by
  have := dD_mono h1 h2 h3 h4 h5 h6
  exact Int.ediv_le_ediv hs (by omega)
/-- how far a point lies from an ear, along each side -/
def axE (e x : Int) : Int := if e = 1 ∨ e = 2 then 40 - x else x
def ayE (e y : Int) : Int := if 2 ≤ e then 40 - y else y
/-- what a crack takes from a point to an ear -/
def tk (sp e x y : Int) : Int := tD sp (axE e x) (ayE e y)
theorem axE_rng {e x : Int} (h : 0 ≤ x ∧ x ≤ 40) : 0 ≤ axE e x ∧ axE e x ≤ 40 := by
  unfold axE
  split <;> omega
theorem ayE_rng {e y : Int} (h : 0 ≤ y ∧ y ≤ 40) : 0 ≤ ayE e y ∧ ayE e y ≤ 40 := by
  unfold ayE
  split <;> omega
theorem tk_rng {sp e x y : Int} (hs : 313 ≤ sp) (hx : 0 ≤ x ∧ x ≤ 40) (hy : 0 ≤ y ∧ y ≤ 40) : 0 ≤ tk sp e x y ∧ tk sp e x y ≤ 1807 := tD_rng hs (axE_rng hx) (ayE_rng hy)
end JDI
