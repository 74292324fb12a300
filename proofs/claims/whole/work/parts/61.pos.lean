/-! signs -/
theorem sq0 (x : Int) : 0 ≤ x * x := by
  rcases Int.le_total 0 x with h | h
  · exact Int.mul_nonneg h h
  · exact Int.mul_nonneg_of_nonpos_of_nonpos h h
theorem pos_of_mul {a b : Int} (ha : 0 < a) (h : 0 < a * b) : 0 < b := by
  apply Int.lt_of_not_ge; intro hb
  have h1 : a * b ≤ a * 0 := Int.mul_le_mul_of_nonneg_left hb (Int.le_of_lt ha)
  omega
theorem nn_of_mul {a b : Int} (ha : 0 < a) (h : 0 ≤ a * b) : 0 ≤ b := by
  apply Int.le_of_not_gt; intro hb
  have h1 : a * b < a * 0 := Int.mul_lt_mul_of_pos_left hb ha
  omega
/-- a form that isn't negative -/
theorem form_nn {a b c x y : Int} (ha : 0 ≤ a) (hc : 0 ≤ c) (hd : b * b ≤ a * c) : 0 ≤ a * (y * y) + c * (x * x) + b * (-2 * x * y) := by
  rcases Int.lt_or_eq_of_le ha with h | h
  · refine nn_of_mul h ?_
    have e : a * (a * (y * y) + c * (x * x) + b * (-2 * x * y)) = (a * y - b * x) * (a * y - b * x) + (a * c - b * b) * (x * x) := by grind
    rw [e]
    have h1 := sq0 (a * y - b * x)
    have h2 := Int.mul_nonneg (show 0 ≤ a * c - b * b by omega) (sq0 x)
    omega
  · have hb : b = 0 := by
      rw [← h, Int.zero_mul] at hd
      have h1 := sq0 b
      have h2 : b * b = 0 := by omega
      rcases Int.mul_eq_zero.mp h2 with h3 | h3 <;> exact h3
    rw [← h, hb, Int.zero_mul, Int.zero_mul]
    have h2 := Int.mul_nonneg hc (sq0 x)
    omega
/-- the mixed part of the determinant of a sum -/
theorem mix_nn {a b c p q r : Int} (ha : 0 ≤ a) (hc : 0 ≤ c) (hd : b * b ≤ a * c) (hp : 0 ≤ p) (hr : 0 ≤ r) (hq : q * q ≤ p * r) : 0 ≤ a * r + c * p - 2 * (b * q) := by
  rcases Int.lt_or_eq_of_le hp with h | h
  · refine nn_of_mul h ?_
    have e : p * (a * r + c * p - 2 * (b * q)) = (c * (p * p) + a * (q * q) + b * (-2 * p * q)) + a * (p * r - q * q) := by grind
    rw [e]
    have h1 := form_nn (a := a) (b := b) (c := c) (x := p) (y := q) ha hc hd
    have h2 := Int.mul_nonneg ha (show 0 ≤ p * r - q * q by omega)
    have e2 : a * (q * q) + c * (p * p) + b * (-2 * p * q) = c * (p * p) + a * (q * q) + b * (-2 * p * q) := by grind
    omega
  · have hb : q = 0 := by
      rw [← h, Int.zero_mul] at hq
      have h1 := sq0 q
      have h2 : q * q = 0 := by omega
      rcases Int.mul_eq_zero.mp h2 with h3 | h3 <;> exact h3
    rw [← h, hb, Int.mul_zero, Int.mul_zero, Int.mul_zero]
    have h2 := Int.mul_nonneg ha hr
    omega
theorem Good.l2 {c : Nat → Int} (h : Good c) : 0 < c 3 ∧ c 2 * c 2 < c 1 * c 3 := by
  obtain ⟨⟨h0, h1, h4⟩, ha, -⟩ := h
  have h5 := Int.mul_pos h4 h0
  have h6 := sq0 (c 2)
  exact ⟨pos_of_mul h1 (by omega), by omega⟩
theorem Good.toH {c : Nat → Int} (h : Good c) : GoodH c := ⟨⟨h.1.1, Int.le_of_lt h.1.2.1, Int.le_of_lt h.l2.1, Int.le_of_lt h.1.2.2⟩, h.2⟩
theorem GoodH.ps {c : Nat → Int} (h : GoodH c) : c 2 * c 2 ≤ c 1 * c 3 := by
  obtain ⟨⟨h0, h1, h3, h4⟩, ha, -⟩ := h
  have h5 := Int.mul_nonneg h4 (Int.le_of_lt h0)
  omega
theorem good_est {m0 m1 a b c : Int} (h : Pd a b c) : Good (estV m0 m1 a b c) := by
  obtain ⟨h1, h2⟩ := h
  refine ⟨⟨?_, ?_, ?_⟩, eq5_est _ _ _ _ _⟩ <;> simp only [estV]
  · omega
  · exact pos_of_mul h1 (by have := sq0 b; omega)
  · decide
theorem goodH_blank : GoodH blankV := ⟨by simp [blankV], eq5_blank⟩
theorem learn_nn {c : Nat → Int} (h : GoodH c) (h0 h1 : Int) : 0 ≤ c 1 * (h1 * h1) + c 3 * (h0 * h0) + c 2 * (-2 * h0 * h1) := form_nn h.1.2.1 h.1.2.2.1 h.ps
theorem good_learn {c : Nat → Int} (h : Good c) {h0 h1 r x : Int} (hr : 1 ≤ r) : Good (learnV c h0 h1 r x) := by
  have hn := learn_nn h.toH h0 h1
  have q1 := Int.mul_pos h.1.1 (show 0 < r by omega)
  have q2 := Int.mul_pos h.1.2.1 (show 0 < r by omega)
  have q3 := Int.mul_pos h.1.2.2 (show 0 < r by omega)
  have q4 := Int.mul_nonneg (Int.le_of_lt h.1.1) (sq0 h0)
  refine ⟨⟨?_, ?_, ?_⟩, eq5_learn h.2 _ _ _ _⟩ <;> simp only [learnV] <;> omega
theorem goodH_learn {c : Nat → Int} (h : GoodH c) {h0 h1 r x : Int} (hr : 1 ≤ r) : GoodH (learnV c h0 h1 r x) := by
  have hn := learn_nn h h0 h1
  have q1 := Int.mul_pos h.1.1 (show 0 < r by omega)
  have q2 := Int.mul_nonneg h.1.2.1 (show 0 ≤ r by omega)
  have q3 := Int.mul_nonneg h.1.2.2.1 (show 0 ≤ r by omega)
  have q5 := Int.mul_nonneg h.1.2.2.2 (show 0 ≤ r by omega)
  have q4 := Int.mul_nonneg (Int.le_of_lt h.1.1) (sq0 h0)
  have q6 := Int.mul_nonneg (Int.le_of_lt h.1.1) (sq0 h1)
  refine ⟨⟨?_, ?_, ?_, ?_⟩, eq5_learn h.2 _ _ _ _⟩ <;> simp only [learnV] <;> omega
theorem pd3 {a b c : Int} (h : Pd a b c) : 0 < c := pos_of_mul h.1 (by have := sq0 b; have := h.2; omega)
theorem pd_neg {q0 q1 q2 : Int} (hq : Pd q0 q1 q2) : -q1 * -q1 ≤ q2 * q0 := by
  have := hq.2
  have e : -q1 * -q1 = q1 * q1 := by grind
  have e2 : q2 * q0 = q0 * q2 := Int.mul_comm _ _
  omega
/-- noise after a move: only the form and the determinant count -/
theorem good_noise {c : Nat → Int} (hu : 0 ≤ c 0) (h1 : 0 ≤ c 1) (h3 : 0 ≤ c 3) (h4 : 0 < c 4) (h : Eq5 c) {q0 q1 q2 : Int} (hq : Pd q0 q1 q2) : Good (noiseV c q0 q1 q2) := by
  have hp : c 2 * c 2 ≤ c 1 * c 3 := by
    have h5 := Int.mul_nonneg (Int.le_of_lt h4) hu
    have := h.1
    omega
  have hq2 := pd3 hq
  have hm := mix_nn h1 h3 hp (p := q2) (q := -q1) (r := q0) (Int.le_of_lt hq2) (Int.le_of_lt hq.1) (pd_neg hq)
  have hd := Int.mul_pos h4 (show 0 < q0 * q2 - q1 * q1 by have := hq.2; omega)
  have h2 := Int.mul_pos h4 hq2
  refine ⟨⟨?_, ?_, ?_⟩, eq5_noise h _ _ _⟩ <;> simp only [noiseV]
  · have e : c 1 * q0 + c 3 * q2 - 2 * (c 2 * -q1) = c 1 * q0 + c 3 * q2 + c 2 * (2 * q1) := by grind
    omega
  · omega
  · exact h4
theorem goodH_noise {c : Nat → Int} (h : GoodH c) {q0 q1 q2 : Int} (hq : Pd q0 q1 q2) : GoodH (noiseV c q0 q1 q2) := by
  have hp := h.ps
  have hq2 := pd3 hq
  have hm := mix_nn h.1.2.1 h.1.2.2.1 hp (p := q2) (q := -q1) (r := q0) (Int.le_of_lt hq2) (Int.le_of_lt hq.1) (pd_neg hq)
  have hd := Int.mul_nonneg h.1.2.2.2 (show 0 ≤ q0 * q2 - q1 * q1 by have := hq.2; omega)
  have h2 := Int.mul_nonneg h.1.2.2.2 (Int.le_of_lt hq2)
  have h3 := Int.mul_nonneg h.1.2.2.2 (Int.le_of_lt hq.1)
  have g0 := h.1.1
  have g1 := h.1.2.1
  have g2 := h.1.2.2.1
  have g3 := h.1.2.2.2
  refine ⟨⟨?_, ?_, ?_, ?_⟩, eq5_noise h.2 _ _ _⟩ <;> simp only [noiseV]
  · have e : c 1 * q0 + c 3 * q2 - 2 * (c 2 * -q1) = c 1 * q0 + c 3 * q2 + c 2 * (2 * q1) := by grind
    omega
  · omega
  · omega
  · omega
theorem good_adv {c x f : Nat → Int} (h : Good c) {q0 q1 q2 : Int} (hq : Pd q0 q1 q2) : Good (noiseV (onV x c f) q0 q1 q2) := by
  have hH := h.toH
  refine good_noise ?_ ?_ ?_ ?_ (eq5_on h.2 x f) hq <;> simp only [onV, scaleV, turnV]
  · exact Int.mul_nonneg (Int.le_of_lt h.1.1) (sq0 _)
  · have := form_nn (x := f 2) (y := f 3) hH.1.2.1 hH.1.2.2.1 hH.ps
    have e : c 1 * (f 3 * f 3) + c 3 * (f 2 * f 2) + c 2 * (-2 * f 2 * f 3) = c 1 * (f 3 * f 3) + c 2 * (2 * f 3 * -(f 2)) + c 3 * (-(f 2) * -(f 2)) := by grind
    omega
  · have := form_nn (x := f 0) (y := f 1) hH.1.2.1 hH.1.2.2.1 hH.ps
    have e : c 1 * (f 1 * f 1) + c 3 * (f 0 * f 0) + c 2 * (-2 * f 0 * f 1) = c 1 * (-(f 1) * -(f 1)) + c 2 * (2 * -(f 1) * f 0) + c 3 * (f 0 * f 0) := by grind
    omega
  · have := h.1.2.2
    omega
theorem goodH_back {c x f : Nat → Int} (h : GoodH c) : GoodH (backV x c f) := by
  refine ⟨⟨?_, ?_, ?_, ?_⟩, eq5_back h.2 x f⟩ <;> simp only [backV, scaleV, turnV]
  · have := h.1.1
    omega
  · have := form_nn (x := f 2) (y := -(f 0)) h.1.2.1 h.1.2.2.1 h.ps
    have e : c 1 * (-(f 0) * -(f 0)) + c 3 * (f 2 * f 2) + c 2 * (-2 * f 2 * -(f 0)) = c 1 * (f 0 * f 0) + c 2 * (2 * f 0 * f 2) + c 3 * (f 2 * f 2) := by grind
    omega
  · have := form_nn (x := f 3) (y := -(f 1)) h.1.2.1 h.1.2.2.1 h.ps
    have e : c 1 * (-(f 1) * -(f 1)) + c 3 * (f 3 * f 3) + c 2 * (-2 * f 3 * -(f 1)) = c 1 * (f 1 * f 1) + c 2 * (2 * f 1 * f 3) + c 3 * (f 3 * f 3) := by grind
    omega
  · exact Int.mul_nonneg h.1.2.2.2 (sq0 _)
/-- to learn in another order, and to learn before or after a join -/
theorem learn_comm (c : Nat → Int) (h0 h1 r x k0 k1 s y : Int) : ∀ i, i < 9 → learnV (learnV c h0 h1 r x) k0 k1 s y i = learnV (learnV c k0 k1 s y) h0 h1 r x i := fun i hi => by
  have h9 : i = 0 ∨ i = 1 ∨ i = 2 ∨ i = 3 ∨ i = 4 ∨ i = 5 ∨ i = 6 ∨ i = 7 ∨ i = 8 := by omega
  rcases h9 with e | e | e | e | e | e | e | e | e <;> subst e <;> simp only [learnV] <;> grind
theorem join_learn (x x1 u v : Nat → Int) (h0 h1 r y : Int) : ∀ i, i < 6 → six (joinV x (learnV u h0 h1 r y) v) i = six (joinV x1 u (learnV v h0 h1 r y)) i := fun i hi => by
  have h9 : i = 0 ∨ i = 1 ∨ i = 2 ∨ i = 3 ∨ i = 4 ∨ i = 5 := by omega
  rcases h9 with e | e | e | e | e | e <;> subst e <;> simp only [six, joinV, learnV] <;> grind
theorem join_blank (x u : Nat → Int) : ∀ i, i < 6 → six (joinV x u blankV) i = six u i := fun i hi => by
  have h9 : i = 0 ∨ i = 1 ∨ i = 2 ∨ i = 3 ∨ i = 4 ∨ i = 5 := by omega
  rcases h9 with e | e | e | e | e | e <;> subst e <;> simp only [six, joinV, blankV] <;> grind
theorem join_pos {u v x : Nat → Int} (hu : Good u) (hv : GoodH v) : 0 < joinV x u v 4 := by
  have hm := mix_nn (a := u 1) (b := u 2) (c := u 3) (p := v 1) (q := v 2) (r := v 3) hu.toH.1.2.1 hu.toH.1.2.2.1 hu.toH.ps hv.1.2.1 hv.1.2.2.1 hv.ps
  have h1 := Int.mul_pos hu.1.2.2 hv.1.1
  have h2 := Int.mul_nonneg hv.1.2.2.2 (Int.le_of_lt hu.1.1)
  simp only [joinV]
  generalize u 2 * v 2 = w1 at *
  generalize u 1 * v 3 = w2 at *
  generalize u 3 * v 1 = w3 at *
  omega
