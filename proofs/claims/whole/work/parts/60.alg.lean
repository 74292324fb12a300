/-! the nine numbers of a belief: what holds of them -/
def six (c : Nat → Int) : Nat → Int := fun i => match i with
  | 0 => c 7
  | 1 => c 8
  | 2 => c 3
  | 3 => -(c 2)
  | 4 => c 1
  | _ => c 4
def Eq5 (c : Nat → Int) : Prop := c 1 * c 3 - c 2 * c 2 = c 4 * c 0 ∧ (c 1 * c 7 + c 2 * c 8 = c 4 * c 5 ∧ c 2 * c 7 + c 3 * c 8 = c 4 * c 6) ∧ (c 0 * c 7 = c 3 * c 5 - c 2 * c 6 ∧ c 0 * c 8 = c 1 * c 6 - c 2 * c 5)
def Good (c : Nat → Int) : Prop := (0 < c 0 ∧ 0 < c 1 ∧ 0 < c 4) ∧ Eq5 c
def GoodH (c : Nat → Int) : Prop := (0 < c 0 ∧ 0 ≤ c 1 ∧ 0 ≤ c 3 ∧ 0 ≤ c 4) ∧ Eq5 c
theorem lc1 {P Q A B k : Int} (h : A = B) (e : P - Q = k * (A - B)) : P = Q := by
  rw [h, Int.sub_self, Int.mul_zero] at e; omega
theorem lc2 {P Q A B k A1 B1 k1 : Int} (h : A = B) (h1 : A1 = B1) (e : P - Q = k * (A - B) + k1 * (A1 - B1)) : P = Q := by
  rw [h, h1, Int.sub_self, Int.sub_self, Int.mul_zero, Int.mul_zero] at e; omega
theorem lc3 {P Q A B k A1 B1 k1 A2 B2 k2 : Int} (h : A = B) (h1 : A1 = B1) (h2 : A2 = B2) (e : P - Q = k * (A - B) + k1 * (A1 - B1) + k2 * (A2 - B2)) : P = Q := by
  rw [h, h1, h2, Int.sub_self, Int.sub_self, Int.sub_self, Int.mul_zero, Int.mul_zero, Int.mul_zero] at e; omega
theorem eq5_est (m0 m1 a b c : Int) : Eq5 (estV m0 m1 a b c) := by
  simp only [Eq5, estV]
  refine ⟨?_, ⟨?_, ?_⟩, ?_, ?_⟩ <;> grind
theorem eq5_blank : Eq5 blankV := by simp [Eq5, blankV]
theorem eq5_learn {c : Nat → Int} (h : Eq5 c) (h0 h1 r x : Int) : Eq5 (learnV c h0 h1 r x) := by
  obtain ⟨ha, ⟨hb0, hb1⟩, hc0, hc1⟩ := h
  simp only [Eq5, learnV]
  generalize c 0 = u at *
  generalize c 1 = l0 at *
  generalize c 2 = l1 at *
  generalize c 3 = l2 at *
  generalize c 4 = d at *
  generalize c 5 = v0 at *
  generalize c 6 = v1 at *
  generalize c 7 = c0 at *
  generalize c 8 = c1 at *
  refine ⟨?_, ⟨?_, ?_⟩, ?_, ?_⟩ <;> grind
theorem eq5_noise {c : Nat → Int} (h : Eq5 c) (q0 q1 q2 : Int) : Eq5 (noiseV c q0 q1 q2) := by
  obtain ⟨ha, ⟨hb0, hb1⟩, hc0, hc1⟩ := h
  simp only [Eq5, noiseV]
  generalize c 0 = u at *
  generalize c 1 = l0 at *
  generalize c 2 = l1 at *
  generalize c 3 = l2 at *
  generalize c 4 = d at *
  generalize c 5 = v0 at *
  generalize c 6 = v1 at *
  generalize c 7 = c0 at *
  generalize c 8 = c1 at *
  refine ⟨?_, ⟨?_, ?_⟩, ?_, ?_⟩ <;> grind
theorem eq5_on {c : Nat → Int} (h : Eq5 c) (x f : Nat → Int) : Eq5 (onV x c f) := by
  obtain ⟨ha, ⟨hb0, hb1⟩, hc0, hc1⟩ := h
  simp only [Eq5, onV, scaleV, turnV]
  generalize c 0 = u at *
  generalize c 1 = l0 at *
  generalize c 2 = l1 at *
  generalize c 3 = l2 at *
  generalize c 4 = d at *
  generalize c 5 = v0 at *
  generalize c 6 = v1 at *
  generalize c 7 = c0 at *
  generalize c 8 = c1 at *
  generalize f 0 = f0 at *
  generalize f 1 = f1 at *
  generalize f 2 = f2 at *
  generalize f 3 = f3 at *
  refine ⟨?_, ⟨?_, ?_⟩, ?_, ?_⟩ <;> grind
theorem eq5_back {c : Nat → Int} (h : Eq5 c) (x f : Nat → Int) : Eq5 (backV x c f) := by
  obtain ⟨ha, ⟨hb0, hb1⟩, hc0, hc1⟩ := h
  simp only [Eq5, backV, scaleV, turnV]
  generalize c 0 = u at *
  generalize c 1 = l0 at *
  generalize c 2 = l1 at *
  generalize c 3 = l2 at *
  generalize c 4 = d at *
  generalize c 5 = v0 at *
  generalize c 6 = v1 at *
  generalize c 7 = c0 at *
  generalize c 8 = c1 at *
  generalize f 0 = f0 at *
  generalize f 1 = f1 at *
  generalize f 2 = f2 at *
  generalize f 3 = f3 at *
  refine ⟨?_, ⟨?_, ?_⟩, ?_, ?_⟩ <;> grind
