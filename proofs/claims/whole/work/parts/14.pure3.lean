theorem vl_up1 (r : Nat → Int) (k : Nat) (x : Int) : vl (up1 r k x) (k + 1) = vl r k + x * 65536 ^ k := by
  simp only [vl, up1_s]
  rw [vl_congr (fun j hj => up1_n x (show j ≠ k by omega))]
theorem vl_upd {r : Nat → Int} {k : Nat} (x : Int) : ∀ {n : Nat}, k < n → vl (up1 r k x) n = vl r n + (x - r k) * 65536 ^ k
  | 0, h => by omega
  | n + 1, h => by
    by_cases e : k = n
    · subst e; rw [vl_up1]; simp only [vl]; grind
    · simp only [vl]; rw [vl_upd x (n := n) (by omega), up1_n x (show n ≠ k by omega)]; omega
theorem dg_up1 {r : Nat → Int} {k : Nat} {x : Int} (h : Dg r k) (h0 : 0 ≤ x) (h1 : x < 65536) : Dg (up1 r k x) (k + 1) := fun j hj => by
  by_cases e : j = k
  · subst e; rw [up1_s]; exact ⟨h0, h1⟩
  · rw [up1_n x e]; exact h j (by omega)
theorem dg_upd {r : Nat → Int} {k n : Nat} {x : Int} (h : Dg r n) (h0 : 0 ≤ x) (h1 : x < 65536) : Dg (up1 r k x) n := fun j hj => by
  by_cases e : j = k
  · subst e; rw [up1_s]; exact ⟨h0, h1⟩
  · rw [up1_n x e]; exact h j hj
theorem md0 (c : Int) : 0 ≤ c % 65536 ∧ c % 65536 < 65536 := ⟨Int.emod_nonneg _ (by decide), Int.emod_lt_of_pos _ (by decide)⟩
/-- a step of a sum: a digit, a carry -/
theorem add_step {c cy VR A P d : Int} (hc : c = cy + d) (h : VR + cy * P = A) : (VR + c % 65536 * P) + c / 65536 * (P * 65536) = A + d * P := by
  have := Int.emod_add_mul_ediv c 65536
  generalize c % 65536 = x at *
  generalize c / 65536 = y at *
  grind
theorem mul_step {c cy rk d VR T P : Int} (hc : c = cy + rk + d) (h : VR + cy * P = T) : (VR + (c % 65536 - rk) * P) + c / 65536 * (P * 65536) = T + d * P := by
  have := Int.emod_add_mul_ediv c 65536
  generalize c % 65536 = x at *
  generalize c / 65536 = y at *
  grind
theorem sgn_abs (x : Int) : x.sign * (x.natAbs : Int) = x := Int.sign_mul_natAbs x
theorem sgn_1 (x : Int) : x.sign = 1 ∧ 0 < x ∨ x.sign = -1 ∧ x < 0 ∨ x.sign = 0 ∧ x = 0 := by
  rcases Int.lt_trichotomy x 0 with h | h | h
  · exact Or.inr (Or.inl ⟨sgn_neg h, h⟩)
  · exact Or.inr (Or.inr ⟨sgn_0 h, h⟩)
  · exact Or.inl ⟨sgn_pos h, h⟩
/-- sums of numbers of one sign, and of two -/
theorem sum_same {a b s0 : Int} (hs : s0 = 1 ∨ s0 = -1) (h : 0 ≤ a.sign * (s0 * b.sign)) : (if a.sign = 0 then s0 * b.sign else a.sign) * ((a.natAbs : Int) + b.natAbs) = a + s0 * b := by
  rcases sgn_1 a with ⟨h1, h2⟩ | ⟨h1, h2⟩ | ⟨h1, h2⟩ <;> rcases sgn_1 b with ⟨g1, g2⟩ | ⟨g1, g2⟩ | ⟨g1, g2⟩ <;> rcases hs with e | e <;> subst e <;> simp only [h1, g1] at h ⊢ <;> simp <;> omega
theorem sum_diff {a b s0 : Int} (hs : s0 = 1 ∨ s0 = -1) (h : ¬ 0 ≤ a.sign * (s0 * b.sign)) : a.sign * ((a.natAbs : Int) - b.natAbs) = a + s0 * b ∧ s0 * b.sign * ((b.natAbs : Int) - a.natAbs) = a + s0 * b ∧ (a.sign = 1 ∨ a.sign = -1) ∧ (s0 * b.sign = 1 ∨ s0 * b.sign = -1) := by
  rcases sgn_1 a with ⟨h1, h2⟩ | ⟨h1, h2⟩ | ⟨h1, h2⟩ <;> rcases sgn_1 b with ⟨g1, g2⟩ | ⟨g1, g2⟩ | ⟨g1, g2⟩ <;> rcases hs with e | e <;> subst e <;> simp only [h1, g1] at h ⊢ <;> simp at h ⊢ <;> omega
theorem sum_sgn {a b s0 : Int} (hs : s0 = 1 ∨ s0 = -1) : (if a.sign = 0 then s0 * b.sign else a.sign) = 1 ∨ (if a.sign = 0 then s0 * b.sign else a.sign) = -1 ∨ (a.natAbs : Int) + b.natAbs = 0 := by
  rcases sgn_1 a with ⟨h1, h2⟩ | ⟨h1, h2⟩ | ⟨h1, h2⟩ <;> rcases sgn_1 b with ⟨g1, g2⟩ | ⟨g1, g2⟩ | ⟨g1, g2⟩ <;> rcases hs with e | e <;> subst e <;> simp only [h1, g1] <;> simp <;> omega
theorem abs_le_of_sgn {s a : Int} (hs : s = 1 ∨ s = -1 ∨ a = 0) (h0 : 0 ≤ a) : a = ((s * a).natAbs : Int) := by
  rcases hs with e | e | e <;> subst e <;> omega
theorem sgnR (x : Int) : -1 ≤ x.sign ∧ x.sign ≤ 1 := by rcases sgn_1 x with ⟨h, _⟩ | ⟨h, _⟩ | ⟨h, _⟩ <;> rw [h] <;> decide
