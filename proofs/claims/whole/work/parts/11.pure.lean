/-! numbers by their digits -/
def upA (M : Nat → Nat → Int) (a : Nat) (f : Nat → Int) : Nat → Nat → Int := fun b => if b = a then f else M b
theorem upA_s (M : Nat → Nat → Int) (a : Nat) (f : Nat → Int) : upA M a f a = f := by simp [upA]
theorem upA_n {M : Nat → Nat → Int} {a b : Nat} (f : Nat → Int) (h : b ≠ a) : upA M a f b = M b := by simp [upA, h]
theorem upA_self (M : Nat → Nat → Int) (a : Nat) : upA M a (M a) = M := by
  funext b; by_cases h : b = a <;> simp [upA, h]
theorem up2_upA (M : Nat → Nat → Int) (a : Nat) (f : Nat → Int) (k : Nat) (x : Int) : up2 (upA M a f) a k x = upA M a (up1 f k x) := by
  funext b; by_cases h : b = a <;> simp [upA, up2, h]
theorem up2_A (M : Nat → Nat → Int) (a k : Nat) (x : Int) : up2 M a k x = upA M a (up1 (M a) k x) := by
  funext b; by_cases h : b = a <;> simp [upA, up2, h]
/-- a row with a block of n cells from b on replaced -/
def blk (f : Nat → Int) (b n : Nat) (g : Nat → Int) : Nat → Int := fun j => if b ≤ j ∧ j < b + n then g (j - b) else f j
theorem blk_0 (f : Nat → Int) (b : Nat) (g : Nat → Int) : blk f b 0 g = f := by
  funext j; simp only [blk]; split
  · omega
  · rfl
theorem blk_up (f : Nat → Int) (b n : Nat) (g : Nat → Int) {x : Int} (hx : x = g n) : up1 (blk f b n g) (b + n) x = blk f b (n + 1) g := by
  funext j; simp only [blk, up1]
  by_cases h : j = b + n
  · subst h; rw [if_pos rfl, if_pos (by omega), hx]; congr 1; omega
  · rw [if_neg h]
    by_cases h2 : b ≤ j ∧ j < b + n
    · rw [if_pos h2, if_pos (by omega)]
    · rw [if_neg h2, if_neg (by omega)]
theorem blk_in {f g : Nat → Int} {b n j : Nat} (h : j < n) : blk f b n g (b + j) = g j := by
  simp only [blk]; rw [if_pos (by omega)]; congr 1; omega
theorem blk_out {f g : Nat → Int} {b n j : Nat} (h : j < b ∨ b + n ≤ j) : blk f b n g j = f j := by
  simp only [blk]; rw [if_neg (by omega)]
def vl (f : Nat → Int) : Nat → Int
  | 0 => 0
  | u + 1 => vl f u + f u * 65536 ^ u
def Dg (f : Nat → Int) (u : Nat) : Prop := ∀ k, k < u → 0 ≤ f k ∧ f k < 65536
theorem B_pos (u : Nat) : (0 : Int) < 65536 ^ u := Int.pow_pos (by decide)
theorem B_succ (u : Nat) : (65536 : Int) ^ (u + 1) = 65536 ^ u * 65536 := Int.pow_succ 65536 u
theorem Dg.le {f : Nat → Int} {u v : Nat} (h : Dg f v) (hu : u ≤ v) : Dg f u := fun k hk => h k (by omega)
theorem vl_nonneg {f : Nat → Int} : ∀ {u : Nat}, Dg f u → 0 ≤ vl f u
  | 0, _ => by simp [vl]
  | u + 1, h => by
    have h1 := vl_nonneg (h.le (Nat.le_succ u))
    have h2 := Int.mul_nonneg (h u (Nat.lt_succ_self u)).1 (Int.le_of_lt (B_pos u))
    simp only [vl]; omega
theorem vl_lt {f : Nat → Int} : ∀ {u : Nat}, Dg f u → vl f u < 65536 ^ u
  | 0, _ => by simp [vl]
  | u + 1, h => by
    have h1 := vl_lt (h.le (Nat.le_succ u))
    have h2 := (h u (Nat.lt_succ_self u)).2
    have h3 : f u * 65536 ^ u ≤ 65535 * 65536 ^ u := Int.mul_le_mul_of_nonneg_right (by omega) (Int.le_of_lt (B_pos u))
    simp only [vl, B_succ]; omega
theorem vl_congr {f g : Nat → Int} : ∀ {u : Nat}, (∀ k, k < u → f k = g k) → vl f u = vl g u
  | 0, _ => rfl
  | u + 1, h => by simp only [vl, vl_congr (u := u) (fun k hk => h k (by omega)), h u (Nat.lt_succ_self u)]
theorem vl_zero {f : Nat → Int} {u : Nat} : ∀ {n : Nat}, u ≤ n → (∀ k, u ≤ k → k < n → f k = 0) → vl f n = vl f u
  | 0, h, _ => by rw [show u = 0 by omega]
  | n + 1, h, hz => by
    by_cases e : u = n + 1
    · rw [e]
    · simp only [vl]; rw [vl_zero (u := u) (n := n) (by omega) (fun k h1 h2 => hz k h1 (by omega)), hz n (by omega) (by omega)]; omega
theorem vl_top {f : Nat → Int} {u : Nat} (h : Dg f (u + 1)) (ht : f u ≠ 0) : 65536 ^ u ≤ vl f (u + 1) := by
  have h1 := vl_nonneg (h.le (Nat.le_succ u))
  have h2 := (h u (Nat.lt_succ_self u)).1
  have h3 : 1 * 65536 ^ u ≤ f u * 65536 ^ u := Int.mul_le_mul_of_nonneg_right (by omega) (Int.le_of_lt (B_pos u))
  simp only [vl]; omega
theorem vl_shift {f : Nat → Int} : ∀ (u : Nat), vl f (u + 1) = f 0 + 65536 * vl (fun k => f (k + 1)) u
  | 0 => by simp [vl]
  | u + 1 => by
    have h := vl_shift (f := f) u
    have e : vl f (u + 1 + 1) = vl f (u + 1) + f (u + 1) * 65536 ^ (u + 1) := rfl
    have e2 : vl (fun k => f (k + 1)) (u + 1) = vl (fun k => f (k + 1)) u + f (u + 1) * 65536 ^ u := rfl
    rw [e, h, e2, B_succ, Int.mul_add, ← Int.mul_assoc, Int.mul_comm 65536 (f (u + 1) * 65536 ^ u), Int.mul_assoc (f (u+1))]
    omega
/-- digit k of a number -/
theorem vl_dig {f : Nat → Int} {u k : Nat} (h : Dg f u) (hk : k < u) : vl f u / 65536 ^ k % 65536 = f k := by
  induction k generalizing f u with
  | zero =>
    obtain ⟨u, rfl⟩ : ∃ v, u = v + 1 := ⟨u - 1, by omega⟩
    rw [vl_shift]
    have := h 0 (by omega)
    simp only [Int.pow_zero, Int.ediv_one]
    omega
  | succ k ih =>
    obtain ⟨u, rfl⟩ : ∃ v, u = v + 1 := ⟨u - 1, by omega⟩
    rw [vl_shift, B_succ, Int.mul_comm (65536 ^ k), ← Int.ediv_ediv_of_nonneg (by decide)]
    have h0 := h 0 (by omega)
    rw [show (f 0 + 65536 * vl (fun k => f (k + 1)) u) / 65536 = vl (fun k => f (k + 1)) u by omega]
    exact ih (f := fun k => f (k + 1)) (fun j hj => h (j + 1) (by omega)) (by omega)
/-- the number in place z is n -/
def Rp (M : Nat → Nat → Int) (z : Nat) (n : Int) : Prop := ∃ u : Nat, M 2 z = (u : Int) ∧ u ≤ 110 ∧ Dg (fun k => M 1 (110 * z + k)) u ∧ vl (fun k => M 1 (110 * z + k)) u = (n.natAbs : Int) ∧ (u = 0 ∨ M 1 (110 * z + (u - 1)) ≠ 0) ∧ M 3 z = n.sign
def Rep (M : Nat → Nat → Int) (n : Nat → Int) : Prop := ∀ z, z < 120 → Rp M z (n z)
theorem Rep.wf {M : Nat → Nat → Int} {n : Nat → Int} (h : Rep M n) : Wf M := fun z hz => by
  obtain ⟨u, h1, h2, -⟩ := h z hz
  omega
theorem dgt_eq {M : Nat → Nat → Int} {z k u : Nat} (hu : M 2 z = (u : Int)) : dgt M z k = if k < u then M 1 (110 * z + k) else 0 := by
  simp only [dgt, hu]
  by_cases h : k < u
  · rw [if_pos h, if_pos (by omega)]
  · rw [if_neg h, if_neg (by omega)]
/-- the digits of the number in place z, 0 behind its end -/
theorem Rp.dig {M : Nat → Nat → Int} {z : Nat} {n : Int} (h : Rp M z n) : ∃ u : Nat, M 2 z = (u : Int) ∧ u ≤ 110 ∧ (∀ v, Dg (dgt M z) v) ∧ (∀ v, u ≤ v → vl (dgt M z) v = (n.natAbs : Int)) ∧ (n.natAbs : Int) < 65536 ^ u ∧ (u = 0 ∨ 65536 ^ (u - 1) ≤ (n.natAbs : Int)) ∧ M 3 z = n.sign := by
  obtain ⟨u, h1, h2, h3, h4, h5, h6⟩ := h
  have hd : ∀ v, Dg (dgt M z) v := fun v k hk => by
    rw [dgt_eq h1]
    split
    · exact h3 k (by assumption)
    · constructor <;> decide
  have hv : ∀ v, u ≤ v → vl (dgt M z) v = (n.natAbs : Int) := fun v hv => by
    rw [vl_zero hv (fun k hk _ => by rw [dgt_eq h1, if_neg (by omega)]), ← h4]
    exact vl_congr (fun k hk => by rw [dgt_eq h1, if_pos hk])
  refine ⟨u, h1, h2, hd, hv, ?_, ?_, h6⟩
  · rw [← h4]; exact vl_lt h3
  · rcases h5 with h5 | h5
    · exact Or.inl h5
    · by_cases e : u = 0
      · exact Or.inl e
      · right
        obtain ⟨v, rfl⟩ : ∃ v, u = v + 1 := ⟨u - 1, by omega⟩
        rw [← h4]
        exact vl_top h3 h5
theorem B_le {a b : Nat} (h : a ≤ b) : (65536 : Int) ^ a ≤ 65536 ^ b := by
  have : ((65536 ^ a : Nat) : Int) ≤ ((65536 ^ b : Nat) : Int) := Int.ofNat_le.mpr (Nat.pow_le_pow_right (by decide) h)
  simpa using this
theorem B_lt {a b : Nat} (h : (65536 : Int) ^ a < 65536 ^ b) : a < b := by
  rcases Nat.lt_or_ge a b with g | g
  · exact g
  · have := B_le g; omega
