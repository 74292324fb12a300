/-! how large numbers get -/
def Bn (x : Int) (b : Nat) : Prop := x.natAbs ≤ 2 ^ b
theorem Bn.mul {x y : Int} {a b : Nat} (h : Bn x a) (g : Bn y b) : Bn (x * y) (a + b) := by
  unfold Bn at *; rw [Int.natAbs_mul, Nat.pow_add]; exact Nat.mul_le_mul h g
theorem Bn.up {x : Int} {a b : Nat} (h : Bn x a) (g : a ≤ b) : Bn x b := Nat.le_trans h (Nat.pow_le_pow_right (by decide) g)
theorem Bn.add {x y : Int} {a b : Nat} (h : Bn x a) (g : Bn y b) : Bn (x + y) (max a b + 1) := by
  have h1 := h.up (Nat.le_max_left a b)
  have h2 := g.up (Nat.le_max_right a b)
  unfold Bn at *
  rw [Nat.pow_succ]
  have := Int.natAbs_add_le x y
  omega
theorem Bn.neg {x : Int} {a : Nat} (h : Bn x a) : Bn (-x) a := by unfold Bn at *; rw [Int.natAbs_neg]; exact h
theorem Bn.sg {x s : Int} {a : Nat} (h : Bn x a) (hs : s = 1 ∨ s = -1) : Bn (s * x) a := by
  rcases hs with e | e <;> subst e
  · rw [Int.one_mul]; exact h
  · rw [Int.neg_mul, Int.one_mul]; exact h.neg
theorem Bn.fin {x : Int} {b : Nat} (h : Bn x b) (hb : b < 1760) : (x.natAbs : Int) < 65536 ^ 110 := by
  have h1 : x.natAbs < 65536 ^ 110 := by
    have e : (65536 : Nat) ^ 110 = 2 ^ 1760 := by decide +kernel
    rw [e]
    exact Nat.lt_of_le_of_lt h (Nat.pow_lt_pow_right (by decide) hb)
  have h2 : ((x.natAbs : Nat) : Int) < ((65536 ^ 110 : Nat) : Int) := Int.ofNat_lt.mpr h1
  rw [Int.natCast_pow] at h2
  exact h2
theorem Bn.of {x : Int} {k b : Nat} (h : -(k : Int) ≤ x ∧ x ≤ k) (hk : k ≤ 2 ^ b) : Bn x b := by unfold Bn; omega
theorem sy_idivK {p : Program} {l : Launch} {e : Env} {R : Room} {s : State} {m : MethodId} {args : Array Value} {below : List Frame} {meth : Method} {c0 : Code} {H : Heap} {locs : List Loc} {cells slots : Nat} {Q : State → Prop} {D : va_G} {tys : List (ClassId × FieldType)} {own : String} {cc : ByteArray} {nL : Nat} {pc : Nat} {ls : Array Slot} {rest : List Value} {a b c : Int} (X : CX D tys own cc nL p m c0 s args) (hd : decode cc pc = .ok (.idiv, 1)) (h : (¬ iI b = 0) ∧ iI a / iI b = iI c) (k : W p l e R s m args below meth c0 H locs cells slots Q (F0 m (pc + 1) ls (.int (iI c) :: rest))) : W p l e R s m args below meth c0 H locs cells slots Q (F0 m pc ls (.int (iI b) :: .int (iI a) :: rest)) :=
  lv_idiv X.1.1 X.1.2.1 hd h.1 (by rw [h.2]; exact k)
