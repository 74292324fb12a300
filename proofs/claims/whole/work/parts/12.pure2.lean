/-! what the reference's methods keep -/
/-- all but digits, lengths, signs and the two work rows -/
def Sm (M M1 : Nat → Nat → Int) : Prop := M1 0 = M 0 ∧ M1 6 = M 6 ∧ M1 7 = M 7 ∧ M1 8 = M 8
theorem Sm.rf (M : Nat → Nat → Int) : Sm M M := ⟨rfl, rfl, rfl, rfl⟩
theorem Sm.tr {M M1 M2 : Nat → Nat → Int} (h : Sm M M1) (g : Sm M1 M2) : Sm M M2 := ⟨g.1.trans h.1, g.2.1.trans h.2.1, g.2.2.1.trans h.2.2.1, g.2.2.2.trans h.2.2.2⟩
theorem Rep.up {M M1 : Nat → Nat → Int} {N : Nat → Int} {z : Nat} {v : Int} (h : Rep M N) (h1 : ∀ j, (j < 110 * z ∨ 110 * z + 110 ≤ j) → M1 1 j = M 1 j) (h2 : ∀ y, y ≠ z → M1 2 y = M 2 y) (h3 : ∀ y, y ≠ z → M1 3 y = M 3 y) (hz : Rp M1 z v) : Rep M1 (up1 N z v) := by
  intro y hy
  by_cases e : y = z
  · subst e; rw [up1_s]; exact hz
  · rw [up1_n _ e]
    obtain ⟨u, g1, g2, g3, g4, g5, g6⟩ := h y hy
    have ag : ∀ k, k < 110 → M1 1 (110 * y + k) = M 1 (110 * y + k) := fun k hk => h1 _ (by omega)
    refine ⟨u, by rw [h2 y e]; exact g1, g2, fun k hk => by show 0 ≤ M1 1 (110 * y + k) ∧ M1 1 (110 * y + k) < 65536; rw [ag k (by omega)]; exact g3 k hk, ?_, ?_, by rw [h3 y e]; exact g6⟩
    · rw [← g4]; exact vl_congr (fun k hk => ag k (by omega))
    · rcases g5 with g5 | g5
      · exact Or.inl g5
      · by_cases e0 : u = 0
        · exact Or.inl e0
        · right; rw [ag _ (by omega)]; exact g5
theorem sgn_neg {v : Int} (h : v < 0) : v.sign = -1 := Int.sign_eq_neg_one_of_neg h
theorem sgn_pos {v : Int} (h : 0 < v) : v.sign = 1 := Int.sign_eq_one_of_pos h
theorem sgn_0 {v : Int} (h : v = 0) : v.sign = 0 := by rw [h]; rfl
theorem vl_of {V : Int} (h : 0 ≤ V) : ∀ u : Nat, vl (fun k => V / 65536 ^ k % 65536) u = V % 65536 ^ u
  | 0 => by simp [vl]
  | u + 1 => by
    simp only [vl]; rw [vl_of h u, B_succ, Int.emod_def V (65536 ^ u * 65536), ← Int.ediv_ediv_of_nonneg (Int.le_of_lt (B_pos u)), Int.emod_def V, Int.emod_def (V / 65536 ^ u)]
    generalize V / 65536 ^ u / 65536 = r
    generalize V / 65536 ^ u = q
    generalize (65536 : Int) ^ u = a
    grind
theorem dg_of {V : Int} (u : Nat) : Dg (fun k => V / 65536 ^ k % 65536) u := fun k _ => ⟨Int.emod_nonneg _ (by decide), Int.emod_lt_of_pos _ (by decide)⟩
/-- what put leaves -/
theorem Rp.put {M1 : Nat → Nat → Int} {z u : Nat} {v : Int} (hu : u ≤ 110) (h1 : ∀ k, k < u → M1 1 (110 * z + k) = (v.natAbs : Int) / 65536 ^ k % 65536) (h2 : M1 2 z = (u : Int)) (h3 : M1 3 z = v.sign) (h0 : (v.natAbs : Int) / 65536 ^ u = 0) (ht : u = 0 ∨ 0 < (v.natAbs : Int) / 65536 ^ (u - 1)) : Rp M1 z v := by
  have hV : (0 : Int) ≤ v.natAbs := Int.natCast_nonneg _
  generalize hVe : (v.natAbs : Int) = V at *
  have e : vl (fun k => M1 1 (110 * z + k)) u = vl (fun k => V / 65536 ^ k % 65536) u := vl_congr (fun k hk => h1 k hk)
  have hlt : V < 65536 ^ u := by
    have := Int.lt_mul_ediv_self_add (x := V) (k := 65536 ^ u) (B_pos u)
    rw [h0] at this; omega
  refine ⟨u, h2, hu, fun k hk => by show 0 ≤ M1 1 (110 * z + k) ∧ M1 1 (110 * z + k) < 65536; rw [h1 k hk]; exact dg_of u k hk, ?_, ?_, h3⟩
  · rw [e, vl_of hV, Int.emod_eq_of_lt hV hlt, hVe]
  · rcases ht with ht | ht
    · exact Or.inl ht
    · by_cases e0 : u = 0
      · exact Or.inl e0
      · right
        obtain ⟨w, rfl⟩ : ∃ w, u = w + 1 := ⟨u - 1, by omega⟩
        rw [h1 _ (by omega)]
        simp only [Nat.add_sub_cancel] at ht ⊢
        rw [B_succ] at hlt
        have : V / 65536 ^ w < 65536 := Int.ediv_lt_of_lt_mul (B_pos w) (by rw [Int.mul_comm]; exact hlt)
        rw [Int.emod_eq_of_lt (by omega) this]
        omega
/-- what store leaves -/
theorem Rp.store {M1 : Nat → Nat → Int} {z u : Nat} {f : Nat → Int} {s V : Int} (hu : u ≤ 110) (hd : Dg f u) (h1 : ∀ k, k < u → M1 1 (110 * z + k) = f k) (h2 : M1 2 z = (u : Int)) (hV : vl f u = V) (ht : u = 0 ∨ f (u - 1) ≠ 0) (h3 : M1 3 z = if u = 0 then 0 else s) (hs : s = 1 ∨ s = -1 ∨ V = 0) : Rp M1 z (s * V) := by
  have hV0 : 0 ≤ V := by rw [← hV]; exact vl_nonneg hd
  have e : vl (fun k => M1 1 (110 * z + k)) u = V := by rw [← hV]; exact vl_congr (fun k hk => h1 k hk)
  have hu0 : u = 0 ↔ V = 0 := by
    constructor
    · intro h; rw [← hV, h]; rfl
    · intro h
      by_cases g : u = 0
      · exact g
      · rcases ht with ht | ht
        · exact ht
        · obtain ⟨w, rfl⟩ : ∃ w, u = w + 1 := ⟨u - 1, by omega⟩
          have := vl_top hd ht
          have := B_pos w
          omega
  refine ⟨u, h2, hu, fun k hk => by show 0 ≤ M1 1 (110 * z + k) ∧ M1 1 (110 * z + k) < 65536; rw [h1 k hk]; exact hd k hk, ?_, ?_, ?_⟩
  · rw [e]
    rcases hs with h | h | h <;> subst h <;> omega
  · rcases ht with ht | ht
    · exact Or.inl ht
    · by_cases e0 : u = 0
      · exact Or.inl e0
      · right; rw [h1 _ (by omega)]; exact ht
  · rw [h3]
    by_cases e0 : u = 0
    · rw [if_pos e0, hu0.mp e0]; simp
    · rw [if_neg e0]
      have : 0 < V := by
        have : V ≠ 0 := fun g => e0 (hu0.mpr g)
        omega
      rcases hs with h | h | h
      · subst h; rw [sgn_pos (by omega)]
      · subst h; rw [sgn_neg (by omega)]
      · omega
/-- a comparison by the highest digit that differs -/
theorem cmp_dig {f g : Nat → Int} {j : Nat} (hf : Dg f (j + 1)) (hg : Dg g (j + 1)) : (f j < g j → vl f (j + 1) < vl g (j + 1)) ∧ (g j < f j → vl g (j + 1) < vl f (j + 1)) := by
  have a1 := vl_nonneg (hf.le (Nat.le_succ j))
  have a2 := vl_lt (hf.le (Nat.le_succ j))
  have b1 := vl_nonneg (hg.le (Nat.le_succ j))
  have b2 := vl_lt (hg.le (Nat.le_succ j))
  have hB := B_pos j
  simp only [vl]
  constructor
  · intro h
    have : (f j + 1) * 65536 ^ j ≤ g j * 65536 ^ j := Int.mul_le_mul_of_nonneg_right (by omega) (Int.le_of_lt hB)
    rw [Int.add_mul] at this; omega
  · intro h
    have : (g j + 1) * 65536 ^ j ≤ f j * 65536 ^ j := Int.mul_le_mul_of_nonneg_right (by omega) (Int.le_of_lt hB)
    rw [Int.add_mul] at this; omega
