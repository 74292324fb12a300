/-! numbers of five limbs -/
theorem P_pos (u : Nat) : (0 : Int) < 4294967296 ^ u := Int.pow_pos (by decide)
theorem P_succ (u : Nat) : (4294967296 : Int) ^ (u + 1) = 4294967296 ^ u * 4294967296 := Int.pow_succ 4294967296 u
def vL (f : Nat → Int) : Nat → Int
  | 0 => 0
  | u + 1 => vL f u + f u * 4294967296 ^ u
def Lb (f : Nat → Int) (u : Nat) : Prop := ∀ k, k < u → 0 ≤ f k ∧ f k < 4294967296
def low (z : Int) (i : Nat) : Int := z % 4294967296 ^ i
theorem low_0 (z : Int) : low z 0 = 0 := by simp [low]
theorem low_succ (z : Int) (i : Nat) : low z (i + 1) = low z i + lim z i * 4294967296 ^ i := by
  unfold low lim
  rw [P_succ, Int.emod_def z (4294967296 ^ i * 4294967296), ← Int.ediv_ediv_of_nonneg (Int.le_of_lt (P_pos i)), Int.emod_def z (4294967296 ^ i), Int.emod_def (z / 4294967296 ^ i)]
  generalize z / 4294967296 ^ i / 4294967296 = r
  generalize z / 4294967296 ^ i = q
  generalize (4294967296 : Int) ^ i = a
  grind
theorem vL_congr {f g : Nat → Int} : ∀ {u : Nat}, (∀ k, k < u → f k = g k) → vL f u = vL g u
  | 0, _ => rfl
  | u + 1, h => by simp only [vL, vL_congr (u := u) (fun k hk => h k (by omega)), h u (Nat.lt_succ_self u)]
theorem vL_lim (z : Int) : ∀ u, vL (lim z) u = low z u
  | 0 => (low_0 z).symm
  | u + 1 => by rw [low_succ, ← vL_lim z u]; rfl
theorem vL_up1 (r : Nat → Int) (k : Nat) (x : Int) : vL (up1 r k x) (k + 1) = vL r k + x * 4294967296 ^ k := by
  simp only [vL, up1_s]
  rw [vL_congr (fun j hj => up1_n x (show j ≠ k by omega))]
theorem vL_upd {r : Nat → Int} {k : Nat} (x : Int) : ∀ {n : Nat}, k < n → vL (up1 r k x) n = vL r n + (x - r k) * 4294967296 ^ k
  | 0, h => by omega
  | n + 1, h => by
    by_cases e : k = n
    · subst e; rw [vL_up1]; simp only [vL]; grind
    · simp only [vL]; rw [vL_upd x (n := n) (by omega), up1_n x (show n ≠ k by omega)]; omega
theorem lb_up1 {r : Nat → Int} {k : Nat} {x : Int} (h : Lb r k) (h0 : 0 ≤ x) (h1 : x < 4294967296) : Lb (up1 r k x) (k + 1) := fun j hj => by
  by_cases e : j = k
  · subst e; rw [up1_s]; exact ⟨h0, h1⟩
  · rw [up1_n x e]; exact h j (by omega)
theorem lb_upd {r : Nat → Int} {k n : Nat} {x : Int} (h : Lb r n) (h0 : 0 ≤ x) (h1 : x < 4294967296) : Lb (up1 r k x) n := fun j hj => by
  by_cases e : j = k
  · subst e; rw [up1_s]; exact ⟨h0, h1⟩
  · rw [up1_n x e]; exact h j hj
theorem mq0 (c : Int) : 0 ≤ c % 4294967296 ∧ c % 4294967296 < 4294967296 := ⟨Int.emod_nonneg _ (by decide), Int.emod_lt_of_pos _ (by decide)⟩
theorem ladd_step {c cy VR A P d : Int} (hc : c = cy + d) (h : VR + cy * P = A) : (VR + c % 4294967296 * P) + c / 4294967296 * (P * 4294967296) = A + d * P := by
  have := Int.emod_add_mul_ediv c 4294967296
  generalize c % 4294967296 = x at *
  generalize c / 4294967296 = y at *
  grind
theorem lmul_step {c cy rk d VR T P : Int} (hc : c = cy + rk + d) (h : VR + cy * P = T) : (VR + (c % 4294967296 - rk) * P) + c / 4294967296 * (P * 4294967296) = T + d * P := by
  have := Int.emod_add_mul_ediv c 4294967296
  generalize c % 4294967296 = x at *
  generalize c / 4294967296 = y at *
  grind
theorem vL_rng {f : Nat → Int} : ∀ {u : Nat}, Lb f u → 0 ≤ vL f u ∧ vL f u < 4294967296 ^ u
  | 0, _ => by simp [vL]
  | u + 1, h => by
    have h1 := vL_rng (u := u) (fun k hk => h k (by omega))
    have h2 := h u (Nat.lt_succ_self u)
    have h3 : f u * 4294967296 ^ u ≤ 4294967295 * 4294967296 ^ u := Int.mul_le_mul_of_nonneg_right (by omega) (Int.le_of_lt (P_pos u))
    have h4 := Int.mul_nonneg h2.1 (Int.le_of_lt (P_pos u))
    simp only [vL, P_succ]; omega
theorem low_low (z : Int) {i n : Nat} (h : i ≤ n) : low (low z n) i = low z i := by
  unfold low
  obtain ⟨t, rfl⟩ : ∃ t, n = i + t := ⟨n - i, by omega⟩
  exact Int.emod_emod_of_dvd z ⟨4294967296 ^ t, by rw [Int.pow_add]⟩
theorem lim_low (z : Int) {i n : Nat} (h : i < n) : lim (low z n) i = lim z i := by
  have h1 := low_succ (low z n) i
  have h2 := low_succ z i
  rw [low_low z (by omega), low_low z (by omega), h2] at h1
  have := P_pos i
  have h3 : lim z i * 4294967296 ^ i = lim (low z n) i * 4294967296 ^ i := by omega
  exact (Int.eq_of_mul_eq_mul_right (by omega) h3).symm
/-- five limbs that are a number's, but for multiples of 2^160, are its limbs -/
theorem lim_fin {f : Nat → Int} {Z : Int} : ∀ {u : Nat}, Lb f u → low (vL f u) u = low Z u → ∀ j, j < u → f j = lim Z j
  | 0, _, _, j, hj => by omega
  | u + 1, h, e, j, hj => by
    have hb : Lb f u := fun k hk => h k (by omega)
    have hr := vL_rng hb
    have hu := h u (Nat.lt_succ_self u)
    have hP := P_pos u
    have e0 : low (vL f (u + 1)) (u + 1) = vL f (u + 1) := Int.emod_eq_of_lt (vL_rng h).1 (vL_rng h).2
    have e1 : vL f (u + 1) = vL f u + f u * 4294967296 ^ u := rfl
    have e2 := low_succ Z u
    have hl := lim_rng Z u
    have hz : 0 ≤ low Z u ∧ low Z u < 4294967296 ^ u := ⟨Int.emod_nonneg _ (by omega), Int.emod_lt_of_pos _ hP⟩
    rw [e0, e1, e2] at e
    have ek : f u = lim Z u := by
      rcases Int.lt_trichotomy (f u) (lim Z u) with g | g | g
      · have : (f u + 1) * 4294967296 ^ u ≤ lim Z u * 4294967296 ^ u := Int.mul_le_mul_of_nonneg_right (by omega) (Int.le_of_lt hP)
        rw [Int.add_mul] at this; omega
      · exact g
      · have : (lim Z u + 1) * 4294967296 ^ u ≤ f u * 4294967296 ^ u := Int.mul_le_mul_of_nonneg_right (by omega) (Int.le_of_lt hP)
        rw [Int.add_mul] at this; omega
    by_cases ej : j = u
    · rw [ej]; exact ek
    · rw [ek] at e
      have e3 : vL f u = low Z u := by omega
      exact lim_fin hb (by rw [e3, low_low Z (Nat.le_refl u)]) j (by omega)
theorem low_eq {a b t : Int} {n : Nat} (h : a = b + t * 4294967296 ^ n) : low a n = low b n := by
  unfold low; rw [h, Int.add_mul_emod_self_right]
theorem jI_ushr {z : Int} (h0 : 0 ≤ z) (h1 : z < 18446744073709551616) {k : Int} (hk : 0 ≤ k) (hk2 : k < 64) : ((jI z).toUInt64 >>> ((iI k).toInt64.toUInt64 &&& Int64.toUInt64 63)).toInt64 = jI (z / (2 : Int) ^ k.toNat) := by
  rw [jI_cntu hk hk2]
  apply Int64.toBitVec_inj.mp
  apply BitVec.eq_of_toNat_eq
  have e1 : ((jI z).toUInt64 >>> UInt64.ofNat k.toNat).toNat = z.toNat / 2 ^ k.toNat := by
    rw [UInt64.toNat_shiftRight]
    have e2 : (UInt64.ofNat k.toNat).toNat % 64 = k.toNat := by
      rw [UInt64.toNat_ofNat_of_lt' (by simp [UInt64.size]; omega)]; omega
    rw [e2, Nat.shiftRight_eq_div_pow]
    congr 1
    show (jI z).toBitVec.toNat = z.toNat
    rw [jI_tn, Int.emod_eq_of_lt h0 h1]
  show ((jI z).toUInt64 >>> UInt64.ofNat k.toNat).toNat = _
  rw [e1, jI_tn]
  have hp := p2pos k.toNat
  have h2 : 0 ≤ z / (2 : Int) ^ k.toNat := Int.ediv_nonneg h0 (Int.le_of_lt hp)
  have h3 : z / (2 : Int) ^ k.toNat ≤ z := Int.ediv_le_self _ h0
  rw [Int.emod_eq_of_lt h2 (by omega)]
  obtain ⟨n, rfl⟩ : ∃ n : Nat, z = (n : Int) := ⟨z.toNat, by omega⟩
  rw [p2c, Int.toNat_natCast]
  rw [← Int.natCast_ediv, Int.toNat_natCast]
section Us
variable {p : Program} {l : Launch} {e : Env} {R : Room} {s : State} {m : MethodId} {args : Array Value} {below : List Frame} {meth : Method} {c : Code} {H : Heap} {locs : List Loc} {cells slots : Nat} {Q : State → Prop}
variable {D : va_G} {tys : List (ClassId × FieldType)} {own : String} {cc : ByteArray} {nL : Nat} {pc : Nat} {ls : Array Slot} {rest : List Value}
theorem sy_lushr {a b : Int} (X : CX D tys own cc nL p m c s args) (dv : Int) (hd : decode cc pc = .ok (.lushr, 1)) (ha : 0 ≤ a) (ha2 : a < 18446744073709551616) (h0 : 0 ≤ b) (h1 : b < 64) (hm : (2 : Int) ^ b.toNat = dv) (k : W p l e R s m args below meth c H locs cells slots Q (F0 m (pc + 1) ls (.long (jI (a / dv)) :: rest))) : W p l e R s m args below meth c H locs cells slots Q (F0 m pc ls (.int (iI b) :: .long (jI a) :: rest)) :=
  lv_lushr X.1.1 X.1.2.1 hd (by rw [jI_ushr ha ha2 h0 h1, hm]) k
end Us
