/-! for the long division -/
def W2 (M : Nat → Nat → Int) (r q : Nat → Int) : Nat → Nat → Int := upA (upA M 4 r) 5 q
theorem W2_4 (M : Nat → Nat → Int) (r q : Nat → Int) (k : Nat) (x : Int) : up2 (W2 M r q) 4 k x = W2 M (up1 r k x) q := by
  funext a; by_cases h : a = 5
  · subst h; simp [W2, up2, upA]
  · by_cases h2 : a = 4
    · subst h2; simp [W2, up2, upA]
    · simp [W2, up2, upA, h, h2]
theorem W2_5 (M : Nat → Nat → Int) (r q : Nat → Int) (k : Nat) (x : Int) : up2 (W2 M r q) 5 k x = W2 M r (up1 q k x) := up2_upA _ _ _ _ _
theorem W2_A4 (M : Nat → Nat → Int) (r q r1 : Nat → Int) : upA (W2 M r q) 4 r1 = W2 M r1 q := by
  funext a; by_cases h : a = 5
  · subst h; simp [W2, upA]
  · by_cases h2 : a = 4
    · subst h2; simp [W2, upA]
    · simp [W2, upA, h, h2]
theorem W2_self (M : Nat → Nat → Int) : M = W2 M (M 4) (M 5) := by
  funext a; by_cases h : a = 5
  · subst h; simp [W2, upA]
  · by_cases h2 : a = 4
    · subst h2; simp [W2, upA]
    · simp [W2, upA, h, h2]
theorem c_M_digitOfW (l : Launch) (D : va_G) (cs : Nat → ClassId) (ad : Nat → Nat) (M : Nat → Nat → Int) (r q : Nat → Int) (x k : Nat) (hx : x < 120) (hk : k < 2147483648) (hW : Wf M) : Ct (S := Unit) l D (tyL cs) y_M_digitOf b_M_digitOf 3 (some .int) (rm 1) [.ref (ad 0), .int (iI ((x : Nat) : Int)), .int (iI ((k : Nat) : Int))] (wM ad cs (W2 M r q)) (fun _ => True) (fun _ => some (.int (iI (dgt M x k)))) (fun _ => wM ad cs (W2 M r q)) := c_M_digitOf l D cs ad (W2 M r q) x k hx hk hW
/-- the number in m cells from j on -/
def wd (r : Nat → Int) (j m : Nat) : Int := vl (fun k => r (j + k)) m
theorem wd_succ (r : Nat → Int) (j m : Nat) : wd r j (m + 1) = wd r j m + r (j + m) * 65536 ^ m := rfl
theorem vl_split (r : Nat → Int) (j : Nat) : ∀ m, vl r (j + m) = vl r j + wd r j m * 65536 ^ j
  | 0 => by simp [wd, vl]
  | m + 1 => by
    have e : vl r (j + (m + 1)) = vl r (j + m) + r (j + m) * 65536 ^ (j + m) := rfl
    rw [e, vl_split r j m, wd_succ, Int.pow_add]; grind
theorem vl_win {r r1 : Nat → Int} {j m : Nat} (h : ∀ t, (t < j ∨ j + m ≤ t) → r1 t = r t) : ∀ n, j + m ≤ n → vl r1 n = vl r n + (wd r1 j m - wd r j m) * 65536 ^ j := by
  intro n hn
  obtain ⟨t, rfl⟩ : ∃ t, n = (j + m) + t := ⟨n - (j + m), by omega⟩
  rw [vl_split r1 (j + m) t, vl_split r (j + m) t, vl_split r1 j m, vl_split r j m]
  have e1 : vl r1 j = vl r j := vl_congr (fun k hk => h k (by omega))
  have e2 : wd r1 (j + m) t = wd r (j + m) t := vl_congr (fun k hk => h _ (by omega))
  rw [e1, e2]; grind
theorem hi_zero {r : Nat → Int} {t : Nat} : ∀ {n : Nat}, Dg r n → vl r n < 65536 ^ t → ∀ k, t ≤ k → k < n → r k = 0
  | 0, _, _, k, _, hk => by omega
  | n + 1, hd, h, k, ht, hk => by
    have hd' := hd.le (Nat.le_succ n)
    have h0 := vl_nonneg hd'
    have hn := hd n (Nat.lt_succ_self n)
    by_cases e : r n = 0
    · by_cases ek : k = n
      · rw [ek]; exact e
      · have h1 : vl r (n + 1) = vl r n := by simp only [vl, e]; omega
        exact hi_zero hd' (by rw [← h1]; exact h) k ht (by omega)
    · have := vl_top hd e
      have := B_le (show t ≤ n by omega)
      omega
theorem win {r : Nat → Int} {j m n : Nat} {Y : Int} (hd : Dg r n) (hn : j + m + 1 ≤ n) (hY : Y ≤ 65536 ^ m) (h : vl r n < Y * 65536 ^ (j + 1)) : vl r n = vl r j + wd r j (m + 1) * 65536 ^ j ∧ 0 ≤ vl r j ∧ vl r j < 65536 ^ j := by
  have hj := hd.le (show j ≤ n by omega)
  refine ⟨?_, vl_nonneg hj, vl_lt hj⟩
  have h1 : vl r n < 65536 ^ (j + m + 1) := by
    have : Y * 65536 ^ (j + 1) ≤ 65536 ^ m * 65536 ^ (j + 1) := Int.mul_le_mul_of_nonneg_right hY (Int.le_of_lt (B_pos _))
    rw [← Int.pow_add, show m + (j + 1) = j + m + 1 by omega] at this
    omega
  rw [vl_zero (u := j + m + 1) hn (fun k h1' h2 => hi_zero hd h1 k h1' h2), Nat.add_assoc, vl_split]
/-- the digit that is tried never takes too much -/
theorem q_ok {f dy : Nat → Int} {m : Nat} {Y a0 : Int} (hf : Dg f (m + 1)) (hd : Dg dy m) (hm : 1 ≤ m) (hY : vl dy m = Y) (h0 : 0 ≤ a0 ∧ a0 < 65536) (ha : 2 ≤ m → a0 = f (m - 2)) :
    (f m * 4294967296 + f (m - 1) * 65536 + a0) / (dy (m - 1) * 65536 + (if 1 < m then dy (m - 2) else 0) + 1) * Y ≤ vl f (m + 1) := by
  generalize hq : (f m * 4294967296 + f (m - 1) * 65536 + a0) / (dy (m - 1) * 65536 + (if 1 < m then dy (m - 2) else 0) + 1) = q
  have g1 := hf m (by omega)
  have g2 := hf (m - 1) (by omega)
  have g3 := hd (m - 1) (by omega)
  by_cases h2 : 1 < m
  · obtain ⟨t, rfl⟩ : ∃ t, m = t + 2 := ⟨m - 2, by omega⟩
    have g4 := hd t (by omega)
    have g5 := hf t (by omega)
    rw [if_pos h2, ha (by omega)] at hq
    simp only [Nat.add_sub_cancel, show t + 2 - 1 = t + 1 by omega] at *
    have hf0 := vl_nonneg (hf.le (show t ≤ t + 2 + 1 by omega))
    have hd1 := vl_lt (hd.le (show t ≤ t + 2 by omega))
    have eR : vl f (t + 2 + 1) = vl f t + (f (t + 2) * 4294967296 + f (t + 1) * 65536 + f t) * 65536 ^ t := by
      simp only [vl, B_succ]; grind
    have eY : Y = vl dy t + (dy (t + 1) * 65536 + dy t) * 65536 ^ t := by
      rw [← hY]; simp only [vl, B_succ]; grind
    have hB := B_pos t
    have hq0 : 0 ≤ q := by rw [← hq]; exact Int.ediv_nonneg (by omega) (by omega)
    have k1 : q * (dy (t + 1) * 65536 + dy t + 1) ≤ f (t + 2) * 4294967296 + f (t + 1) * 65536 + f t := by
      rw [← hq]; exact Int.ediv_mul_le _ (by omega)
    have k2 : Y ≤ (dy (t + 1) * 65536 + dy t + 1) * 65536 ^ t := by rw [eY]; rw [Int.add_mul (dy (t + 1) * 65536 + dy t) 1]; omega
    have k3 := Int.mul_le_mul_of_nonneg_left k2 hq0
    have k4 := Int.mul_le_mul_of_nonneg_right k1 (Int.le_of_lt hB)
    rw [eR]
    rw [← Int.mul_assoc] at k3
    omega
  · have e1 : m = 1 := by omega
    subst e1
    rw [if_neg h2] at hq
    simp only [Nat.sub_self] at *
    have eR : vl f (1 + 1) = f 0 + f 1 * 65536 := by simp [vl]
    have eY : Y = dy 0 := by rw [← hY]; simp [vl]
    have hq0 : 0 ≤ q := by rw [← hq]; exact Int.ediv_nonneg (by omega) (by omega)
    have k1 : q * (dy 0 * 65536 + 0 + 1) ≤ f 1 * 4294967296 + f 0 * 65536 + a0 := by
      rw [← hq]; exact Int.ediv_mul_le _ (by omega)
    rw [eR, eY]
    rw [show q * (dy 0 * 65536 + 0 + 1) = (q * dy 0) * 65536 + q by grind] at k1
    generalize q * dy 0 = u at *
    omega
theorem jI_div {a b : Int} (ha : 0 ≤ a) (ha2 : a < 9223372036854775808) (hb : 0 < b) (hb2 : b < 9223372036854775808) : jI a / jI b = jI (a / b) := by
  show Int64.ofInt a / Int64.ofInt b = Int64.ofInt (a / b)
  rw [← Int.tdiv_eq_ediv_of_nonneg ha, Int64.ofInt_tdiv] <;> first | (rw [Int64.toInt_minValue]; omega) | (rw [Int64.toInt_maxValue]; omega)
theorem sy_ldiv {p : Program} {l : Launch} {e : Env} {R : Room} {s : State} {m : MethodId} {args : Array Value} {below : List Frame} {meth : Method} {c : Code} {H : Heap} {locs : List Loc} {cells slots : Nat} {Q : State → Prop} {D : va_G} {tys : List (ClassId × FieldType)} {own : String} {cc : ByteArray} {nL : Nat} {pc : Nat} {ls : Array Slot} {rest : List Value} {a b : Int} (X : CX D tys own cc nL p m c s args) (hd : decode cc pc = .ok (.ldiv, 1)) (ha : 0 ≤ a) (ha2 : a < 9223372036854775808) (hb : 0 < b) (hb2 : b < 9223372036854775808) (k : W p l e R s m args below meth c H locs cells slots Q (F0 m (pc + 1) ls (.long (jI (a / b)) :: rest))) : W p l e R s m args below meth c H locs cells slots Q (F0 m pc ls (.long (jI b) :: .long (jI a) :: rest)) :=
  lv_ldiv X.1.1 X.1.2.1 hd (fun h => by
    have h2 : jI b = jI 0 := h
    rw [jI_eq ⟨by omega, hb2⟩ ⟨by decide, by decide⟩] at h2
    omega) (by rw [jI_div ha ha2 hb hb2]; exact k)
