/-! the reference's six numbers are the class's, but for a common factor -/
def RelV (Y n : Nat → Int) : Prop := 0 < n 5 ∧ n 5 ≤ Y 5 ∧ ∀ i, i < 6 → n i * Y 5 = n 5 * Y i
theorem six5 (c : Nat → Int) : six c 5 = c 4 := rfl
theorem i6 {i : Nat} (h : i < 6) : i = 0 ∨ i = 1 ∨ i = 2 ∨ i = 3 ∨ i = 4 ∨ i = 5 := by omega
theorem canc {a b d : Int} (hd : 0 < d) (h : d * a = d * b) : a = b := Int.eq_of_mul_eq_mul_left (by omega) h
theorem RelV.congr {Y Y1 n n1 : Nat → Int} (h : RelV Y n) (hY : ∀ i, i < 6 → Y1 i = Y i) (hn : ∀ i, i < 6 → n1 i = n i) : RelV Y1 n1 := by
  refine ⟨by rw [hn 5 (by decide)]; exact h.1, by rw [hn 5 (by decide), hY 5 (by decide)]; exact h.2.1, fun i hi => ?_⟩
  rw [hn i hi, hn 5 (by decide), hY i hi, hY 5 (by decide)]
  exact h.2.2 i hi
theorem RelV.bn {Y n : Nat → Int} {b : Nat} (h : RelV Y n) {i : Nat} (hi : i < 6) (hb : Bn (Y i) b) : Bn (n i) b := by
  have h1 := h.2.2 i hi
  have h2 : (n i * Y 5).natAbs = (n 5 * Y i).natAbs := by rw [h1]
  rw [Int.natAbs_mul, Int.natAbs_mul] at h2
  have h3 : 0 < (Y 5).natAbs := by have := h.1; have := h.2.1; omega
  have h4 : (n 5).natAbs ≤ (Y 5).natAbs := by have := h.1; have := h.2.1; omega
  unfold Bn at *
  refine Nat.le_trans ?_ hb
  refine Nat.le_of_mul_le_mul_right (c := (Y 5).natAbs) ?_ h3
  rw [h2, Nat.mul_comm (Y i).natAbs]
  exact Nat.mul_le_mul_right _ h4
theorem six_adv (x c f k : Nat → Int) : ∀ i, i < 6 → six (noiseV (onV x c f) (k 0) (k 1) (k 2)) i = advV (six c) f k i := fun i hi => by
  rcases i6 hi with e | e | e | e | e | e <;> subst e <;> simp only [six, noiseV, onV, scaleV, turnV, advV] <;> grind
theorem rel_adv {Y n m k n1 : Nat → Int} (h : RelV Y n) (hn : ∀ i, i < 6 → n1 i = advV n m k i) : RelV (advV Y m k) n1 := by
  have e5 : n1 5 = n 5 := hn 5 (by decide)
  have g0 := h.2.2 0 (by decide)
  have g1 := h.2.2 1 (by decide)
  have g2 := h.2.2 2 (by decide)
  have g3 := h.2.2 3 (by decide)
  have g4 := h.2.2 4 (by decide)
  refine ⟨by rw [e5]; exact h.1, by rw [e5]; exact h.2.1, fun i hi => ?_⟩
  rw [e5, hn i hi]
  show advV n m k i * Y 5 = n 5 * advV Y m k i
  clear hn e5 h
  rcases i6 hi with e | e | e | e | e | e <;> subst e <;> simp only [advV]
  · exact lc2 (k := m 0) (k1 := m 1) g0 g1 (by grind)
  · exact lc2 (k := m 2) (k1 := m 3) g0 g1 (by grind)
  · exact lc3 (k := m 0 * m 0) (k1 := 2 * m 0 * m 1) (k2 := m 1 * m 1) g2 g3 g4 (by grind)
  · exact lc3 (k := m 0 * m 2) (k1 := m 1 * m 2 + m 0 * m 3) (k2 := m 1 * m 3) g2 g3 g4 (by grind)
  · exact lc3 (k := m 2 * m 2) (k1 := 2 * m 2 * m 3) (k2 := m 3 * m 3) g2 g3 g4 (by grind)
theorem gS_learn (c : Nat → Int) (h0 h1 r z : Int) : gS (six c) h0 h1 r = learnV c h0 h1 r z 4 := by
  simp only [gS, gW0, gW1, six, learnV]; grind
theorem six_learn {c : Nat → Int} (h : Eq5 c) (h0 h1 r z : Int) : ∀ i, i < 6 → obsV (six c) h0 h1 r z i = c 4 * six (learnV c h0 h1 r z) i := fun i hi => by
  obtain ⟨ha, ⟨hb0, hb1⟩, hc0, hc1⟩ := h
  rcases i6 hi with e | e | e | e | e | e <;> subst e <;> simp only [six, obsV, gS, gW0, gW1, gY, learnV] <;> grind
theorem hom2 {a b A B d k : Int} (h1 : a * d = k * A) (h2 : b * d = k * B) : a * b * (d * d) = k * k * (A * B) := by
  have e : a * b * (d * d) = (a * d) * (b * d) := by grind
  rw [e, h1, h2]; grind
theorem gW0_hom {Y n : Nat → Int} (h : RelV Y n) (h0 h1 : Int) : gW0 n h0 h1 * Y 5 = n 5 * gW0 Y h0 h1 := by
  have g2 := h.2.2 2 (by decide)
  have g3 := h.2.2 3 (by decide)
  simp only [gW0]; grind
theorem gW1_hom {Y n : Nat → Int} (h : RelV Y n) (h0 h1 : Int) : gW1 n h0 h1 * Y 5 = n 5 * gW1 Y h0 h1 := by
  have g2 := h.2.2 3 (by decide)
  have g3 := h.2.2 4 (by decide)
  simp only [gW1]; grind
theorem gS_hom {Y n : Nat → Int} (h : RelV Y n) (h0 h1 r : Int) : gS n h0 h1 r * Y 5 = n 5 * gS Y h0 h1 r := by
  have g2 := gW0_hom h h0 h1
  have g3 := gW1_hom h h0 h1
  simp only [gS]
  generalize gW0 n h0 h1 = a at *
  generalize gW1 n h0 h1 = b at *
  generalize gW0 Y h0 h1 = a1 at *
  generalize gW1 Y h0 h1 = b1 at *
  grind
theorem gY_hom {Y n : Nat → Int} (h : RelV Y n) (h0 h1 z : Int) : gY n h0 h1 z * Y 5 = n 5 * gY Y h0 h1 z := by
  have g2 := h.2.2 0 (by decide)
  have g3 := h.2.2 1 (by decide)
  simp only [gY]; grind
theorem obs_hom {Y n : Nat → Int} (h : RelV Y n) (h0 h1 r z : Int) : ∀ i, i < 6 → obsV n h0 h1 r z i * (Y 5 * Y 5) = n 5 * n 5 * obsV Y h0 h1 r z i := fun i hi => by
  have a0 := gW0_hom h h0 h1
  have a1 := gW1_hom h h0 h1
  have aS := gS_hom h h0 h1 r
  have aY := gY_hom h h0 h1 z
  have g0 := hom2 (h.2.2 0 (by decide)) aS
  have g1 := hom2 (h.2.2 1 (by decide)) aS
  have g2 := hom2 (h.2.2 2 (by decide)) aS
  have g3 := hom2 (h.2.2 3 (by decide)) aS
  have g4 := hom2 (h.2.2 4 (by decide)) aS
  have g5 := hom2 (h.2.2 5 (by decide)) aS
  have w0 := hom2 a0 aY
  have w1 := hom2 a1 aY
  have w00 := hom2 a0 a0
  have w01 := hom2 a0 a1
  have w11 := hom2 a1 a1
  clear a0 a1 aS aY h
  rcases i6 hi with e | e | e | e | e | e <;> subst e <;> simp only [obsV]
  · exact lc2 (k := 1) (k1 := 1) g0 w0 (by grind)
  · exact lc2 (k := 1) (k1 := 1) g1 w1 (by grind)
  · exact lc2 (k := 1) (k1 := -1) g2 w00 (by grind)
  · exact lc2 (k := 1) (k1 := -1) g3 w01 (by grind)
  · exact lc2 (k := 1) (k1 := -1) g4 w11 (by grind)
  · exact g5
theorem gF_keep {v : Nat → Int} {y : Nat} (h : ∀ i, i < 6 → (v 5).natAbs ∣ (v i).natAbs * y) : ∀ k, k ≤ 5 → (v 5).natAbs ∣ gF (v 5) v k * y
  | 0, _ => Nat.dvd_mul_right _ _
  | k + 1, hk => by
    have h1 := gF_keep h k (by omega)
    have h2 := h k (by omega)
    have e : gF (v 5) v (k + 1) * y = Nat.gcd (gF (v 5) v k * y) ((v k).natAbs * y) := by rw [Nat.gcd_mul_right]; rfl
    rw [e]
    exact Nat.dvd_gcd h1 h2
theorem shr_rel {v w Y : Nat → Int} (hs : Shr v w) (hv : 0 < v 5) (hY : 0 < Y 5) (hp : ∀ i, i < 6 → v i * Y 5 = v 5 * Y i) : RelV Y w := by
  obtain ⟨g, hg⟩ : ∃ g, g = gF (v 5) v 5 := ⟨_, rfl⟩
  have hgp : 0 < g := by rw [hg]; exact gF_pos v (by omega) 5
  have hd : ∀ i, i < 6 → v i = (g : Int) * w i := fun i hi => by
    have h1 : (g : Int) ∣ v i := by
      rw [hg]
      by_cases h5 : i < 5
      · exact gF_dvd (v 5) v h5
      · have e : i = 5 := by omega
        rw [e]; exact gF_dvd0 (v 5) v 5
    rw [hs i hi, ← hg, Int.mul_ediv_cancel' h1]
  have hgi : (0 : Int) < (g : Int) := by omega
  have h5 := hd 5 (by decide)
  have hw5 : 0 < w 5 := pos_of_mul hgi (by rw [← h5]; exact hv)
  refine ⟨hw5, ?_, fun i hi => ?_⟩
  · have h1 : (v 5).natAbs ∣ g * (Y 5).natAbs := by
      rw [hg]
      refine gF_keep (fun i hi => ?_) 5 (Nat.le_refl 5)
      rw [← Int.natAbs_mul, hp i hi, Int.natAbs_mul]
      exact Nat.dvd_mul_right _ _
    have h2 : (v 5).natAbs = g * (w 5).natAbs := by rw [h5, Int.natAbs_mul, Int.natAbs_natCast]
    rw [h2] at h1
    have h3 := Nat.le_of_dvd (by omega) (Nat.dvd_of_mul_dvd_mul_left hgp h1)
    omega
  · refine canc hgi ?_
    rw [← Int.mul_assoc, ← hd i hi, hp i hi, h5, Int.mul_assoc]
theorem rel_obs {c n w : Nat → Int} (hc : Good c) (h : RelV (six c) n) {h0 h1 r z : Int} (hr : 1 ≤ r) (hs : Shr (obsV n h0 h1 r z) w) : RelV (six (learnV c h0 h1 r z)) w ∧ 0 < gS n h0 h1 r := by
  have hd : 0 < c 4 := hc.1.2.2
  have hD : 0 < learnV c h0 h1 r z 4 := (good_learn hc hr).1.2.2
  have hS : gS n h0 h1 r * c 4 = n 5 * learnV c h0 h1 r z 4 := by rw [← gS_learn c h0 h1 r z]; exact gS_hom h h0 h1 r
  have hSp : 0 < gS n h0 h1 r := by
    refine pos_of_mul hd ?_
    rw [Int.mul_comm, hS]; exact Int.mul_pos h.1 hD
  have key : ∀ i, i < 6 → obsV n h0 h1 r z i * c 4 = n 5 * n 5 * six (learnV c h0 h1 r z) i := fun i hi => by
    have h1' := obs_hom h h0 h1 r z i hi
    rw [six_learn hc.2 h0 h1 r z i hi] at h1'
    refine canc hd ?_
    have e : six c 5 = c 4 := rfl
    rw [e] at h1'
    grind
  refine ⟨shr_rel hs (Int.mul_pos h.1 hSp) hD (fun i hi => ?_), hSp⟩
  have k1 := key i hi
  have k5 := key 5 (by decide)
  refine canc hd ?_
  generalize obsV n h0 h1 r z i = o1 at *
  generalize obsV n h0 h1 r z 5 = o5 at *
  generalize six (learnV c h0 h1 r z) i = s1 at *
  generalize six (learnV c h0 h1 r z) 5 = s5 at *
  grind
