/-! answers of two equal fractions -/
theorem Fr.sg {a b a1 b1 p0 q0 : Int} (h : Fr a b a1 b1) : (a * q0 - b * p0).sign = (a1 * q0 - b1 * p0).sign := by
  obtain ⟨h0, h1, h2⟩ := h
  have hb1 : 0 < b1 := by omega
  have e : b1 * (a * q0 - b * p0) = b * (a1 * q0 - b1 * p0) := lc1 (k := q0) h2 (by grind)
  have e1 : (b1 * (a * q0 - b * p0)).sign = (a * q0 - b * p0).sign := by rw [Int.sign_mul, Int.sign_eq_one_of_pos hb1, Int.one_mul]
  have e2 : (b * (a1 * q0 - b1 * p0)).sign = (a1 * q0 - b1 * p0).sign := by rw [Int.sign_mul, Int.sign_eq_one_of_pos h0, Int.one_mul]
  rw [← e1, e, e2]
theorem Fr.sg0 {a b a1 b1 : Int} (h : Fr a b a1 b1) : a.sign = a1.sign := by
  have := h.sg (p0 := 0) (q0 := 1)
  simp only [Int.mul_one, Int.mul_zero, Int.sub_zero] at this
  exact this
theorem Fr.lw {a b a1 b1 : Int} (h : Fr a b a1 b1) : (lwN a b).natAbs = (lwN a1 b1).natAbs ∧ lwD a b = lwD a1 b1 := by
  obtain ⟨h0, h1, h2⟩ := h
  have hb1 : 0 < b1 := by omega
  by_cases ha : a = 0
  · have ha1 : a1 = 0 := by
      rw [ha, Int.zero_mul] at h2
      rcases Int.mul_eq_zero.mp h2.symm with g | g
      · omega
      · exact g
    rw [ha, ha1, (lw_zero h0).1, (lw_zero h0).2, (lw_zero hb1).1, (lw_zero hb1).2]
    exact ⟨rfl, rfl⟩
  · obtain ⟨g, hg⟩ : ∃ g, g = Nat.gcd a.natAbs b.natAbs := ⟨_, rfl⟩
    have hgp : 0 < g := by rw [hg]; exact Nat.gcd_pos_of_pos_left _ (by omega)
    obtain ⟨X, hX⟩ : g ∣ a.natAbs := by rw [hg]; exact Nat.gcd_dvd_left _ _
    obtain ⟨Y, hY⟩ : g ∣ b.natAbs := by rw [hg]; exact Nat.gcd_dvd_right _ _
    have hco : Nat.gcd X Y = 1 := by
      have h5 : Nat.gcd (g * X) (g * Y) = g := by rw [← hX, ← hY, ← hg]
      rw [Nat.gcd_mul_left] at h5
      exact Nat.eq_of_mul_eq_mul_left hgp (by rw [Nat.mul_one]; exact h5)
    have hXp : 0 < X := Nat.pos_of_ne_zero (fun e => by rw [e, Nat.mul_zero] at hX; omega)
    have hYp : 0 < Y := Nat.pos_of_ne_zero (fun e => by rw [e, Nat.mul_zero] at hY; omega)
    have hm : a.natAbs * b1.natAbs = b.natAbs * a1.natAbs := by rw [← Int.natAbs_mul, ← Int.natAbs_mul, h2]
    have hm2 : X * b1.natAbs = Y * a1.natAbs := by
      rw [hX, hY, Nat.mul_assoc, Nat.mul_assoc] at hm
      exact Nat.eq_of_mul_eq_mul_left hgp hm
    have hd : Y ∣ b1.natAbs := by
      have : Y ∣ X * b1.natAbs := ⟨_, hm2⟩
      exact Nat.Coprime.dvd_of_dvd_mul_left (show Nat.Coprime Y X by unfold Nat.Coprime; rw [Nat.gcd_comm]; exact hco) this
    obtain ⟨k, hk⟩ := hd
    have hkp : 0 < k := Nat.pos_of_ne_zero (fun e => by rw [e, Nat.mul_zero] at hk; omega)
    have ha1 : a1.natAbs = X * k := by
      rw [hk] at hm2
      refine Nat.eq_of_mul_eq_mul_left hYp ?_
      rw [← hm2]; grind
    have l1 := low_un (a := a) (b := b) (X := (X : Int)) (Y := (Y : Int)) (k := (g : Int)) (g := 0) (by rw [← Int.natCast_mul, Nat.mul_comm, ← hX]) (by rw [← Int.natCast_mul, Nat.mul_comm, ← hY]; omega) (by omega) (by omega) (by omega) (by rw [Int.gcd_natCast_natCast]; exact hco) rfl
    have l2 := low_un (a := a1) (b := b1) (X := (X : Int)) (Y := (Y : Int)) (k := (k : Int)) (g := 0) (by rw [← Int.natCast_mul, ← ha1]) (by rw [← Int.natCast_mul, ← hk]; omega) (by omega) (by omega) (by omega) (by rw [Int.gcd_natCast_natCast]; exact hco) rfl
    refine ⟨by have := l1.1; have := l2.1; omega, by rw [l1.2, l2.2]⟩
theorem BL_un {x y : Int} {r s : Nat} (h : BL x r) (g : BL y s) (e : x.natAbs = y.natAbs) : r = s := by
  have aux : ∀ {x y : Int} {r s : Nat}, BL x r → BL y s → x.natAbs = y.natAbs → ¬ r < s := fun {x y r s} h g e hlt => by
    obtain ⟨h1, -⟩ := h
    obtain ⟨-, g2⟩ := g
    rcases g2 with g2 | g2
    · omega
    · have := pow2_mono (show r ≤ s - 1 by omega)
      rw [e] at h1
      omega
  have a1 := aux h g e
  have a2 := aux g h e.symm
  omega
/-! what holds is kept -/
theorem blB_ne {z v : Nat → Int} {b n : Nat} (h : n ≠ b) : ∀ j, j < 9 → blB (setB z b v) n j = blB z n j := fun j hj => setB_out (by omega)
theorem kb_l (k i : Nat) : KB k (i + 1) = 256 * KB k i := by
  unfold KB
  have e : (256 : Int) = 2 ^ 8 := by decide
  rw [e, ← Int.pow_add]; congr 1; omega
theorem kb_a (k i : Nat) : KB (k + 1) i = 65536 * KB k i := by
  unfold KB
  have e : (65536 : Int) = 2 ^ 16 := by decide
  rw [e, ← Int.pow_add]; congr 1; omega
theorem u2_n {f : Nat → Nat → Int} {a b : Nat} {x : Int} {i j : Nat} (h : i ≠ a ∨ j ≠ b) : up2 f a b x i j = f i j := by
  unfold up2 up1
  rcases h with h | h
  · simp [h]
  · by_cases c : i = a
    · simp [c, h]
    · simp [c]
theorem u2_s {f : Nat → Nat → Int} {a b : Nat} {x : Int} : up2 f a b x a b = x := by unfold up2 up1; simp
theorem onV_c {x x1 u u1 f : Nat → Int} (hu : ∀ i, i < 9 → u i = u1 i) : ∀ i, i < 9 → onV x u f i = onV x1 u1 f i := fun i hi => by
  have h9 : i = 0 ∨ i = 1 ∨ i = 2 ∨ i = 3 ∨ i = 4 ∨ i = 5 ∨ i = 6 ∨ i = 7 ∨ i = 8 := by omega
  rcases h9 with e | e | e | e | e | e | e | e | e <;> subst e <;> simp only [onV, scaleV, turnV, hu 0 (by decide), hu 1 (by decide), hu 2 (by decide), hu 3 (by decide), hu 4 (by decide), hu 5 (by decide), hu 6 (by decide), hu 7 (by decide), hu 8 (by decide)]
theorem advV_c {u u1 m k : Nat → Int} (hu : ∀ i, i < 6 → u i = u1 i) : ∀ i, i < 6 → advV u m k i = advV u1 m k i := fun i hi => by
  rcases i6 hi with e | e | e | e | e | e <;> subst e <;> simp only [advV, hu 0 (by decide), hu 1 (by decide), hu 2 (by decide), hu 3 (by decide), hu 4 (by decide), hu 5 (by decide)]
theorem inv_init {M M1 : Nat → Nat → Int} {E O P : Nat → Nat → Int} {z : Nat → Int} {a0 a1 b0 b1 b2 : Int} (hE : E 1 0 = 0) (hP : okP (P 3)) (h6 : ∀ i, i < 4 → M 6 i = P 3 i) (h7 : ∀ i, i < 3 → M 7 i = P 3 (4 + i)) (ho : okI a0 a1 b0 b1 b2) (hpd : Pd b0 b1 b2) (hb : Begun M M1 a0 a1 b0 b1 b2) :
    ∃ N1, Rep M1 N1 ∧ Inv M1 N1 (up2 (up2 E 0 0 0) 0 1 0) O P (setB z 0 (estV a0 a1 b0 b1 b2)) 0 0 (fun _ => 0) := by
  obtain ⟨N1, hR, ⟨m0, m1, m2⟩, ⟨e6, e7⟩, ⟨n0, n1, n2, n3, n4, n5⟩, hn⟩ := hb
  have hz : ∀ j, j < 9 → blB (setB z 0 (estV a0 a1 b0 b1 b2)) 0 j = estV a0 a1 b0 b1 b2 j := fun j hj => blB_s hj
  have hg := (good_est (m0 := a0) (m1 := a1) hpd).congr hz
  have hbd := (bd_est ho).congr hz
  have hrel : RelV (six (blB (setB z 0 (estV a0 a1 b0 b1 b2)) 0)) (fun i => N1 i) := by
    refine RelV.congr (Y := six (estV a0 a1 b0 b1 b2)) (n := six (estV a0 a1 b0 b1 b2)) ⟨by show (0 : Int) < 1; decide, Int.le_refl _, fun i hi => Int.mul_comm _ _⟩ (six_congr hz) (fun i hi => ?_)
    rcases i6 hi with e | e | e | e | e | e <;> subst e <;> simp only [six, estV]
    · exact n0
    · exact n1
    · exact n2
    · rw [n3]; omega
    · exact n4
    · exact n5
  refine ⟨N1, hR, ⟨⟨by decide, by decide, rfl, rfl, fun _ _ => Nat.le_refl _⟩, ⟨?_, ?_⟩, fun k hk => ?_, fun i hi => absurd hi (by omega), fun k hk => absurd hk (by omega), hP⟩, ⟨fun k hk i h1 h2 => ?_, fun k hk i h1 h2 => absurd h2 (Nat.not_lt_zero _), fun k hk => absurd hk (by omega)⟩, ⟨⟨m0, m1⟩, ⟨fun i hi => by rw [e6]; exact h6 i hi, fun i hi => by rw [e7]; exact h7 i hi⟩, fun k hk => absurd hk (by omega), fun k hk => ?_, fun k hk => absurd hk (by omega), fun i hi => absurd hi (by omega)⟩, Or.inl m2⟩
  · rw [u2_n (by omega), u2_s]; rfl
  · rw [u2_s]; rfl
  · have : k = 0 := by omega
    subst this
    rw [u2_n (by omega), u2_n (by omega), hE]; rfl
  · have hk0 : k = 0 := by omega
    have hi0 : i = 0 := Nat.le_zero.mp h2
    subst hk0; subst hi0
    exact ⟨hg, hbd⟩
  · have hk0 : k = 0 := by omega
    subst hk0
    exact ⟨hrel.congr (fun _ _ => rfl) (fun i hi => by show N1 (6 * 0 + i) = N1 i; rw [Nat.mul_zero, Nat.zero_add]), hrel.congr (fun _ _ => rfl) (fun i hi => by show N1 (24 + 6 * 0 + i) = N1 i; rw [← hn i hi])⟩
theorem inv_obs {M M1 : Nat → Nat → Int} {N : Nat → Int} {E O P : Nat → Nat → Int} {z : Nat → Int} {t q : Nat} {S : Nat → Nat} {h0 h1 r x : Int} (h : Inv M N E O P z t q S) (ho : okO h0 h1 r x) (hq6 : q ≠ 6) (hO : Observed M M1 N t q h0 h1 r x) :
    ∃ N1 S1, Rep M1 N1 ∧ Inv M1 N1 (up2 E 0 1 ((q : Int) + 1)) (up2 (up2 (up2 (up2 (up2 (up2 O q 0 h0) q 1 h1) q 2 r) q 3 x) q 4 (t : Int)) q 5 ((t + q : Nat) : Int)) P (setB z (t + q + 1) (learnV (blB z (t + q)) h0 h1 r x)) t (q + 1) S1 := by
  obtain ⟨⟨⟨g1, g2, g3, g4, hm⟩, ⟨g5, g6⟩, g7, g8, g9, g10⟩, ⟨b1, b2, b3⟩, ⟨⟨r0, r0'⟩, ⟨r1, r2⟩, r3, r4, r5, r6⟩, hf⟩ := id h
  obtain ⟨N1, hR, ⟨m0, m1, m2⟩, ⟨e6, e7, e8⟩, ⟨s0, s1, s2, s3⟩, hsh, hN⟩ := hO
  obtain ⟨S1, hS1⟩ : ∃ S1 : Nat → Nat, S1 = fun k => if k = t + 1 then q + 1 else S k := ⟨_, rfl⟩
  have sa : ∀ k, k ≤ t → S1 k = S k := fun k hk => by rw [hS1]; exact if_neg (by omega)
  have sb : S1 (t + 1) = q + 1 := by rw [hS1]; exact if_pos rfl
  obtain ⟨O1, hO1⟩ : ∃ O1, O1 = up2 (up2 (up2 (up2 (up2 (up2 O q 0 h0) q 1 h1) q 2 r) q 3 x) q 4 (t : Int)) q 5 ((t + q : Nat) : Int) := ⟨_, rfl⟩
  have oa : ∀ i j, i ≠ q → O1 i j = O i j := fun i j hi => by rw [hO1, u2_n (Or.inl hi), u2_n (Or.inl hi), u2_n (Or.inl hi), u2_n (Or.inl hi), u2_n (Or.inl hi), u2_n (Or.inl hi)]
  have o0 : O1 q 0 = h0 := by rw [hO1, u2_n (by omega), u2_n (by omega), u2_n (by omega), u2_n (by omega), u2_n (by omega), u2_s]
  have o1 : O1 q 1 = h1 := by rw [hO1, u2_n (by omega), u2_n (by omega), u2_n (by omega), u2_n (by omega), u2_s]
  have o2 : O1 q 2 = r := by rw [hO1, u2_n (by omega), u2_n (by omega), u2_n (by omega), u2_s]
  have o3 : O1 q 3 = x := by rw [hO1, u2_n (by omega), u2_n (by omega), u2_s]
  have o4 : O1 q 4 = (t : Int) := by rw [hO1, u2_n (by omega), u2_s]
  have o5 : O1 q 5 = ((t + q : Nat) : Int) := by rw [hO1, u2_s]
  rw [← hO1]
  obtain ⟨z1, hz1⟩ : ∃ z1, z1 = setB z (t + q + 1) (learnV (blB z (t + q)) h0 h1 r x) := ⟨_, rfl⟩
  have za : ∀ n, n ≠ t + q + 1 → ∀ j, j < 9 → blB z1 n j = blB z n j := fun n hn => by rw [hz1]; exact blB_ne hn
  have zb : ∀ j, j < 9 → blB z1 (t + q + 1) j = learnV (blB z (t + q)) h0 h1 r x j := fun j hj => by rw [hz1]; exact blB_s hj
  rw [← hz1]
  have hst := hm t (Nat.le_refl t)
  have hgt := b1 t (Nat.le_refl t) q (by omega) (by omega)
  have hrt := (r4 t (Nat.le_refl t)).2
  rw [g4] at hrt
  have hro := rel_obs hgt.1 hrt ho.2.2.1.1 hsh
  have hSm : ∀ k, k < t → S (k + 1) ≤ q := fun k hk => by have := S_mono hm (show k + 1 ≤ t + 1 by omega) (Nat.le_refl _); omega
  refine ⟨N1, S1, hR, ⟨⟨g1, by omega, by rw [sa 0 (by omega)]; exact g3, sb, fun k hk => ?_⟩, ⟨?_, ?_⟩, fun k hk => ?_, fun i hi => ?_, g9, g10⟩, ⟨fun k hk i q1 q2 => ?_, fun k hk i q1 q2 j hj => ?_, fun k hk j hj => ?_⟩, ⟨⟨m0, by rw [m1]; rfl⟩, ⟨fun i hi => by rw [e6]; exact r1 i hi, fun i hi => by rw [e7]; exact r2 i hi⟩, fun k hk i hi => by rw [e8]; exact r3 k hk i hi, fun k hk => ⟨?_, ?_⟩, fun k hk i hi => ?_, fun i hi k hk q1 q2 => ?_⟩, Or.inl m2⟩
  · rw [sa k hk]
    by_cases c : k = t
    · rw [c, sb]; omega
    · rw [sa (k + 1) (by omega)]; exact hm k hk
  · rw [u2_n (by omega)]; exact g5
  · rw [u2_s]; rfl
  · rw [u2_n (by omega), sa k hk]; exact g7 k hk
  · by_cases c : i = q
    · subst c
      refine ⟨by rw [o0, o1, o2, o3]; exact ho, t, Nat.le_refl t, ⟨by rw [sa t (Nat.le_refl t)]; omega, by rw [sb]; omega⟩, o4, o5⟩
    · obtain ⟨d1, k, d2, d3, d4, d5⟩ := g8 i (by omega)
      refine ⟨by rw [oa i 0 c, oa i 1 c, oa i 2 c, oa i 3 c]; exact d1, k, d2, ⟨by rw [sa k d2]; exact d3.1, ?_⟩, by rw [oa i 4 c]; exact d4, by rw [oa i 5 c]; exact d5⟩
      by_cases c2 : k = t
      · rw [c2, sb]; omega
      · rw [sa (k + 1) (by omega)]; exact d3.2
  · rw [sa k hk] at q1
    by_cases c : k = t
    · subst c
      rw [sb] at q2
      by_cases c2 : i = q + 1
      · subst c2
        rw [show k + (q + 1) = k + q + 1 by omega]
        refine ⟨(good_learn hgt.1 ho.2.2.1.1).congr zb, ?_⟩
        rw [kb_l]
        exact (bd_learn hgt.2 ho).congr zb
      · have hh := b1 k hk i q1 (by omega)
        exact ⟨hh.1.congr (za _ (by omega)), hh.2.congr (za _ (by omega))⟩
    · rw [sa (k + 1) (by omega)] at q2
      have := hSm k (by omega)
      have hh := b1 k hk i q1 q2
      exact ⟨hh.1.congr (za _ (by omega)), hh.2.congr (za _ (by omega))⟩
  · rw [sa k hk] at q1
    by_cases c : k = t
    · subst c
      rw [sb] at q2
      by_cases c2 : i = q
      · subst c2
        rw [zb j hj, o0, o1, o2, o3]
        exact (learnV_congr (za _ (by omega)) j hj).symm
      · rw [za _ (by omega) j hj, oa i 0 c2, oa i 1 c2, oa i 2 c2, oa i 3 c2, b2 k hk i q1 (by omega) j hj]
        exact (learnV_congr (za _ (by omega)) j hj).symm
    · rw [sa (k + 1) (by omega)] at q2
      have := hSm k (by omega)
      rw [za _ (by omega) j hj, oa i 0 (by omega), oa i 1 (by omega), oa i 2 (by omega), oa i 3 (by omega), b2 k hk i q1 q2 j hj]
      exact (learnV_congr (za _ (by omega)) j hj).symm
  · have := hSm k hk
    rw [sa (k + 1) (by omega), za _ (by omega) j hj, b3 k hk j hj]
    refine noiseV_congr (fun i hi => ?_) j hj
    refine onV_c (fun i hi => ?_) i hi
    exact (za _ (by omega) i hi).symm
  · have : S k ≤ q := by have := S_mono hm (show k ≤ t + 1 by omega) (Nat.le_refl _); omega
    rw [sa k hk]
    refine (r4 k hk).1.congr (six_congr (za _ (by omega))) (fun i hi => hN _ (by omega) (by omega) (by omega))
  · by_cases c : k = t
    · subst c
      rw [sb]
      refine hro.1.congr (six_congr zb) (fun _ _ => rfl)
    · have := hSm k (by omega)
      rw [sa (k + 1) (by omega)]
      refine (r4 k hk).2.congr (six_congr (za _ (by omega))) (fun i hi => hN _ (by omega) (by omega) (by omega))
  · rw [hN _ (by omega) (by omega) (by omega), r5 k hk i hi]
    refine advV_c (fun j hj => ?_) i hi
    exact (hN _ (by omega) (by omega) (by omega)).symm
  · rw [sa k hk] at q1
    by_cases c : i = q
    · subst c
      have hkt : k = t := by
        by_cases c : k = t
        · exact c
        · rw [sa (k + 1) (by omega)] at q2
          have := hSm k (by omega)
          omega
      subst hkt
      rw [s0, s1, s2, s3, o0, o1, o3, za _ (by omega) 4 (by decide), zb 4 (by decide), ← gS_learn]
      have e1 : gY (six (blB z1 (k + i))) h0 h1 x = gY (six (blB z (k + i))) h0 h1 x := by
        simp only [gY]
        rw [six_congr (za (k + i) (by omega)) 0 (by decide), six_congr (za (k + i) (by omega)) 1 (by decide), six_congr (za (k + i) (by omega)) 5 (by decide)]
      rw [e1]
      exact ⟨⟨hrt.1, hrt.2.1, gY_hom hrt h0 h1 x⟩, hrt.1, hrt.2.1, gS_hom hrt h0 h1 r⟩
    · have q3 : i < S (k + 1) := by
        by_cases c2 : k = t
        · rw [c2, g4]; omega
        · rw [sa (k + 1) (by omega)] at q2; exact q2
      have := S_mono hm (show k + 1 ≤ t + 1 by omega) (Nat.le_refl _)
      have hh := r6 i (by omega) k hk q1 q3
      rw [hN _ (by omega) (by omega) (by omega), hN _ (by omega) (by omega) (by omega), hN _ (by omega) (by omega) (by omega), hN _ (by omega) (by omega) (by omega), oa i 0 c, oa i 1 c, oa i 3 c, za _ (by omega) 4 (by decide), za _ (by omega) 4 (by decide)]
      have e1 : gY (six (blB z1 (k + i))) (O i 0) (O i 1) (O i 3) = gY (six (blB z (k + i))) (O i 0) (O i 1) (O i 3) := by
        simp only [gY]
        rw [six_congr (za (k + i) (by omega)) 0 (by decide), six_congr (za (k + i) (by omega)) 1 (by decide), six_congr (za (k + i) (by omega)) 5 (by decide)]
      rw [e1]
      exact hh
