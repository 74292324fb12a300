theorem hmul {a b A B k l K L : Int} (h1 : a * k = K * A) (h2 : b * l = L * B) : a * b * (k * l) = K * L * (A * B) := by
  have e : a * b * (k * l) = (a * k) * (b * l) := by grind
  rw [e, h1, h2]; grind
theorem matV_hom {C P n p f : Nat → Int} {d n5 : Int} (hn : ∀ i, i < 6 → n i * d = n5 * C i) (hp : ∀ i, i < 6 → p i * d = n5 * P i) : ∀ i, i < 5 → matV n p f i * (d * d) = n5 * n5 * matV C P f i := fun i hi => by
  have n2 := hn 2 (by decide)
  have n3 := hn 3 (by decide)
  have n4 := hn 4 (by decide)
  have p2 := hp 2 (by decide)
  have p3 := hp 3 (by decide)
  have p4 := hp 4 (by decide)
  have h5 : i = 0 ∨ i = 1 ∨ i = 2 ∨ i = 3 ∨ i = 4 := by omega
  have r00 : (n 2 * f 0 + n 3 * f 1) * d = n5 * (C 2 * f 0 + C 3 * f 1) := lc2 (k := f 0) (k1 := f 1) n2 n3 (by grind)
  have r01 : (n 2 * f 2 + n 3 * f 3) * d = n5 * (C 2 * f 2 + C 3 * f 3) := lc2 (k := f 2) (k1 := f 3) n2 n3 (by grind)
  have r10 : (n 3 * f 0 + n 4 * f 1) * d = n5 * (C 3 * f 0 + C 4 * f 1) := lc2 (k := f 0) (k1 := f 1) n3 n4 (by grind)
  have r11 : (n 3 * f 2 + n 4 * f 3) * d = n5 * (C 3 * f 2 + C 4 * f 3) := lc2 (k := f 2) (k1 := f 3) n3 n4 (by grind)
  rcases h5 with e | e | e | e | e <;> subst e <;> simp only [matV]
  · exact lc2 (k := 1) (k1 := -1) (hmul r00 p4) (hmul r01 p3) (by grind)
  · exact lc2 (k := 1) (k1 := -1) (hmul r01 p2) (hmul r00 p3) (by grind)
  · exact lc2 (k := 1) (k1 := -1) (hmul r10 p4) (hmul r11 p3) (by grind)
  · exact lc2 (k := 1) (k1 := -1) (hmul r11 p2) (hmul r10 p3) (by grind)
  · exact lc2 (k := 1) (k1 := -1) (hmul p2 p4) (hmul p3 p3) (by grind)
theorem smW_hom {C P X V n p x g : Nat → Int} {d n5 ka rh : Int} (hn : ∀ i, i < 6 → n i * d = n5 * C i) (hp : ∀ i, i < 6 → p i * d = n5 * P i) (hx : ∀ i, i < 6 → x i * X 5 = x 5 * X i) (hg : ∀ i, i < 5 → g i * ka = rh * V i) :
    ∀ i, i < 6 → smW n p x g i * (ka * (X 5 * d) * ka) = rh * (x 5 * n5) * rh * smW C P X V i := fun i hi => by
  have E : ∀ j, j < 5 → (x j * p 5 + -1 * (p j * x 5)) * (X 5 * d) = x 5 * n5 * (X j * P 5 + -1 * (P j * X 5)) := fun j hj => by
    have h1 := hmul (hx j (by omega)) (hp 5 (by decide))
    have h2 := hmul (hp j (by omega)) (hx 5 (by decide))
    exact lc2 (k := 1) (k1 := -1) h1 h2 (by grind)
  have g0 := hg 0 (by decide)
  have g1 := hg 1 (by decide)
  have g2 := hg 2 (by decide)
  have g3 := hg 3 (by decide)
  have g4 := hg 4 (by decide)
  have U : ∀ j, j < 6 → n j * (g 4 * g 4 * x 5) * (d * (ka * ka * X 5)) = n5 * (rh * rh * x 5) * (C j * (V 4 * V 4 * X 5)) := fun j hj => hmul (hn j hj) (hmul (hmul g4 g4) (hx 5 (by decide)))
  have S : ∀ a b i j, i < 5 → j < 5 → g a * ka = rh * V a → g b * ka = rh * V b → (g a * (x i * p 5 + -1 * (p i * x 5)) + 1 * (g b * (x j * p 5 + -1 * (p j * x 5)))) * (ka * (X 5 * d)) = rh * (x 5 * n5) * (V a * (X i * P 5 + -1 * (P i * X 5)) + 1 * (V b * (X j * P 5 + -1 * (P j * X 5)))) := fun a b i j hi hj ha hb => by
    have h1 := hmul ha (E i hi)
    have h2 := hmul hb (E j hj)
    exact lc2 (k := 1) (k1 := 1) h1 h2 (by grind)
  rcases i6 hi with e | e | e | e | e | e <;> subst e <;> simp only [smW]
  · exact lc2 (k := 1) (k1 := 1) (hmul (S 0 1 0 1 (by decide) (by decide) g0 g1) g4) (U 0 (by decide)) (by grind)
  · exact lc2 (k := 1) (k1 := 1) (hmul (S 2 3 0 1 (by decide) (by decide) g2 g3) g4) (U 1 (by decide)) (by grind)
  · exact lc3 (k := 1) (k1 := 1) (k2 := 1) (hmul (S 0 1 2 3 (by decide) (by decide) g0 g1) g0) (hmul (S 0 1 3 4 (by decide) (by decide) g0 g1) g1) (U 2 (by decide)) (by grind)
  · exact lc3 (k := 1) (k1 := 1) (k2 := 1) (hmul (S 0 1 2 3 (by decide) (by decide) g0 g1) g2) (hmul (S 0 1 3 4 (by decide) (by decide) g0 g1) g3) (U 3 (by decide)) (by grind)
  · exact lc3 (k := 1) (k1 := 1) (k2 := 1) (hmul (S 2 3 2 3 (by decide) (by decide) g2 g3) g2) (hmul (S 2 3 3 4 (by decide) (by decide) g2 g3) g3) (U 4 (by decide)) (by grind)
  · exact lc1 (k := 1) (U 5 (by decide)) (by grind)
theorem mat_pos {C P n p f : Nat → Int} {d n5 : Int} (hn5 : 0 < n5) (hn : ∀ i, i < 6 → n i * d = n5 * C i) (hp : ∀ i, i < 6 → p i * d = n5 * P i) (h : 0 < matV C P f 4) (hd : 0 < d) : 0 < matV n p f 4 := by
  have h1 := matV_hom (f := f) hn hp 4 (by decide)
  refine pos_of_mul (Int.mul_pos hd hd) ?_
  rw [Int.mul_comm, h1]
  exact Int.mul_pos (Int.mul_pos hn5 hn5) h
theorem sm_rel {c g f x x1 x2 x3 n p xx k : Nat → Int} (hc : Good c) (hg : GoodH g) (hq : Pd (k 0) (k 1) (k 2)) (b : Nat → Int) (hB : b = noiseV (onV x c f) (k 0) (k 1) (k 2)) (hn : RelV (six c) n) (hp : ∀ i, i < 6 → p i = advV n f k i) :
    0 < matV n p f 4 ∧ ∀ w, RelV (six (joinV x1 b g)) xx → Shr (smV n p xx f) w → RelV (six (joinV x2 c (backV x3 (noiseV g (k 0) (k 1) (k 2)) f))) w := by
  have hb : Good b := by rw [hB]; exact good_adv hc hq
  have hh : GoodH (backV x3 (noiseV g (k 0) (k 1) (k 2)) f) := goodH_back (goodH_noise hg hq)
  have b4 : b 4 = c 4 := by rw [hB]; simp only [noiseV, onV, scaleV]; grind
  have hd : 0 < c 4 := hc.1.2.2
  have hpr : RelV (six b) p := (rel_adv hn hp).congr (fun i hi => by rw [hB]; exact six_adv x c f k i hi) (fun i _ => rfl)
  have p5 : p 5 = n 5 := hp 5 (by decide)
  have hn' : ∀ i, i < 6 → n i * c 4 = n 5 * six c i := hn.2.2
  have hp' : ∀ i, i < 6 → p i * c 4 = n 5 * six b i := fun i hi => by
    have h1 := hpr.2.2 i hi
    rw [p5] at h1
    rw [← b4]; exact h1
  have G4 : matV (six c) (six b) f 4 = b 4 * b 0 := by
    have := hb.2.1
    simp only [matV, six]; grind
  have G4p : 0 < matV (six c) (six b) f 4 := by rw [G4]; exact Int.mul_pos hb.1.2.2 hb.1.1
  have mp := mat_pos (f := f) hn.1 hn' hp' G4p hd
  refine ⟨mp, fun w hx hs => ?_⟩
  obtain ⟨ga, hga⟩ : ∃ ga, ga = gF (matV n p f 4) (matV n p f) 4 := ⟨_, rfl⟩
  have hgp : 0 < ga := by rw [hga]; exact gF_pos (matV n p f) (by omega) 4
  have hgi : (0 : Int) < (ga : Int) := by omega
  have hG : ∀ i, i < 5 → (ga : Int) * matG n p f i = matV n p f i := fun i hi => by
    unfold matG
    rw [← hga]
    refine Int.mul_ediv_cancel' ?_
    rw [hga]
    by_cases h4 : i < 4
    · exact gF_dvd _ _ h4
    · have e : i = 4 := by omega
      rw [e]; exact gF_dvd0 _ _ 4
  have hV : ∀ i, i < 5 → matG n p f i * ((ga : Int) * (c 4 * c 4)) = n 5 * n 5 * matV (six c) (six b) f i := fun i hi => by
    have h1 := matV_hom (f := f) hn' hp' i hi
    rw [← hG i hi] at h1
    rw [← h1]; grind
  have g4p : 0 < matG n p f 4 := pos_of_mul hgi (by rw [hG 4 (by decide)]; exact mp)
  have key := smW_hom hn' hp' hx.2.2 hV
  have base := sm_base (x := x) (x1 := x1) (x2 := x2) (x3 := x3) (f := f) hc hg hq b hB
  have hX5 : 0 < six (joinV x1 b g) 5 := Int.lt_of_lt_of_le hx.1 hx.2.1
  have hK : 0 < (ga : Int) * (c 4 * c 4) * (six (joinV x1 b g) 5 * c 4) * ((ga : Int) * (c 4 * c 4)) := by
    have h1 := Int.mul_pos hgi (Int.mul_pos hd hd)
    exact Int.mul_pos (Int.mul_pos h1 (Int.mul_pos hX5 hd)) h1
  have hv5 : 0 < smV n p xx f 5 := Int.mul_pos (Int.mul_pos (Int.mul_pos g4p g4p) hx.1) hn.1
  refine shr_rel hs hv5 (join_pos (x := x2) hc hh) (fun i hi => ?_)
  refine canc hK ?_
  have k1 := key i hi
  have k5 := key 5 (by decide)
  have bi := base i hi
  have e : smV n p xx f = smW n p xx (matG n p f) := rfl
  rw [e]
  generalize (ga : Int) * (c 4 * c 4) * (six (joinV x1 b g) 5 * c 4) * ((ga : Int) * (c 4 * c 4)) = K at *
  generalize n 5 * n 5 * (xx 5 * n 5) * (n 5 * n 5) = R at *
  generalize smW n p xx (matG n p f) i = s1 at *
  generalize smW n p xx (matG n p f) 5 = s5 at *
  generalize smW (six c) (six b) (six (joinV x1 b g)) (matV (six c) (six b) f) i = t1 at *
  generalize smW (six c) (six b) (six (joinV x1 b g)) (matV (six c) (six b) f) 5 = t5 at *
  generalize six (joinV x2 c (backV x3 (noiseV g (k 0) (k 1) (k 2)) f)) i = y1 at *
  generalize six (joinV x2 c (backV x3 (noiseV g (k 0) (k 1) (k 2)) f)) 5 = y5 at *
  exact lc3 (k := y5) (k1 := -y1) (k2 := R) k1 k5 bi (by grind)
