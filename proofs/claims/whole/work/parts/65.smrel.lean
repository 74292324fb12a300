theorem sm_base {c g f x x1 x2 x3 : Nat → Int} {q0 q1 q2 : Int} (hc : Good c) (hg : GoodH g) (hq : Pd q0 q1 q2) (b : Nat → Int) (hB : b = noiseV (onV x c f) q0 q1 q2) :
    ∀ i, i < 6 → smW (six c) (six b) (six (joinV x1 b g)) (matV (six c) (six b) f) i * six (joinV x2 c (backV x3 (noiseV g q0 q1 q2) f)) 5 = smW (six c) (six b) (six (joinV x1 b g)) (matV (six c) (six b) f) 5 * six (joinV x2 c (backV x3 (noiseV g q0 q1 q2) f)) i := by
  have hb : Good b := by rw [hB]; exact good_adv hc hq
  have hh : GoodH (backV x3 (noiseV g q0 q1 q2) f) := goodH_back (goodH_noise hg hq)
  have b4 : b 4 = c 4 := by rw [hB]; simp only [noiseV, onV, scaleV]; grind
  have b7 : b 7 = f 0 * c 7 + f 1 * c 8 := by rw [hB]; simp only [noiseV, onV, scaleV, turnV]; grind
  have b8 : b 8 = f 2 * c 7 + f 3 * c 8 := by rw [hB]; simp only [noiseV, onV, scaleV, turnV]; grind
  have jb := join_eq x1 hb.2 hg.2 hb.1.1 hg.1.1
  have jy := join_eq x2 hc.2 hh.2 hc.1.1 hh.1.1
  have e0 : backV x3 (noiseV g q0 q1 q2) f 0 = noiseV g q0 q1 q2 0 := by simp only [backV, scaleV]; grind
  have e5 : backV x3 (noiseV g q0 q1 q2) f 5 = f 0 * noiseV g q0 q1 q2 5 + f 2 * noiseV g q0 q1 q2 6 := by simp only [backV, scaleV, turnV]; grind
  have e6 : backV x3 (noiseV g q0 q1 q2) f 6 = f 1 * noiseV g q0 q1 q2 5 + f 3 * noiseV g q0 q1 q2 6 := by simp only [backV, scaleV, turnV]; grind
  have hU : 0 < c 0 * backV x3 (noiseV g q0 q1 q2) f 0 := Int.mul_pos hc.1.1 hh.1.1
  have G4 : matV (six c) (six b) f 4 = b 4 * b 0 := by
    have := hb.2.1
    simp only [matV, six]; grind
  -- the mean
  have EN := sm_N (q0 := q0) (q1 := q1) (q2 := q2) hg.2.1 hg.2.2.1.1 hg.2.2.1.2 hg.2.2.2.1 hg.2.2.2.2 rfl rfl rfl rfl
  have m := sm_vec (x2 := x2) (x3 := x3) hc.2 hg b hB (a0 := c 7) (a1 := c 8) (k0 := c 5) (k1 := c 6) (x0 := joinV x1 b g 7) (x1 := joinV x1 b g 8) (xi := joinV x1 b g 4) (n0 := g 5) (n1 := g 6) hc.2.2.1.1 hc.2.2.1.2 EN
    (sm_E (r0 := joinV x1 b g 4 * (b 5 * g 0 + g 5 * b 0)) jb.2.2.1 (by
      have h1 := hb.2.2.1.1
      rw [b7, b8] at h1
      exact lc1 (k := -(g 0 * joinV x1 b g 4)) h1 (by grind)))
    (sm_E (r0 := joinV x1 b g 4 * (b 6 * g 0 + g 6 * b 0)) jb.2.2.2 (by
      have h1 := hb.2.2.1.2
      rw [b7, b8] at h1
      exact lc1 (k := -(g 0 * joinV x1 b g 4)) h1 (by grind)))
  have ms := sm_solve jy.1 m.1 m.2
  have mean0 : joinV x2 c (backV x3 (noiseV g q0 q1 q2) f) 4 * smS c b f 0 (c 7) (c 8) (c 7) (joinV x1 b g 7) (joinV x1 b g 8) (joinV x1 b g 4) = c 4 * (c 4 * b 0) * joinV x1 b g 4 * joinV x2 c (backV x3 (noiseV g q0 q1 q2) f) 7 := by
    refine canc hU ?_
    have h1 := ms.1
    have h2 := jy.2.1.1
    rw [e5, e6, e0] at h2
    rw [e0] at h1 ⊢
    have e5' : noiseV g q0 q1 q2 5 = g 5 + g 7 * q2 + g 8 * -q1 := rfl
    have e6' : noiseV g q0 q1 q2 6 = g 6 + g 8 * q0 + g 7 * -q1 := rfl
    rw [e5', e6'] at h2
    exact lc2 (k := 1) (k1 := -(c 4 * (c 4 * b 0) * joinV x1 b g 4)) h1 h2 (by grind)
  have mean1 : joinV x2 c (backV x3 (noiseV g q0 q1 q2) f) 4 * smS c b f 1 (c 7) (c 8) (c 8) (joinV x1 b g 7) (joinV x1 b g 8) (joinV x1 b g 4) = c 4 * (c 4 * b 0) * joinV x1 b g 4 * joinV x2 c (backV x3 (noiseV g q0 q1 q2) f) 8 := by
    refine canc hU ?_
    have h1 := ms.2
    have h2 := jy.2.1.2
    rw [e5, e6, e0] at h2
    rw [e0] at h1 ⊢
    have e5' : noiseV g q0 q1 q2 5 = g 5 + g 7 * q2 + g 8 * -q1 := rfl
    have e6' : noiseV g q0 q1 q2 6 = g 6 + g 8 * q0 + g 7 * -q1 := rfl
    rw [e5', e6'] at h2
    exact lc2 (k := 1) (k1 := -(c 4 * (c 4 * b 0) * joinV x1 b g 4)) h1 h2 (by grind)
  -- a column of the covariance
  have col : ∀ (a0 a1 k0 k1 y0 y1 z0 z1 : Int), c 1 * a0 + c 2 * a1 = c 4 * k0 → c 2 * a0 + c 3 * a1 = c 4 * k1 → y0 = b 1 * (f 0 * a0 + f 1 * a1) + b 2 * (f 2 * a0 + f 3 * a1) → y1 = b 2 * (f 0 * a0 + f 1 * a1) + b 3 * (f 2 * a0 + f 3 * a1) → z0 = joinV x1 b g 3 * y0 - joinV x1 b g 2 * y1 → z1 = joinV x1 b g 1 * y1 - joinV x1 b g 2 * y0 →
      joinV x2 c (backV x3 (noiseV g q0 q1 q2) f) 4 * (c 0 * backV x3 (noiseV g q0 q1 q2) f 0) * smS c b f 0 a0 a1 a0 z0 z1 (b 4 * b 0 * joinV x1 b g 4) = c 4 * (c 4 * b 0) * (b 4 * b 0 * joinV x1 b g 4) * noiseV g q0 q1 q2 0 * (joinV x2 c (backV x3 (noiseV g q0 q1 q2) f) 3 * k0 - joinV x2 c (backV x3 (noiseV g q0 q1 q2) f) 2 * k1) ∧
      joinV x2 c (backV x3 (noiseV g q0 q1 q2) f) 4 * (c 0 * backV x3 (noiseV g q0 q1 q2) f 0) * smS c b f 1 a0 a1 a1 z0 z1 (b 4 * b 0 * joinV x1 b g 4) = c 4 * (c 4 * b 0) * (b 4 * b 0 * joinV x1 b g 4) * noiseV g q0 q1 q2 0 * (joinV x2 c (backV x3 (noiseV g q0 q1 q2) f) 1 * k1 - joinV x2 c (backV x3 (noiseV g q0 q1 q2) f) 2 * k0) := by
    intro a0 a1 k0 k1 y0 y1 z0 z1 ha0 ha1 hy0 hy1 hz0 hz1
    have v := sm_vec (x2 := x2) (x3 := x3) hc.2 hg b hB (a0 := a0) (a1 := a1) (k0 := k0) (k1 := k1) (x0 := z0) (x1 := z1) (xi := b 4 * b 0 * joinV x1 b g 4) (n0 := 0) (n1 := 0) (w0 := 0) (w1 := 0) ha0 ha1 (by constructor <;> grind)
      (sm_E (r0 := joinV x1 b g 4 * (b 0 * g 0) * y0) (by
        have h1 := jb.1
        rw [hz0, hz1]
        show joinV x1 b g 1 * _ + joinV x1 b g 2 * _ = _
        exact lc1 (k := y0) h1 (by grind)) (by rw [hy0]; grind))
      (sm_E (r0 := joinV x1 b g 4 * (b 0 * g 0) * y1) (by
        have h1 := jb.1
        rw [hz0, hz1]
        show joinV x1 b g 2 * _ + joinV x1 b g 3 * _ = _
        exact lc1 (k := y1) h1 (by grind)) (by rw [hy1]; grind))
    have vs := sm_solve jy.1 v.1 v.2
    refine ⟨vs.1.trans ?_, vs.2.trans ?_⟩ <;> grind
  have c0 := col (c 3) (-(c 2)) (c 0) 0 (matV (six c) (six b) f 0) (matV (six c) (six b) f 1) _ _ (by have := hc.2.1; grind) (by grind) (by simp only [matV, six]; grind) (by simp only [matV, six]; grind) rfl rfl
  have c1 := col (-(c 2)) (c 1) 0 (c 0) (matV (six c) (six b) f 2) (matV (six c) (six b) f 3) _ _ (by grind) (by have := hc.2.1; grind) (by simp only [matV, six]; grind) (by simp only [matV, six]; grind) rfl rfl
  have hdet := hb.2.1
  have P0 : b 3 * matV (six c) (six b) f 0 + -(b 2) * matV (six c) (six b) f 1 = b 4 * b 0 * (f 0 * c 3 + f 1 * -(c 2)) := by
    simp only [matV, six]
    exact lc1 (k := f 0 * c 3 + f 1 * -(c 2)) hdet (by grind)
  have P1 : -(b 2) * matV (six c) (six b) f 0 + b 1 * matV (six c) (six b) f 1 = b 4 * b 0 * (f 2 * c 3 + f 3 * -(c 2)) := by
    simp only [matV, six]
    exact lc1 (k := f 2 * c 3 + f 3 * -(c 2)) hdet (by grind)
  have P2 : b 3 * matV (six c) (six b) f 2 + -(b 2) * matV (six c) (six b) f 3 = b 4 * b 0 * (f 0 * -(c 2) + f 1 * c 1) := by
    simp only [matV, six]
    exact lc1 (k := f 0 * -(c 2) + f 1 * c 1) hdet (by grind)
  have P3 : -(b 2) * matV (six c) (six b) f 2 + b 1 * matV (six c) (six b) f 3 = b 4 * b 0 * (f 2 * -(c 2) + f 3 * c 1) := by
    simp only [matV, six]
    exact lc1 (k := f 2 * -(c 2) + f 3 * c 1) hdet (by grind)
  intro i hi
  have w5 : smW (six c) (six b) (six (joinV x1 b g)) (matV (six c) (six b) f) 5 = b 4 * b 0 * (b 4 * b 0) * joinV x1 b g 4 * c 4 := by
    simp only [smW]; rw [G4]; rfl
  have y5 : six (joinV x2 c (backV x3 (noiseV g q0 q1 q2) f)) 5 = joinV x2 c (backV x3 (noiseV g q0 q1 q2) f) 4 := rfl
  rw [w5, y5]
  rcases i6 hi with e | e | e | e | e | e <;> subst e
  · have h1 : smW (six c) (six b) (six (joinV x1 b g)) (matV (six c) (six b) f) 0 = b 4 * b 0 * smS c b f 0 (c 7) (c 8) (c 7) (joinV x1 b g 7) (joinV x1 b g 8) (joinV x1 b g 4) := by
      simp only [smW, smS]; rw [G4]
      show (_ * (joinV x1 b g 7 * b 4 + -1 * (b 7 * joinV x1 b g 4)) + 1 * (_ * (joinV x1 b g 8 * b 4 + -1 * (b 8 * joinV x1 b g 4)))) * _ + 1 * (c 7 * (_ * joinV x1 b g 4)) = _
      rw [b7, b8]; grind
    show _ = _ * joinV x2 c (backV x3 (noiseV g q0 q1 q2) f) 7
    rw [h1, b4]
    exact lc1 (k := c 4 * b 0) mean0 (by grind)
  · have h1 : smW (six c) (six b) (six (joinV x1 b g)) (matV (six c) (six b) f) 1 = b 4 * b 0 * smS c b f 1 (c 7) (c 8) (c 8) (joinV x1 b g 7) (joinV x1 b g 8) (joinV x1 b g 4) := by
      simp only [smW, smS]; rw [G4]
      show (_ * (joinV x1 b g 7 * b 4 + -1 * (b 7 * joinV x1 b g 4)) + 1 * (_ * (joinV x1 b g 8 * b 4 + -1 * (b 8 * joinV x1 b g 4)))) * _ + 1 * (c 8 * (_ * joinV x1 b g 4)) = _
      rw [b7, b8]; grind
    show _ = _ * joinV x2 c (backV x3 (noiseV g q0 q1 q2) f) 8
    rw [h1, b4]
    exact lc1 (k := c 4 * b 0) mean1 (by grind)
  · have h1 : smW (six c) (six b) (six (joinV x1 b g)) (matV (six c) (six b) f) 2 = smS c b f 0 (c 3) (-(c 2)) (c 3) (joinV x1 b g 3 * matV (six c) (six b) f 0 - joinV x1 b g 2 * matV (six c) (six b) f 1) (joinV x1 b g 1 * matV (six c) (six b) f 1 - joinV x1 b g 2 * matV (six c) (six b) f 0) (b 4 * b 0 * joinV x1 b g 4) := by
      simp only [smW, smS]; rw [G4]
      show (_ * (joinV x1 b g 3 * b 4 + -1 * (b 3 * joinV x1 b g 4)) + 1 * (_ * (-(joinV x1 b g 2) * b 4 + -1 * (-(b 2) * joinV x1 b g 4)))) * _ + 1 * ((_ * (-(joinV x1 b g 2) * b 4 + -1 * (-(b 2) * joinV x1 b g 4)) + 1 * (_ * (joinV x1 b g 1 * b 4 + -1 * (b 1 * joinV x1 b g 4)))) * _) + 1 * (c 3 * (_ * joinV x1 b g 4)) = _
      exact lc2 (k := -(matV (six c) (six b) f 0 * joinV x1 b g 4)) (k1 := -(matV (six c) (six b) f 1 * joinV x1 b g 4)) P0 P1 (by grind)
    show _ = _ * joinV x2 c (backV x3 (noiseV g q0 q1 q2) f) 3
    rw [h1]
    refine canc hU ?_
    have h2 := c0.1
    rw [e0] at h2 ⊢
    rw [b4] at h2 ⊢
    exact lc1 (k := 1) h2 (by grind)
  · have h1 : smW (six c) (six b) (six (joinV x1 b g)) (matV (six c) (six b) f) 3 = smS c b f 1 (c 3) (-(c 2)) (-(c 2)) (joinV x1 b g 3 * matV (six c) (six b) f 0 - joinV x1 b g 2 * matV (six c) (six b) f 1) (joinV x1 b g 1 * matV (six c) (six b) f 1 - joinV x1 b g 2 * matV (six c) (six b) f 0) (b 4 * b 0 * joinV x1 b g 4) := by
      simp only [smW, smS]; rw [G4]
      show (_ * (joinV x1 b g 3 * b 4 + -1 * (b 3 * joinV x1 b g 4)) + 1 * (_ * (-(joinV x1 b g 2) * b 4 + -1 * (-(b 2) * joinV x1 b g 4)))) * _ + 1 * ((_ * (-(joinV x1 b g 2) * b 4 + -1 * (-(b 2) * joinV x1 b g 4)) + 1 * (_ * (joinV x1 b g 1 * b 4 + -1 * (b 1 * joinV x1 b g 4)))) * _) + 1 * (-(c 2) * (_ * joinV x1 b g 4)) = _
      exact lc2 (k := -(matV (six c) (six b) f 2 * joinV x1 b g 4)) (k1 := -(matV (six c) (six b) f 3 * joinV x1 b g 4)) P0 P1 (by grind)
    show _ = _ * -(joinV x2 c (backV x3 (noiseV g q0 q1 q2) f) 2)
    rw [h1]
    refine canc hU ?_
    have h2 := c0.2
    rw [e0] at h2 ⊢
    rw [b4] at h2 ⊢
    exact lc1 (k := 1) h2 (by grind)
  · have h1 : smW (six c) (six b) (six (joinV x1 b g)) (matV (six c) (six b) f) 4 = smS c b f 1 (-(c 2)) (c 1) (c 1) (joinV x1 b g 3 * matV (six c) (six b) f 2 - joinV x1 b g 2 * matV (six c) (six b) f 3) (joinV x1 b g 1 * matV (six c) (six b) f 3 - joinV x1 b g 2 * matV (six c) (six b) f 2) (b 4 * b 0 * joinV x1 b g 4) := by
      simp only [smW, smS]; rw [G4]
      show (_ * (joinV x1 b g 3 * b 4 + -1 * (b 3 * joinV x1 b g 4)) + 1 * (_ * (-(joinV x1 b g 2) * b 4 + -1 * (-(b 2) * joinV x1 b g 4)))) * _ + 1 * ((_ * (-(joinV x1 b g 2) * b 4 + -1 * (-(b 2) * joinV x1 b g 4)) + 1 * (_ * (joinV x1 b g 1 * b 4 + -1 * (b 1 * joinV x1 b g 4)))) * _) + 1 * (c 1 * (_ * joinV x1 b g 4)) = _
      exact lc2 (k := -(matV (six c) (six b) f 2 * joinV x1 b g 4)) (k1 := -(matV (six c) (six b) f 3 * joinV x1 b g 4)) P2 P3 (by grind)
    show _ = _ * joinV x2 c (backV x3 (noiseV g q0 q1 q2) f) 1
    rw [h1]
    refine canc hU ?_
    have h2 := c1.2
    rw [e0] at h2 ⊢
    rw [b4] at h2 ⊢
    exact lc1 (k := 1) h2 (by grind)
  · rw [w5]; rfl
