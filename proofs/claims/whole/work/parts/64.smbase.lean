theorem join_eq {u v : Nat → Int} (x : Nat → Int) (hu : Eq5 u) (hv : Eq5 v) (pu : 0 < u 0) (pv : 0 < v 0) :
    joinV x u v 1 * joinV x u v 3 - joinV x u v 2 * joinV x u v 2 = joinV x u v 4 * (u 0 * v 0) ∧
    (u 0 * v 0 * joinV x u v 7 = joinV x u v 3 * (u 5 * v 0 + v 5 * u 0) - joinV x u v 2 * (u 6 * v 0 + v 6 * u 0) ∧ u 0 * v 0 * joinV x u v 8 = joinV x u v 1 * (u 6 * v 0 + v 6 * u 0) - joinV x u v 2 * (u 5 * v 0 + v 5 * u 0)) ∧
    (joinV x u v 1 * joinV x u v 7 + joinV x u v 2 * joinV x u v 8 = joinV x u v 4 * (u 5 * v 0 + v 5 * u 0) ∧ joinV x u v 2 * joinV x u v 7 + joinV x u v 3 * joinV x u v 8 = joinV x u v 4 * (u 6 * v 0 + v 6 * u 0)) := by
  have hU : 0 < u 0 * v 0 := Int.mul_pos pu pv
  have h1 : joinV x u v 1 * joinV x u v 3 - joinV x u v 2 * joinV x u v 2 = joinV x u v 4 * (u 0 * v 0) := by
    have a1 := hu.1
    have a2 := hv.1
    simp only [joinV]
    exact lc2 (k := v 0 * v 0) (k1 := u 0 * u 0) a1 a2 (by grind)
  have h2 : u 0 * v 0 * joinV x u v 7 = joinV x u v 3 * (u 5 * v 0 + v 5 * u 0) - joinV x u v 2 * (u 6 * v 0 + v 6 * u 0) := by
    have a1 := hu.2.2.1
    have a2 := hv.2.2.1
    simp only [joinV]
    exact lc2 (k := v 0 * v 0) (k1 := u 0 * u 0) a1 a2 (by grind)
  have h3 : u 0 * v 0 * joinV x u v 8 = joinV x u v 1 * (u 6 * v 0 + v 6 * u 0) - joinV x u v 2 * (u 5 * v 0 + v 5 * u 0) := by
    have a1 := hu.2.2.2
    have a2 := hv.2.2.2
    simp only [joinV]
    exact lc2 (k := v 0 * v 0) (k1 := u 0 * u 0) a1 a2 (by grind)
  refine ⟨h1, ⟨h2, h3⟩, ?_, ?_⟩
  · refine canc hU ?_
    exact lc3 (k := u 5 * v 0 + v 5 * u 0) (k1 := joinV x u v 1) (k2 := joinV x u v 2) h1 h2 h3 (by grind)
  · refine canc hU ?_
    exact lc3 (k := u 6 * v 0 + v 6 * u 0) (k1 := joinV x u v 2) (k2 := joinV x u v 3) h1 h2 h3 (by grind)
theorem sm_E {b1 b2 ug g1 g2 ub x0 x1 r0 d xi p0 p1 n0 : Int} (hJ : (b1 * ug + g1 * ub) * x0 + (b2 * ug + g2 * ub) * x1 = r0) (hr : d * r0 = ug * xi * (b1 * p0 + b2 * p1) + d * ub * n0 * xi) : ug * (b1 * (x0 * d - p0 * xi) + b2 * (x1 * d - p1 * xi)) = d * ub * (n0 * xi - (g1 * x0 + g2 * x1)) :=
  lc2 (k := d) (k1 := 1) hJ hr (by grind)
/-- the smoothed vector of the reference, before its common factor -/
def smS (c b f : Nat → Int) (i : Nat) (a0 a1 aa x0 x1 xi : Int) : Int := matV (six c) (six b) f (2 * i) * (x0 * b 4 - (f 0 * a0 + f 1 * a1) * xi) + matV (six c) (six b) f (2 * i + 1) * (x1 * b 4 - (f 2 * a0 + f 3 * a1) * xi) + aa * (b 4 * b 0) * xi
theorem sm_vec {c g f x x2 x3 : Nat → Int} {q0 q1 q2 a0 a1 k0 k1 x0 x1 xi n0 n1 w0 w1 : Int} (hc : Eq5 c) (hg : GoodH g) (b : Nat → Int) (hB : b = noiseV (onV x c f) q0 q1 q2)
    (ha0 : c 1 * a0 + c 2 * a1 = c 4 * k0) (ha1 : c 2 * a0 + c 3 * a1 = c 4 * k1)
    (N : noiseV g q0 q1 q2 0 * n0 - (noiseV g q0 q1 q2 1 * (q0 * n0 + q1 * n1) + noiseV g q0 q1 q2 2 * (q1 * n0 + q2 * n1)) = g 0 * w0 ∧ noiseV g q0 q1 q2 0 * n1 - (noiseV g q0 q1 q2 2 * (q0 * n0 + q1 * n1) + noiseV g q0 q1 q2 3 * (q1 * n0 + q2 * n1)) = g 0 * w1)
    (E0 : g 0 * (b 1 * (x0 * b 4 - (f 0 * a0 + f 1 * a1) * xi) + b 2 * (x1 * b 4 - (f 2 * a0 + f 3 * a1) * xi)) = b 4 * b 0 * (n0 * xi - (g 1 * x0 + g 2 * x1)))
    (E1 : g 0 * (b 2 * (x0 * b 4 - (f 0 * a0 + f 1 * a1) * xi) + b 3 * (x1 * b 4 - (f 2 * a0 + f 3 * a1) * xi)) = b 4 * b 0 * (n1 * xi - (g 2 * x0 + g 3 * x1))) :
    joinV x2 c (backV x3 (noiseV g q0 q1 q2) f) 1 * smS c b f 0 a0 a1 a0 x0 x1 xi + joinV x2 c (backV x3 (noiseV g q0 q1 q2) f) 2 * smS c b f 1 a0 a1 a1 x0 x1 xi = c 4 * (c 4 * b 0) * xi * (noiseV g q0 q1 q2 0 * k0 + c 0 * (f 0 * w0 + f 2 * w1)) ∧
    joinV x2 c (backV x3 (noiseV g q0 q1 q2) f) 2 * smS c b f 0 a0 a1 a0 x0 x1 xi + joinV x2 c (backV x3 (noiseV g q0 q1 q2) f) 3 * smS c b f 1 a0 a1 a1 x0 x1 xi = c 4 * (c 4 * b 0) * xi * (noiseV g q0 q1 q2 0 * k1 + c 0 * (f 1 * w0 + f 3 * w1)) := by
  have hb : Eq5 b := by rw [hB]; exact eq5_noise (eq5_on hc x f) _ _ _
  have b4 : b 4 = c 4 := by rw [hB]; simp only [noiseV, onV, scaleV]; grind
  have hb1 := hb.1
  rw [b4] at hb1 E0 E1
  have hP0 : b 3 = c 3 * (f 0 * f 0) - 2 * c 2 * f 0 * f 1 + c 1 * (f 1 * f 1) + c 4 * q0 := by rw [hB]; simp only [noiseV, onV, scaleV, turnV]; grind
  have hP1 : -b 2 = c 3 * f 0 * f 2 - c 2 * (f 0 * f 3 + f 1 * f 2) + c 1 * f 1 * f 3 + c 4 * q1 := by rw [hB]; simp only [noiseV, onV, scaleV, turnV]; grind
  have hP2 : b 1 = c 3 * (f 2 * f 2) - 2 * c 2 * f 2 * f 3 + c 1 * (f 3 * f 3) + c 4 * q2 := by rw [hB]; simp only [noiseV, onV, scaleV, turnV]; grind
  obtain ⟨y0, hy0⟩ : ∃ y0, y0 = b 1 * (x0 * c 4 - (f 0 * a0 + f 1 * a1) * xi) + b 2 * (x1 * c 4 - (f 2 * a0 + f 3 * a1) * xi) := ⟨_, rfl⟩
  obtain ⟨y1, hy1⟩ : ∃ y1, y1 = b 2 * (x0 * c 4 - (f 0 * a0 + f 1 * a1) * xi) + b 3 * (x1 * c 4 - (f 2 * a0 + f 3 * a1) * xi) := ⟨_, rfl⟩
  have hS0 : smS c b f 0 a0 a1 a0 x0 x1 xi = c 3 * (f 0 * y0 + f 2 * y1) - c 2 * (f 1 * y0 + f 3 * y1) + a0 * (c 4 * b 0) * xi := by
    rw [hy0, hy1]; simp only [smS, matV, six, b4]; grind
  have hS1 : smS c b f 1 a0 a1 a1 x0 x1 xi = -c 2 * (f 0 * y0 + f 2 * y1) + c 1 * (f 1 * y0 + f 3 * y1) + a1 * (c 4 * b 0) * xi := by
    rw [hy0, hy1]; simp only [smS, matV, six, b4]; grind
  obtain ⟨F0, F1⟩ := sm_F hb1 hP0 hP1 hP2 hy0 hy1 hS0 hS1
  rw [← hy0] at E0
  rw [← hy1] at E1
  have hM := sm_M (q0 := q0) (q1 := q1) (q2 := q2) hg.2.1 rfl rfl rfl rfl
  obtain ⟨B0, B1⟩ := sm_B (ue := noiseV g q0 q1 q2 0) (e0 := noiseV g q0 q1 q2 1) (e1 := noiseV g q0 q1 q2 2) (e2 := noiseV g q0 q1 q2 3) hg.1.1 hM N E0 E1
  have hL := sm_L (u := c 0) hc.1 ha0 ha1 hS0 hS1 F0 F1 B0 B1
  have e0 : backV x3 (noiseV g q0 q1 q2) f 0 = noiseV g q0 q1 q2 0 := by simp only [backV, scaleV]; grind
  have j1 : joinV x2 c (backV x3 (noiseV g q0 q1 q2) f) 1 = c 1 * noiseV g q0 q1 q2 0 + (noiseV g q0 q1 q2 1 * (f 0 * f 0) + noiseV g q0 q1 q2 2 * (2 * f 0 * f 2) + noiseV g q0 q1 q2 3 * (f 2 * f 2)) * c 0 := by
    simp only [joinV]; rw [e0]; rfl
  have j2 : joinV x2 c (backV x3 (noiseV g q0 q1 q2) f) 2 = c 2 * noiseV g q0 q1 q2 0 + (noiseV g q0 q1 q2 1 * (f 0 * f 1) + noiseV g q0 q1 q2 2 * (f 0 * f 3 + f 1 * f 2) + noiseV g q0 q1 q2 3 * (f 2 * f 3)) * c 0 := by
    simp only [joinV]; rw [e0]; rfl
  have j3 : joinV x2 c (backV x3 (noiseV g q0 q1 q2) f) 3 = c 3 * noiseV g q0 q1 q2 0 + (noiseV g q0 q1 q2 1 * (f 1 * f 1) + noiseV g q0 q1 q2 2 * (2 * f 1 * f 3) + noiseV g q0 q1 q2 3 * (f 3 * f 3)) * c 0 := by
    simp only [joinV]; rw [e0]; rfl
  rw [j1, j2, j3]
  exact hL
