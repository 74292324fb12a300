/-! one step of smoothing: what the reference computes is what the class joins -/
theorem lc4 {P Q A B k A1 B1 k1 A2 B2 k2 A3 B3 k3 : Int} (h : A = B) (h1 : A1 = B1) (h2 : A2 = B2) (h3 : A3 = B3) (e : P - Q = k * (A - B) + k1 * (A1 - B1) + k2 * (A2 - B2) + k3 * (A3 - B3)) : P = Q := by
  rw [h, h1, h2, h3, Int.sub_self, Int.sub_self, Int.sub_self, Int.sub_self, Int.mul_zero, Int.mul_zero, Int.mul_zero, Int.mul_zero] at e; omega
theorem lc5 {P Q A B k A1 B1 k1 A2 B2 k2 A3 B3 k3 A4 B4 k4 : Int} (h : A = B) (h1 : A1 = B1) (h2 : A2 = B2) (h3 : A3 = B3) (h4 : A4 = B4) (e : P - Q = k * (A - B) + k1 * (A1 - B1) + k2 * (A2 - B2) + k3 * (A3 - B3) + k4 * (A4 - B4)) : P = Q := by
  rw [h, h1, h2, h3, h4, Int.sub_self, Int.sub_self, Int.sub_self, Int.sub_self, Int.sub_self, Int.mul_zero, Int.mul_zero, Int.mul_zero, Int.mul_zero, Int.mul_zero] at e; omega
section Sm
variable {u l0 l1 l2 d f0 f1 f2 f3 q0 q1 q2 ub b0 b1 b2 : Int}
variable {ug g0 g1 g2 dg ue e0 e1 e2 : Int}
variable {a0 a1 x0 x1 xi y0 y1 n0 n1 w0 w1 S0 S1 : Int}
/-- F times the smoothed vector -/
theorem sm_F (hb : b0 * b2 - b1 * b1 = d * ub) (hP0 : b2 = l2 * (f0 * f0) - 2 * l1 * f0 * f1 + l0 * (f1 * f1) + d * q0) (hP1 : -b1 = l2 * f0 * f2 - l1 * (f0 * f3 + f1 * f2) + l0 * f1 * f3 + d * q1) (hP2 : b0 = l2 * (f2 * f2) - 2 * l1 * f2 * f3 + l0 * (f3 * f3) + d * q2)
    (hy0 : y0 = b0 * (x0 * d - (f0 * a0 + f1 * a1) * xi) + b1 * (x1 * d - (f2 * a0 + f3 * a1) * xi)) (hy1 : y1 = b1 * (x0 * d - (f0 * a0 + f1 * a1) * xi) + b2 * (x1 * d - (f2 * a0 + f3 * a1) * xi))
    (hS0 : S0 = l2 * (f0 * y0 + f2 * y1) - l1 * (f1 * y0 + f3 * y1) + a0 * (d * ub) * xi) (hS1 : S1 = -l1 * (f0 * y0 + f2 * y1) + l0 * (f1 * y0 + f3 * y1) + a1 * (d * ub) * xi) :
    f0 * S0 + f1 * S1 = d * (d * ub * x0 - (q0 * y0 + q1 * y1)) ∧ f2 * S0 + f3 * S1 = d * (d * ub * x1 - (q1 * y0 + q2 * y1)) := by
  have A0 : b2 * y0 - b1 * y1 = d * ub * (x0 * d - (f0 * a0 + f1 * a1) * xi) := by
    rw [hy0, hy1]
    exact lc1 (k := x0 * d - (f0 * a0 + f1 * a1) * xi) hb (by grind)
  have A1 : -b1 * y0 + b0 * y1 = d * ub * (x1 * d - (f2 * a0 + f3 * a1) * xi) := by
    rw [hy0, hy1]
    exact lc1 (k := x1 * d - (f2 * a0 + f3 * a1) * xi) hb (by grind)
  clear hy0 hy1 hb
  constructor
  · exact lc5 (k := 1) (k1 := -y0) (k2 := -y1) (k3 := f0) (k4 := f1) A0 hP0 hP1 hS0 hS1 (by grind)
  · exact lc5 (k := 1) (k1 := -y0) (k2 := -y1) (k3 := f2) (k4 := f3) A1 hP1 hP2 hS0 hS1 (by grind)
/-- what noise does to a form -/
theorem sm_M (ga : g0 * g2 - g1 * g1 = dg * ug) (hue : ue = ug + g0 * q0 + g2 * q2 + g1 * (2 * q1) + dg * (q0 * q2 - q1 * q1)) (he0 : e0 = g0 + dg * q2) (he1 : e1 = g1 + dg * -q1) (he2 : e2 = g2 + dg * q0) :
    (ue * g0 - (e0 * (q0 * g0 + q1 * g1) + e1 * (q1 * g0 + q2 * g1)) = ug * e0 ∧ ue * g1 - (e0 * (q0 * g1 + q1 * g2) + e1 * (q1 * g1 + q2 * g2)) = ug * e1) ∧
    (ue * g1 - (e1 * (q0 * g0 + q1 * g1) + e2 * (q1 * g0 + q2 * g1)) = ug * e1 ∧ ue * g2 - (e1 * (q0 * g1 + q1 * g2) + e2 * (q1 * g1 + q2 * g2)) = ug * e2) := by
  subst hue he0 he1 he2
  refine ⟨⟨?_, ?_⟩, ?_, ?_⟩ <;> grind
theorem sm_N {v0 v1 c0 c1 : Int} (ga : g0 * g2 - g1 * g1 = dg * ug) (gb0 : g0 * c0 + g1 * c1 = dg * v0) (gb1 : g1 * c0 + g2 * c1 = dg * v1) (gc0 : ug * c0 = g2 * v0 - g1 * v1) (gc1 : ug * c1 = g0 * v1 - g1 * v0) (hue : ue = ug + g0 * q0 + g2 * q2 + g1 * (2 * q1) + dg * (q0 * q2 - q1 * q1)) (he0 : e0 = g0 + dg * q2) (he1 : e1 = g1 + dg * -q1) (he2 : e2 = g2 + dg * q0) :
    ue * v0 - (e0 * (q0 * v0 + q1 * v1) + e1 * (q1 * v0 + q2 * v1)) = ug * (v0 + c0 * q2 + c1 * -q1) ∧ ue * v1 - (e1 * (q0 * v0 + q1 * v1) + e2 * (q1 * v0 + q2 * v1)) = ug * (v1 + c1 * q0 + c0 * -q1) := by
  subst hue he0 he1 he2
  refine ⟨?_, ?_⟩ <;> grind
/-- the step's heart -/
theorem sm_B (hug : 0 < ug) (M : (ue * g0 - (e0 * (q0 * g0 + q1 * g1) + e1 * (q1 * g0 + q2 * g1)) = ug * e0 ∧ ue * g1 - (e0 * (q0 * g1 + q1 * g2) + e1 * (q1 * g1 + q2 * g2)) = ug * e1) ∧
    (ue * g1 - (e1 * (q0 * g0 + q1 * g1) + e2 * (q1 * g0 + q2 * g1)) = ug * e1 ∧ ue * g2 - (e1 * (q0 * g1 + q1 * g2) + e2 * (q1 * g1 + q2 * g2)) = ug * e2))
    (N : ue * n0 - (e0 * (q0 * n0 + q1 * n1) + e1 * (q1 * n0 + q2 * n1)) = ug * w0 ∧ ue * n1 - (e1 * (q0 * n0 + q1 * n1) + e2 * (q1 * n0 + q2 * n1)) = ug * w1)
    (E0 : ug * y0 = d * ub * (n0 * xi - (g0 * x0 + g1 * x1))) (E1 : ug * y1 = d * ub * (n1 * xi - (g1 * x0 + g2 * x1))) :
    ue * y0 + (e0 * (d * ub * x0 - (q0 * y0 + q1 * y1)) + e1 * (d * ub * x1 - (q1 * y0 + q2 * y1))) = d * ub * xi * w0 ∧ ue * y1 + (e1 * (d * ub * x0 - (q0 * y0 + q1 * y1)) + e2 * (d * ub * x1 - (q1 * y0 + q2 * y1))) = d * ub * xi * w1 := by
  obtain ⟨⟨M00, M01⟩, M10, M11⟩ := M
  obtain ⟨N0, N1⟩ := N
  constructor
  · refine canc hug ?_
    exact lc5 (k := ue - e0 * q0 - e1 * q1) (k1 := -(e0 * q1 + e1 * q2)) (k2 := d * ub * xi) (k3 := -(d * ub * x0)) (k4 := -(d * ub * x1)) E0 E1 N0 M00 M01 (by grind)
  · refine canc hug ?_
    exact lc5 (k := -(e1 * q0 + e2 * q1)) (k1 := ue - e1 * q1 - e2 * q2) (k2 := d * ub * xi) (k3 := -(d * ub * x0)) (k4 := -(d * ub * x1)) E0 E1 N1 M10 M11 (by grind)
/-- the joined form at the smoothed vector -/
theorem sm_L {k0 k1 : Int} (hc : l0 * l2 - l1 * l1 = d * u) (ha0 : l0 * a0 + l1 * a1 = d * k0) (ha1 : l1 * a0 + l2 * a1 = d * k1)
    (hS0 : S0 = l2 * (f0 * y0 + f2 * y1) - l1 * (f1 * y0 + f3 * y1) + a0 * (d * ub) * xi) (hS1 : S1 = -l1 * (f0 * y0 + f2 * y1) + l0 * (f1 * y0 + f3 * y1) + a1 * (d * ub) * xi)
    (F0 : f0 * S0 + f1 * S1 = d * (d * ub * x0 - (q0 * y0 + q1 * y1))) (F1 : f2 * S0 + f3 * S1 = d * (d * ub * x1 - (q1 * y0 + q2 * y1)))
    (B0 : ue * y0 + (e0 * (d * ub * x0 - (q0 * y0 + q1 * y1)) + e1 * (d * ub * x1 - (q1 * y0 + q2 * y1))) = d * ub * xi * w0) (B1 : ue * y1 + (e1 * (d * ub * x0 - (q0 * y0 + q1 * y1)) + e2 * (d * ub * x1 - (q1 * y0 + q2 * y1))) = d * ub * xi * w1) :
    (l0 * ue + (e0 * (f0 * f0) + e1 * (2 * f0 * f2) + e2 * (f2 * f2)) * u) * S0 + (l1 * ue + (e0 * (f0 * f1) + e1 * (f0 * f3 + f1 * f2) + e2 * (f2 * f3)) * u) * S1 = d * (d * ub) * xi * (ue * k0 + u * (f0 * w0 + f2 * w1)) ∧
    (l1 * ue + (e0 * (f0 * f1) + e1 * (f0 * f3 + f1 * f2) + e2 * (f2 * f3)) * u) * S0 + (l2 * ue + (e0 * (f1 * f1) + e1 * (2 * f1 * f3) + e2 * (f3 * f3)) * u) * S1 = d * (d * ub) * xi * (ue * k1 + u * (f1 * w0 + f3 * w1)) := by
  have L0 : l0 * S0 + l1 * S1 = d * u * (f0 * y0 + f2 * y1) + d * k0 * (d * ub) * xi := by
    rw [hS0, hS1]
    exact lc2 (k := f0 * y0 + f2 * y1) (k1 := d * ub * xi) hc ha0 (by grind)
  have L1 : l1 * S0 + l2 * S1 = d * u * (f1 * y0 + f3 * y1) + d * k1 * (d * ub) * xi := by
    rw [hS0, hS1]
    exact lc2 (k := f1 * y0 + f3 * y1) (k1 := d * ub * xi) hc ha1 (by grind)
  clear hS0 hS1
  constructor
  · exact lc5 (k := ue) (k1 := u * (f0 * e0 + f2 * e1)) (k2 := u * (f0 * e1 + f2 * e2)) (k3 := u * d * f0) (k4 := u * d * f2) L0 F0 F1 B0 B1 (by grind)
  · exact lc5 (k := ue) (k1 := u * (f1 * e0 + f3 * e1)) (k2 := u * (f1 * e1 + f3 * e2)) (k3 := u * d * f1) (k4 := u * d * f3) L1 F0 F1 B0 B1 (by grind)
end Sm
/-- a linear system of two, solved -/
theorem sm_solve {A0 A1 A2 D U s0 s1 r0 r1 : Int} (hA : A0 * A2 - A1 * A1 = D * U) (h0 : A0 * s0 + A1 * s1 = r0) (h1 : A1 * s0 + A2 * s1 = r1) : D * U * s0 = A2 * r0 - A1 * r1 ∧ D * U * s1 = A0 * r1 - A1 * r0 := by
  constructor
  · exact lc3 (k := -s0) (k1 := A2) (k2 := -A1) hA h0 h1 (by grind)
  · exact lc3 (k := -s1) (k1 := A0) (k2 := -A1) hA h1 h0 (by grind)
