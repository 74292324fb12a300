/-! how large the numbers of a belief get -/
def Ab (x a : Int) : Prop := -a ≤ x ∧ x ≤ a
def Bd (c : Nat → Int) (K : Int) : Prop := (Ab (c 0) (2 * K) ∧ Ab (c 1) (2 * K) ∧ Ab (c 2) (2 * K) ∧ Ab (c 3) (2 * K)) ∧ Ab (c 4) (5 * K) ∧ (Ab (c 5) (128 * K) ∧ Ab (c 6) (128 * K)) ∧ (Ab (c 7) (384 * K) ∧ Ab (c 8) (384 * K))
theorem Ab.mul {x y a b : Int} (hx : Ab x a) (hy : Ab y b) : Ab (x * y) (a * b) := mul_rng hx hy
theorem Bd.congr {c c1 : Nat → Int} {K : Int} (h : Bd c K) (e : ∀ i, i < 9 → c1 i = c i) : Bd c1 K := by
  unfold Bd at *
  rw [e 0 (by decide), e 1 (by decide), e 2 (by decide), e 3 (by decide), e 4 (by decide), e 5 (by decide), e 6 (by decide), e 7 (by decide), e 8 (by decide)]
  exact h
theorem Eq5.congr {c c1 : Nat → Int} (h : Eq5 c) (e : ∀ i, i < 9 → c1 i = c i) : Eq5 c1 := by
  unfold Eq5 at *
  rw [e 0 (by decide), e 1 (by decide), e 2 (by decide), e 3 (by decide), e 4 (by decide), e 5 (by decide), e 6 (by decide), e 7 (by decide), e 8 (by decide)]
  exact h
theorem Good.congr {c c1 : Nat → Int} (h : Good c) (e : ∀ i, i < 9 → c1 i = c i) : Good c1 := ⟨by rw [e 0 (by decide), e 1 (by decide), e 4 (by decide)]; exact h.1, h.2.congr e⟩
theorem GoodH.congr {c c1 : Nat → Int} (h : GoodH c) (e : ∀ i, i < 9 → c1 i = c i) : GoodH c1 := ⟨by rw [e 0 (by decide), e 1 (by decide), e 3 (by decide), e 4 (by decide)]; exact h.1, h.2.congr e⟩
theorem six_congr {c c1 : Nat → Int} (e : ∀ i, i < 9 → c1 i = c i) : ∀ i, i < 6 → six c1 i = six c i := fun i hi => by
  rcases i6 hi with h | h | h | h | h | h <;> subst h <;> simp only [six] <;> first | exact e _ (by decide) | rw [e 2 (by decide)]
theorem bd_est {m0 m1 a b c : Int} (h : okI m0 m1 a b c) : Bd (estV m0 m1 a b c) 16384 := by
  obtain ⟨h0, h1, h2, h3, h4⟩ := h
  have t1 := mul_rng h2 h4
  have t2 := mul_rng h3 h3
  have t3 := mul_rng h4 h0
  have t4 := mul_rng h3 h1
  have t5 := mul_rng h2 h1
  have t6 := mul_rng h3 h0
  simp only [Bd, Ab, estV]
  omega
theorem bd_blank : Bd blankV 1 := by simp [Bd, Ab, blankV]
theorem bd_learn {c : Nat → Int} {K h0 h1 r x : Int} (h : Bd c K) (ho : okO h0 h1 r x) : Bd (learnV c h0 h1 r x) (256 * K) := by
  obtain ⟨o0, o1, o2, o3⟩ := ho
  obtain ⟨⟨c0, c1, c2, c3⟩, c4, ⟨c5, c6⟩, c7, c8⟩ := h
  have hr : Ab r 99 := ⟨by omega, by omega⟩
  have p0 : Ab (h0 * h0) 81 := by have := mul_rng o0 o0; exact ⟨by omega, by omega⟩
  have p1 : Ab (h0 * h1) 81 := by have := mul_rng o0 o1; exact ⟨by omega, by omega⟩
  have p2 : Ab (h1 * h1) 81 := by have := mul_rng o1 o1; exact ⟨by omega, by omega⟩
  have p3 : Ab (-2 * h0 * h1) 162 := by have := mul_rng (x := -2 * h0) (a := 18) ⟨by omega, by omega⟩ o1; exact ⟨by omega, by omega⟩
  have p4 : Ab (x * h0) 8991 := by have := mul_rng o3 o0; exact ⟨by omega, by omega⟩
  have p5 : Ab (x * h1) 8991 := by have := mul_rng o3 o1; exact ⟨by omega, by omega⟩
  have p6 : Ab (-x * h0) 8991 := by have := mul_rng (x := -x) (a := 999) ⟨by omega, by omega⟩ o0; exact ⟨by omega, by omega⟩
  have p7 : Ab (-x * h1) 8991 := by have := mul_rng (x := -x) (a := 999) ⟨by omega, by omega⟩ o1; exact ⟨by omega, by omega⟩
  have p8 : Ab (-h0 * h1) 81 := by have := mul_rng (x := -h0) (a := 9) ⟨by omega, by omega⟩ o1; exact ⟨by omega, by omega⟩
  have r0 := c0.mul hr
  have r1 := c1.mul hr
  have r2 := c2.mul hr
  have r3 := c3.mul hr
  have r4 := c4.mul hr
  have r5 := c5.mul hr
  have r6 := c6.mul hr
  have r7 := c7.mul hr
  have r8 := c8.mul hr
  have s0 := c0.mul p0
  have s1 := c0.mul p1
  have s2 := c0.mul p2
  have s3 := c1.mul p2
  have s4 := c3.mul p0
  have s5 := c2.mul p3
  have s6 := c0.mul p4
  have s7 := c0.mul p5
  have s8 := c3.mul p4
  have s9 := c2.mul p7
  have t0 := c5.mul p2
  have t1 := c6.mul p8
  have t2 := c1.mul p5
  have t3 := c2.mul p6
  have t4 := c6.mul p0
  have t5 := c5.mul p8
  clear p0 p1 p2 p3 p4 p5 p6 p7 p8 hr o0 o1 o2 o3
  simp only [Bd, learnV]
  unfold Ab at *
  refine ⟨⟨?_, ?_, ?_, ?_⟩, ?_, ⟨?_, ?_⟩, ?_, ?_⟩ <;> omega
theorem bd_noise {c : Nat → Int} {K u1 l1 d1 v1 c1 q0 q1 q2 : Int} (h : (Ab (c 0) u1 ∧ Ab (c 1) l1 ∧ Ab (c 2) l1 ∧ Ab (c 3) l1) ∧ Ab (c 4) d1 ∧ (Ab (c 5) v1 ∧ Ab (c 6) v1) ∧ (Ab (c 7) c1 ∧ Ab (c 8) c1)) (i0 : Ab q0 99) (i1 : Ab q1 99) (i2 : Ab q2 99) (_ : K = K) :
    (Ab (noiseV c q0 q1 q2 0) (u1 + l1 * 396 + d1 * 19602) ∧ Ab (noiseV c q0 q1 q2 1) (l1 + d1 * 99) ∧ Ab (noiseV c q0 q1 q2 2) (l1 + d1 * 99) ∧ Ab (noiseV c q0 q1 q2 3) (l1 + d1 * 99)) ∧ Ab (noiseV c q0 q1 q2 4) d1 ∧ (Ab (noiseV c q0 q1 q2 5) (v1 + c1 * 198) ∧ Ab (noiseV c q0 q1 q2 6) (v1 + c1 * 198)) ∧ (Ab (noiseV c q0 q1 q2 7) c1 ∧ Ab (noiseV c q0 q1 q2 8) c1) := by
  obtain ⟨⟨c0, c1', c2, c3⟩, c4, ⟨c5, c6⟩, c7, c8⟩ := h
  have p0 : Ab (2 * q1) 198 := by have := i1.1; have := i1.2; exact ⟨by omega, by omega⟩
  have p1 : Ab (q0 * q2 - q1 * q1) 19602 := by have := i0.mul i2; have := i1.mul i1; unfold Ab at *; omega
  have p2 : Ab (-q1) 99 := by have := i1.1; have := i1.2; exact ⟨by omega, by omega⟩
  have s0 := c1'.mul i0
  have s1 := c3.mul i2
  have s2 := c2.mul p0
  have s3 := c4.mul p1
  have s4 := c4.mul i2
  have s5 := c4.mul p2
  have s6 := c4.mul i0
  have s7 := c7.mul i2
  have s8 := c8.mul p2
  have s9 := c8.mul i0
  have t0 := c7.mul p2
  clear p0 p1 p2 i0 i1 i2
  simp only [noiseV]
  unfold Ab at *
  refine ⟨⟨?_, ?_, ?_, ?_⟩, ?_, ⟨?_, ?_⟩, ?_, ?_⟩ <;> omega
def okP (p : Nat → Int) : Prop := (∀ j, j < 4 → -3 ≤ p j ∧ p j ≤ 3) ∧ (∀ j, j < 3 → -99 ≤ p (4 + j) ∧ p (4 + j) ≤ 99) ∧ Pd (p 4) (p 5) (p 6)
theorem bd_turn {x u : Nat → Int} {l1 v1 c1 g0 g1 g2 g3 : Int} (h1 : Ab (u 1) l1) (h2 : Ab (u 2) l1) (h3 : Ab (u 3) l1) (h5 : Ab (u 5) v1) (h6 : Ab (u 6) v1) (h7 : Ab (u 7) c1) (h8 : Ab (u 8) c1) (i0 : Ab g0 3) (i1 : Ab g1 3) (i2 : Ab g2 3) (i3 : Ab g3 3) :
    (Ab (turnV x u g0 g1 g2 g3 1) (36 * l1) ∧ Ab (turnV x u g0 g1 g2 g3 2) (36 * l1) ∧ Ab (turnV x u g0 g1 g2 g3 3) (36 * l1)) ∧ (Ab (turnV x u g0 g1 g2 g3 5) (6 * v1) ∧ Ab (turnV x u g0 g1 g2 g3 6) (6 * v1)) ∧ (Ab (turnV x u g0 g1 g2 g3 7) (6 * c1) ∧ Ab (turnV x u g0 g1 g2 g3 8) (6 * c1)) := by
  have n1 : Ab (-g1) 3 := by have := i1.1; have := i1.2; exact ⟨by omega, by omega⟩
  have n2 : Ab (-g2) 3 := by have := i2.1; have := i2.2; exact ⟨by omega, by omega⟩
  have d0 : Ab (2 * g0) 6 := by have := i0.1; have := i0.2; exact ⟨by omega, by omega⟩
  have d1 : Ab (2 * g1) 6 := by have := i1.1; have := i1.2; exact ⟨by omega, by omega⟩
  have a0 := h1.mul (i0.mul i0)
  have a1 := h2.mul (d0.mul i2)
  have a2 := h3.mul (i2.mul i2)
  have a3 := h1.mul (i0.mul i1)
  have a4 : Ab (u 2 * (g0 * g3 + g1 * g2)) (l1 * 18) := h2.mul (by have q1 := i0.mul i3; have q2 := i1.mul i2; unfold Ab at *; omega)
  have a5 := h3.mul (i2.mul i3)
  have a6 := h1.mul (i1.mul i1)
  have a7 := h2.mul (d1.mul i3)
  have a8 := h3.mul (i3.mul i3)
  have b0 := h5.mul i0
  have b1 := h6.mul i2
  have b2 := h5.mul i1
  have b3 := h6.mul i3
  have b4 := h7.mul i3
  have b5 := h8.mul n1
  have b6 := h8.mul i0
  have b7 := h7.mul n2
  clear n1 n2 d0 d1 i0 i1 i2 i3
  simp only [turnV]
  unfold Ab at *
  refine ⟨⟨?_, ?_, ?_⟩, ⟨?_, ?_⟩, ?_, ?_⟩ <;> omega
theorem ab_neg {x a : Int} (h : Ab x a) : Ab (-x) a := by unfold Ab at *; omega
theorem bd_det {f : Nat → Int} (h : ∀ j, j < 4 → -3 ≤ f j ∧ f j ≤ 3) : Ab (f 0 * f 3 - f 1 * f 2) 18 := by
  have q1 := mul_rng (h 0 (by decide)) (h 3 (by decide))
  have q2 := mul_rng (h 1 (by decide)) (h 2 (by decide))
  unfold Ab; omega
theorem Ab.up {x a b : Int} (h : Ab x a) (g : a ≤ b) : Ab x b := by unfold Ab at *; omega
theorem ab_pos {x a : Int} (h : Ab x a) : 0 ≤ a := by unfold Ab at *; omega
theorem bd_adv {c x p : Nat → Int} {K : Int} (h : Bd c K) (hp : okP p) : Bd (noiseV (onV x c p) (p 4) (p 5) (p 6)) (65536 * K) := by
  have hK : 0 ≤ K := by have := ab_pos h.1.1; omega
  obtain ⟨⟨c0, c1, c2, c3⟩, c4, ⟨c5, c6⟩, c7, c8⟩ := h
  have hd := bd_det hp.1
  have t := bd_turn (x := x) c1 c2 c3 c5 c6 c7 c8 (hp.1 3 (by decide)) (ab_neg (hp.1 1 (by decide))) (ab_neg (hp.1 2 (by decide))) (hp.1 0 (by decide))
  have e : (Ab (onV x c p 0) (2 * K * 324) ∧ Ab (onV x c p 1) (36 * (2 * K)) ∧ Ab (onV x c p 2) (36 * (2 * K)) ∧ Ab (onV x c p 3) (36 * (2 * K))) ∧ Ab (onV x c p 4) (5 * K * 1) ∧ (Ab (onV x c p 5) (6 * (128 * K) * 18) ∧ Ab (onV x c p 6) (6 * (128 * K) * 18)) ∧ (Ab (onV x c p 7) (6 * (384 * K) * 1) ∧ Ab (onV x c p 8) (6 * (384 * K) * 1)) := by
    refine ⟨⟨c0.mul ((hd.mul hd).up (by decide)), t.1.1, t.1.2.1, t.1.2.2⟩, c4.mul (by unfold Ab; omega), ⟨t.2.1.1.mul hd, t.2.1.2.mul hd⟩, t.2.2.1.mul (by unfold Ab; omega), t.2.2.2.mul (by unfold Ab; omega)⟩
  have n := bd_noise (K := K) e (hp.2.1 0 (by decide)) (hp.2.1 1 (by decide)) (hp.2.1 2 (by decide)) rfl
  obtain ⟨⟨n0, n1, n2, n3⟩, n4, ⟨n5, n6⟩, n7, n8⟩ := n
  exact ⟨⟨n0.up (by omega), n1.up (by omega), n2.up (by omega), n3.up (by omega)⟩, n4.up (by omega), ⟨n5.up (by omega), n6.up (by omega)⟩, n7.up (by omega), n8.up (by omega)⟩
theorem bd_back {c x p : Nat → Int} {K : Int} (h : Bd c K) (hp : okP p) : Bd (backV x (noiseV c (p 4) (p 5) (p 6)) p) (65536 * K) := by
  have hK : 0 ≤ K := by have := ab_pos h.1.1; omega
  have hd := bd_det hp.1
  have n := bd_noise (K := K) h (hp.2.1 0 (by decide)) (hp.2.1 1 (by decide)) (hp.2.1 2 (by decide)) rfl
  obtain ⟨⟨n0, n1, n2, n3⟩, n4, ⟨n5, n6⟩, n7, n8⟩ := n
  have t := bd_turn (x := x) n1 n2 n3 n5 n6 n7 n8 (hp.1 0 (by decide)) (hp.1 1 (by decide)) (hp.1 2 (by decide)) (hp.1 3 (by decide))
  have h1 : Ab (1 : Int) 1 := by unfold Ab; omega
  refine ⟨⟨(n0.mul (h1.mul h1)).up (by omega), t.1.1.up (by omega), t.1.2.1.up (by omega), t.1.2.2.up (by omega)⟩, (n4.mul (hd.mul hd)).up (by omega), ⟨(t.2.1.1.mul h1).up (by omega), (t.2.1.2.mul h1).up (by omega)⟩, (t.2.2.1.mul hd).up (by omega), (t.2.2.2.mul hd).up (by omega)⟩
theorem bd_six {c : Nat → Int} {K : Int} (h : Bd c K) : ∀ i, i < 6 → Ab (six c i) (384 * K) := fun i hi => by
  have hK : 0 ≤ K := by have := ab_pos h.1.1; omega
  obtain ⟨⟨c0, c1, c2, c3⟩, c4, ⟨c5, c6⟩, c7, c8⟩ := h
  rcases i6 hi with e | e | e | e | e | e <;> subst e <;> simp only [six]
  · exact c7
  · exact c8
  · exact c3.up (by omega)
  · exact (ab_neg c2).up (by omega)
  · exact c1.up (by omega)
  · exact c4.up (by omega)
theorem bd_join {u v x : Nat → Int} {K L : Int} (h : Bd u K) (g : Bd v L) : ∀ i, i < 6 → Ab (six (joinV x u v) i) (2560 * (K * L)) := fun i hi => by
  have hK : 0 ≤ K := by have := ab_pos h.1.1; omega
  have hL : 0 ≤ L := by have := ab_pos g.1.1; omega
  have hP := Int.mul_nonneg hK hL
  obtain ⟨⟨c0, c1, c2, c3⟩, c4, ⟨c5, c6⟩, c7, c8⟩ := h
  obtain ⟨⟨d0, d1, d2, d3⟩, d4, ⟨d5, d6⟩, d7, d8⟩ := g
  have m : ∀ {a b x y : Int} (A B : Int), Ab x a → Ab y b → a = A * K → b = B * L → Ab (x * y) (A * B * (K * L)) := fun A B hx hy ea eb => by
    have := hx.mul hy
    rw [ea, eb] at this
    have e : A * K * (B * L) = A * B * (K * L) := by grind
    rw [e] at this; exact this
  have m' : ∀ {a b x y : Int} (A B : Int), Ab x a → Ab y b → a = A * L → b = B * K → Ab (x * y) (A * B * (K * L)) := fun A B hx hy ea eb => by
    have := hx.mul hy
    rw [ea, eb] at this
    have e : A * L * (B * K) = A * B * (K * L) := by grind
    rw [e] at this; exact this
  rcases i6 hi with e | e | e | e | e | e <;> subst e <;> simp only [six, joinV]
  · have t1 := m 2 128 c2 d6 rfl rfl
    have t2 := m' 2 128 d2 c6 rfl rfl
    have t3 := m 2 128 c3 d5 rfl rfl
    have t4 := m' 2 128 d3 c5 rfl rfl
    have t5 := m 384 2 c7 d0 rfl rfl
    have t6 := m' 384 2 d7 c0 rfl rfl
    unfold Ab at *; omega
  · have t1 := m 2 128 c2 d5 rfl rfl
    have t2 := m' 2 128 d2 c5 rfl rfl
    have t3 := m 2 128 c1 d6 rfl rfl
    have t4 := m' 2 128 d1 c6 rfl rfl
    have t5 := m 384 2 c8 d0 rfl rfl
    have t6 := m' 384 2 d8 c0 rfl rfl
    unfold Ab at *; omega
  · have t1 := m 2 2 c3 d0 rfl rfl
    have t2 := m' 2 2 d3 c0 rfl rfl
    unfold Ab at *; omega
  · have t1 := m 2 2 c2 d0 rfl rfl
    have t2 := m' 2 2 d2 c0 rfl rfl
    unfold Ab at *; omega
  · have t1 := m 2 2 c1 d0 rfl rfl
    have t2 := m' 2 2 d1 c0 rfl rfl
    unfold Ab at *; omega
  · have t1 := m 2 2 c2 d2 rfl rfl
    have t3 := m 2 2 c1 d3 rfl rfl
    have t4 := m 2 2 c3 d1 rfl rfl
    have t5 := m 5 2 c4 d0 rfl rfl
    have t6 := m' 5 2 d4 c0 rfl rfl
    unfold Ab at *; omega
theorem bd_gY {c : Nat → Int} {K h0 h1 r x : Int} (h : Bd c K) (ho : okO h0 h1 r x) : Ab (gY (six c) h0 h1 x) (16384 * K) := by
  have hK : 0 ≤ K := by have := ab_pos h.1.1; omega
  obtain ⟨o0, o1, o2, o3⟩ := ho
  have t1 := h.2.1.mul o3
  have t2 := h.2.2.2.1.mul (ab_neg o0)
  have t3 := h.2.2.2.2.mul (ab_neg o1)
  show Ab (c 4 * x + c 7 * -h0 + c 8 * -h1) _
  unfold Ab at *; omega
