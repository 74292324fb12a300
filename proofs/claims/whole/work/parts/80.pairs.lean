/-- the class and the reference stand alike -/
def Ok (M E O P : Nat → Nat → Int) (z : Nat → Int) : Prop := ∃ N t q S, Rep M N ∧ Inv M N E O P z t q S
section Pr
variable {M : Nat → Nat → Int} {N : Nat → Int} {E O P : Nat → Nat → Int} {z : Nat → Int} {t q : Nat} {S : Nat → Nat}
theorem Inv.tq (h : Inv M N E O P z t q S) : (E 0 0 = (t : Int) ∧ M 0 0 = (t : Int) ∧ t ≤ 3) ∧ (E 0 1 = (q : Int) ∧ M 0 1 = (q : Int) ∧ q ≤ 6) := ⟨⟨h.1.2.1.1, h.2.2.1.1.1, h.1.1.1⟩, ⟨h.1.2.1.2, h.2.2.1.1.2, h.1.1.2.1⟩⟩
theorem Inv.qs (h : Inv M N E O P z t q S) (hR : Rep M N) : QS M N t M N := ⟨hR, ⟨rfl, rfl⟩, ⟨rfl, rfl, rfl⟩, fun _ _ _ => rfl, h.2.2.2⟩
theorem pr_initial (h : Inv M N E O P z t q S) (hR : Rep M N) {a0 a1 b0 b1 b2 : Int} {u : Int × (Nat → Nat → Int) × (Nat → Nat → Int) × (Nat → Nat → Int) × (Nat → Int)} {v : Int × (Nat → Nat → Int)}
    (hu : (¬ okI a0 a1 b0 b1 b2 ∧ u = (-3, E, O, P, z)) ∨ (okI a0 a1 b0 b1 b2 ∧ ¬ Pd b0 b1 b2 ∧ u = (-4, E, O, P, z)) ∨ (okI a0 a1 b0 b1 b2 ∧ Pd b0 b1 b2 ∧ u = (0, up2 (up2 E 0 0 0) 0 1 0, O, P, setB z 0 (estV a0 a1 b0 b1 b2))))
    (hv : (¬ okI a0 a1 b0 b1 b2 ∧ v = (-3, M)) ∨ (okI a0 a1 b0 b1 b2 ∧ ¬ Pd b0 b1 b2 ∧ v = (-4, M)) ∨ (okI a0 a1 b0 b1 b2 ∧ Pd b0 b1 b2 ∧ v.1 = 0 ∧ Begun M v.2 a0 a1 b0 b1 b2)) :
    u.1 = v.1 ∧ Ok v.2 u.2.1 u.2.2.1 u.2.2.2.1 u.2.2.2.2 := by
  rcases hu with ⟨g, rfl⟩ | ⟨g, g1, rfl⟩ | ⟨g, g1, rfl⟩
  · rcases hv with ⟨k, rfl⟩ | ⟨k, k1, rfl⟩ | ⟨k, k1, k2, k3⟩
    · exact ⟨rfl, N, t, q, S, hR, h⟩
    · exact absurd k g
    · exact absurd k g
  · rcases hv with ⟨k, rfl⟩ | ⟨k, k1, rfl⟩ | ⟨k, k1, k2, k3⟩
    · exact absurd g k
    · exact ⟨rfl, N, t, q, S, hR, h⟩
    · exact absurd k1 g1
  · rcases hv with ⟨k, rfl⟩ | ⟨k, k1, rfl⟩ | ⟨k, k1, k2, k3⟩
    · exact absurd g k
    · exact absurd g1 k1
    · have hE : E 1 0 = 0 := by
        have := h.1.2.2.1 0 (Nat.zero_le _)
        rw [h.1.1.2.2.1] at this
        exact this
      obtain ⟨N1, r1, i1⟩ := inv_init (O := O) (z := z) hE h.1.2.2.2.2.2 h.2.2.1.2.1.1 h.2.2.1.2.1.2 k k1 k3
      exact ⟨k2.symm, N1, 0, 0, _, r1, i1⟩
theorem pr_step (h : Inv M N E O P z t q S) (hR : Rep M N) {f0 f1 f2 f3 : Int} {u : Int × (Nat → Nat → Int) × (Nat → Nat → Int) × (Nat → Nat → Int) × (Nat → Int)} {v : Int × (Nat → Nat → Int)}
    (hu : (¬ okS f0 f1 f2 f3 ∧ u = (0, E, O, P, z)) ∨ (okS f0 f1 f2 f3 ∧ u = (1, E, O, up2 (up2 (up2 (up2 P 3 0 f0) 3 1 f1) 3 2 f2) 3 3 f3, z)))
    (hv : (¬ okS f0 f1 f2 f3 ∧ v = (0, M)) ∨ (okS f0 f1 f2 f3 ∧ v = (1, up2 (up2 (up2 (up2 M 6 0 f0) 6 1 f1) 6 2 f2) 6 3 f3))) :
    u.1 = v.1 ∧ Ok v.2 u.2.1 u.2.2.1 u.2.2.2.1 u.2.2.2.2 := by
  rcases hu with ⟨g, rfl⟩ | ⟨g, rfl⟩
  · rcases hv with ⟨k, rfl⟩ | ⟨k, rfl⟩
    · exact ⟨rfl, N, t, q, S, hR, h⟩
    · exact absurd k g
  · rcases hv with ⟨k, rfl⟩ | ⟨k, rfl⟩
    · exact absurd g k
    · have := inv_stp h hR g
      exact ⟨rfl, N, t, q, S, this.1, this.2⟩
theorem pr_noise (h : Inv M N E O P z t q S) (hR : Rep M N) {b0 b1 b2 : Int} {u : Int × (Nat → Nat → Int) × (Nat → Nat → Int) × (Nat → Nat → Int) × (Nat → Int)} {v : Int × (Nat → Nat → Int)}
    (hu : (¬ okC b0 b1 b2 ∧ u = (-3, E, O, P, z)) ∨ (okC b0 b1 b2 ∧ ¬ Pd b0 b1 b2 ∧ u = (-4, E, O, P, z)) ∨ (okC b0 b1 b2 ∧ Pd b0 b1 b2 ∧ u = (0, E, O, up2 (up2 (up2 P 3 4 b0) 3 5 b1) 3 6 b2, z)))
    (hv : (¬ okC b0 b1 b2 ∧ v = (-3, M)) ∨ (okC b0 b1 b2 ∧ ¬ Pd b0 b1 b2 ∧ v = (-4, M)) ∨ (okC b0 b1 b2 ∧ Pd b0 b1 b2 ∧ v = (0, up2 (up2 (up2 M 7 0 b0) 7 1 b1) 7 2 b2))) :
    u.1 = v.1 ∧ Ok v.2 u.2.1 u.2.2.1 u.2.2.2.1 u.2.2.2.2 := by
  rcases hu with ⟨g, rfl⟩ | ⟨g, g1, rfl⟩ | ⟨g, g1, rfl⟩
  · rcases hv with ⟨k, rfl⟩ | ⟨k, k1, rfl⟩ | ⟨k, k1, rfl⟩
    · exact ⟨rfl, N, t, q, S, hR, h⟩
    · exact absurd k g
    · exact absurd k g
  · rcases hv with ⟨k, rfl⟩ | ⟨k, k1, rfl⟩ | ⟨k, k1, rfl⟩
    · exact absurd g k
    · exact ⟨rfl, N, t, q, S, hR, h⟩
    · exact absurd k1 g1
  · rcases hv with ⟨k, rfl⟩ | ⟨k, k1, rfl⟩ | ⟨k, k1, rfl⟩
    · exact absurd g k
    · exact absurd g1 k1
    · have := inv_noise h hR g g1
      exact ⟨rfl, N, t, q, S, this.1, this.2⟩
theorem pr_observe (h : Inv M N E O P z t q S) (hR : Rep M N) {h0 h1 r x : Int} {u : Int × (Nat → Nat → Int) × (Nat → Nat → Int) × (Nat → Nat → Int) × (Nat → Int)} {v : Int × (Nat → Nat → Int)}
    (hu : (¬ okO h0 h1 r x ∧ u = (-3, E, O, P, z)) ∨ (okO h0 h1 r x ∧ q = 6 ∧ u = (-5, E, O, P, z)) ∨ (okO h0 h1 r x ∧ q ≠ 6 ∧ u = ((q : Int), up2 E 0 1 ((q : Int) + 1), up2 (up2 (up2 (up2 (up2 (up2 O q 0 h0) q 1 h1) q 2 r) q 3 x) q 4 (t : Int)) q 5 ((t + q : Nat) : Int), P, setB z (t + q + 1) (learnV (blB z (t + q)) h0 h1 r x))))
    (hv : (¬ okO h0 h1 r x ∧ v = (-3, M)) ∨ (okO h0 h1 r x ∧ q = 6 ∧ v = (-5, M)) ∨ (okO h0 h1 r x ∧ q ≠ 6 ∧ v.1 = (q : Int) ∧ Observed M v.2 N t q h0 h1 r x)) :
    u.1 = v.1 ∧ Ok v.2 u.2.1 u.2.2.1 u.2.2.2.1 u.2.2.2.2 := by
  rcases hu with ⟨g, rfl⟩ | ⟨g, g1, rfl⟩ | ⟨g, g1, rfl⟩
  · rcases hv with ⟨k, rfl⟩ | ⟨k, k1, rfl⟩ | ⟨k, k1, k2, k3⟩
    · exact ⟨rfl, N, t, q, S, hR, h⟩
    · exact absurd k g
    · exact absurd k g
  · rcases hv with ⟨k, rfl⟩ | ⟨k, k1, rfl⟩ | ⟨k, k1, k2, k3⟩
    · exact absurd g k
    · exact ⟨rfl, N, t, q, S, hR, h⟩
    · exact absurd g1 k1
  · rcases hv with ⟨k, rfl⟩ | ⟨k, k1, rfl⟩ | ⟨k, k1, k2, k3⟩
    · exact absurd g k
    · exact absurd k1 g1
    · obtain ⟨N1, S1, r1, i1⟩ := inv_obs h g g1 k3
      exact ⟨k2.symm, N1, t, q + 1, S1, r1, i1⟩
theorem pr_advance (h : Inv M N E O P z t q S) (hR : Rep M N) {u : Int × (Nat → Nat → Int) × (Nat → Nat → Int) × (Nat → Nat → Int) × (Nat → Int)} {v : Int × (Nat → Nat → Int)}
    (hu : (t = 3 ∧ u = (-5, E, O, P, z)) ∨ (t ≠ 3 ∧ u = ((t : Int) + 1, up2 (up2 E 0 0 ((t : Int) + 1)) 1 (t + 1) ((t + q + 1 : Nat) : Int), O, up2 (up2 (up2 (up2 (up2 (up2 (up2 P t 0 (P 3 0)) t 1 (P 3 1)) t 2 (P 3 2)) t 3 (P 3 3)) t 4 (P 3 4)) t 5 (P 3 5)) t 6 (P 3 6), setB z (t + q + 1) (noiseV (onV (blB z (t + q + 1)) (blB z (t + q)) (P 3)) (P 3 4) (P 3 5) (P 3 6)))))
    (hv : (t = 3 ∧ v = (-5, M)) ∨ (t ≠ 3 ∧ v.1 = (t : Int) + 1 ∧ Advanced M v.2 N t)) :
    u.1 = v.1 ∧ Ok v.2 u.2.1 u.2.2.1 u.2.2.2.1 u.2.2.2.2 := by
  rcases hu with ⟨g, rfl⟩ | ⟨g, rfl⟩
  · rcases hv with ⟨k, rfl⟩ | ⟨k, k1, k2⟩
    · exact ⟨rfl, N, t, q, S, hR, h⟩
    · exact absurd g k
  · rcases hv with ⟨k, rfl⟩ | ⟨k, k1, k2⟩
    · exact absurd k g
    · obtain ⟨N1, S1, r1, i1⟩ := inv_adv h g k2
      exact ⟨k1.symm, N1, t + 1, q, S1, r1, i1⟩
theorem Inv.hpos (h : Inv M N E O P z t q S) {h0 h1 r x : Int} (ho : okO h0 h1 r x) : 0 < N (24 + 6 * t + 5) * gS (fun i => N (24 + 6 * t + i)) h0 h1 r := by
  have hm := h.1.1.2.2.2.2 t (Nat.le_refl t)
  have hg := (h.2.1.1 t (Nat.le_refl t) (S (t + 1)) hm (Nat.le_refl _)).1
  have hr := (h.2.2.1.2.2.2.1 t (Nat.le_refl t)).2
  have key := (rel_obs hg hr (h0 := h0) (h1 := h1) (r := r) (z := x) ho.2.2.1.1 (w := fun i => obsV (fun i => N (24 + 6 * t + i)) h0 h1 r x i / ((gF (obsV (fun i => N (24 + 6 * t + i)) h0 h1 r x 5) (obsV (fun i => N (24 + 6 * t + i)) h0 h1 r x) 5 : Nat) : Int)) (fun i hi => rfl)).2
  exact Int.mul_pos hr.1 key
variable {kd tt e0 : Int} {u : Int × (Nat → Int)} {v : Int × (Nat → Nat → Int)}
theorem pr_sign (h : Inv M N E O P z t q S) (hR : Rep M N)
    (hu : (¬ okQ t q kd tt e0 ∧ u = (-2, z)) ∨ (okQ t q kd tt e0 ∧ KeepZ z u.2 ∧ u.1 = (cN E O P z t q kd tt e0).sign))
    (hv : (¬ okQ t q kd tt e0 ∧ v = (-2, M)) ∨ (okQ t q kd tt e0 ∧ ∃ N1, QS M N t v.2 N1 ∧ (kd = 2 → SmCh N (M 8) t (sml N1) 0) ∧ v.1 = (N1 (ixU kd tt e0)).sign)) :
    u.1 = v.1 ∧ Ok v.2 E O P u.2 := by
  rcases hu with ⟨g, rfl⟩ | ⟨g, g1, g2⟩
  · rcases hv with ⟨k, rfl⟩ | ⟨k, k1⟩
    · exact ⟨rfl, N, t, q, S, hR, h⟩
    · exact absurd k g
  · rcases hv with ⟨k, rfl⟩ | ⟨k, N1, hQ, hs, k2⟩
    · exact absurd g k
    · have hf := h.ask hQ g hs
      exact ⟨by rw [g2, k2, hf.sg0], N1, t, q, S, hQ.1, inv_ask h hQ g1⟩
theorem pr_compare {p0 q0 : Int} (h : Inv M N E O P z t q S) (hR : Rep M N)
    (hu : (¬ okQ t q kd tt e0 ∧ u = (-2, z)) ∨ (okQ t q kd tt e0 ∧ q0 < 1 ∧ KeepZ z u.2 ∧ u.1 = -3) ∨ (okQ t q kd tt e0 ∧ 1 ≤ q0 ∧ KeepZ z u.2 ∧ u.1 = (cN E O P z t q kd tt e0 * q0 - cD E O P z t q kd tt * p0).sign))
    (hv : (¬ okQ t q kd tt e0 ∧ v = (-2, M)) ∨ (okQ t q kd tt e0 ∧ q0 < 1 ∧ v = (-3, M)) ∨ (okQ t q kd tt e0 ∧ 1 ≤ q0 ∧ ∃ N1, QS M N t v.2 N1 ∧ (kd = 2 → SmCh N (M 8) t (sml N1) 0) ∧ v.1 = (N1 (ixU kd tt e0) * q0 - N1 (ixL kd tt e0) * p0).sign)) :
    u.1 = v.1 ∧ Ok v.2 E O P u.2 := by
  rcases hu with ⟨g, rfl⟩ | ⟨g, g1, g2, g3⟩ | ⟨g, g0, g1, g2⟩
  · rcases hv with ⟨k, rfl⟩ | ⟨k, k1⟩ | ⟨k, k1⟩
    · exact ⟨rfl, N, t, q, S, hR, h⟩
    · exact absurd k g
    · exact absurd k g
  · rcases hv with ⟨k, rfl⟩ | ⟨k, k1, rfl⟩ | ⟨k, k1, k2⟩
    · exact absurd g k
    · exact ⟨g3, N, t, q, S, hR, inv_ask h (h.qs hR) g2⟩
    · exact absurd k1 (by omega)
  · rcases hv with ⟨k, rfl⟩ | ⟨k, k1, rfl⟩ | ⟨k, k0, N1, hQ, hs, k2⟩
    · exact absurd g k
    · exact absurd k1 (by omega)
    · have hf := h.ask hQ g hs
      exact ⟨by rw [g2, k2, hf.sg], N1, t, q, S, hQ.1, inv_ask h hQ g1⟩
theorem Fr.lwi {a b a1 b1 lw : Int} (h : Fr a b a1 b1) : (if lw = 0 then lwN a b else lwD a b).natAbs = (if lw = 0 then lwN a1 b1 else lwD a1 b1).natAbs := by
  by_cases e : lw = 0
  · rw [if_pos e, if_pos e]; exact h.lw.1
  · rw [if_neg e, if_neg e, h.lw.2]
theorem pr_bits {lw : Int} (h : Inv M N E O P z t q S) (hR : Rep M N)
    (hu : (¬ okQ t q kd tt e0 ∧ u = (-2, z)) ∨ (okQ t q kd tt e0 ∧ KeepZ z u.2 ∧ ∃ r : Nat, BL (if lw = 0 then lwN (cN E O P z t q kd tt e0) (cD E O P z t q kd tt) else lwD (cN E O P z t q kd tt e0) (cD E O P z t q kd tt)) r ∧ u.1 = (r : Int)))
    (hv : (¬ okQ t q kd tt e0 ∧ v = (-2, M)) ∨ (okQ t q kd tt e0 ∧ ∃ N1 r, QS M N t v.2 N1 ∧ (kd = 2 → SmCh N (M 8) t (sml N1) 0) ∧ BL (if lw = 0 then lwN (N1 (ixU kd tt e0)) (N1 (ixL kd tt e0)) else lwD (N1 (ixU kd tt e0)) (N1 (ixL kd tt e0))) r ∧ v.1 = (r : Int))) :
    u.1 = v.1 ∧ Ok v.2 E O P u.2 := by
  rcases hu with ⟨g, rfl⟩ | ⟨g, g1, r, g2, g3⟩
  · rcases hv with ⟨k, rfl⟩ | ⟨k, k1⟩
    · exact ⟨rfl, N, t, q, S, hR, h⟩
    · exact absurd k g
  · rcases hv with ⟨k, rfl⟩ | ⟨k, N1, r1, hQ, hs, k2, k3⟩
    · exact absurd g k
    · have hf := h.ask hQ g hs
      have e := BL_un k2 g2 hf.lwi
      exact ⟨by rw [g3, k3, e], N1, t, q, S, hQ.1, inv_ask h hQ g1⟩
theorem pr_word {lw kk : Int} (h : Inv M N E O P z t q S) (hR : Rep M N)
    (hu : (¬ okQ t q kd tt e0 ∧ u = (-2, z)) ∨ (okQ t q kd tt e0 ∧ ¬ (0 ≤ kk ∧ kk ≤ 31) ∧ KeepZ z u.2 ∧ u.1 = -3) ∨ (okQ t q kd tt e0 ∧ (0 ≤ kk ∧ kk ≤ 31) ∧ KeepZ z u.2 ∧ u.1 = ((if lw = 0 then lwN (cN E O P z t q kd tt e0) (cD E O P z t q kd tt) else lwD (cN E O P z t q kd tt e0) (cD E O P z t q kd tt)).natAbs : Int) / 2 ^ (32 * kk.toNat) % 4294967296))
    (hv : (¬ okQ t q kd tt e0 ∧ v = (-2, M)) ∨ (okQ t q kd tt e0 ∧ ¬ (0 ≤ kk ∧ kk ≤ 31) ∧ v = (-3, M)) ∨ (okQ t q kd tt e0 ∧ (0 ≤ kk ∧ kk ≤ 31) ∧ ∃ N1, QS M N t v.2 N1 ∧ (kd = 2 → SmCh N (M 8) t (sml N1) 0) ∧ v.1 = ((if lw = 0 then lwN (N1 (ixU kd tt e0)) (N1 (ixL kd tt e0)) else lwD (N1 (ixU kd tt e0)) (N1 (ixL kd tt e0))).natAbs : Int) / 2 ^ (32 * kk.toNat) % 4294967296)) :
    u.1 = v.1 ∧ (-3 ≤ u.1 ∧ u.1 < 4294967296) ∧ Ok v.2 E O P u.2 := by
  rcases hu with ⟨g, rfl⟩ | ⟨g, g1, g2, g3⟩ | ⟨g, g0, g1, g2⟩
  · rcases hv with ⟨k, rfl⟩ | ⟨k, k1⟩ | ⟨k, k1⟩
    · exact ⟨rfl, ⟨by show (-3 : Int) ≤ -2; decide, by show (-2 : Int) < _; decide⟩, N, t, q, S, hR, h⟩
    · exact absurd k g
    · exact absurd k g
  · rcases hv with ⟨k, rfl⟩ | ⟨k, k1, rfl⟩ | ⟨k, k1, k2⟩
    · exact absurd g k
    · exact ⟨g3, ⟨by rw [g3]; decide, by rw [g3]; decide⟩, N, t, q, S, hR, inv_ask h (h.qs hR) g2⟩
    · exact absurd k1 g1
  · rcases hv with ⟨k, rfl⟩ | ⟨k, k1, rfl⟩ | ⟨k, k0, N1, hQ, hs, k2⟩
    · exact absurd g k
    · exact absurd g0 k1
    · have hf := h.ask hQ g hs
      exact ⟨by rw [g2, k2, hf.lwi], ⟨by rw [g2]; have := Int.emod_nonneg (((if lw = 0 then lwN (cN E O P z t q kd tt e0) (cD E O P z t q kd tt) else lwD (cN E O P z t q kd tt e0) (cD E O P z t q kd tt)).natAbs : Int) / 2 ^ (32 * kk.toNat)) (b := 4294967296) (by decide); omega, by rw [g2]; exact Int.emod_lt_of_pos _ (by decide)⟩, N1, t, q, S, hQ.1, inv_ask h hQ g1⟩
end Pr
/-- both constructors -/
theorem ok_start {M1 : Nat → Nat → Int} (h : Begun Ms M1 0 0 1 0 1) : Ok M1 Z2 Z2 P1 z1E := by
  obtain ⟨N1, r1, i1⟩ := inv_init (E := Z2) (O := Z2) (P := P1) (z := Z1) rfl ⟨by decide, by decide, by unfold Pd; decide⟩ (by decide) (by decide) (by unfold okI; decide) (by unfold Pd; decide) h
  have e : up2 (up2 Z2 0 0 0) 0 1 0 = Z2 := by
    funext i j
    by_cases h1 : i = 0 ∧ j = 1
    · obtain ⟨rfl, rfl⟩ := h1
      rw [u2_s]; rfl
    · rw [u2_n (by omega)]
      by_cases h2 : i = 0 ∧ j = 0
      · obtain ⟨rfl, rfl⟩ := h2
        rw [u2_s]; rfl
      · rw [u2_n (by omega)]
  rw [e] at i1
  exact ⟨N1, 0, 0, _, r1, i1⟩
