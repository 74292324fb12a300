theorem okP_c {p p1 : Nat → Int} (h : okP p) (e : ∀ j, j < 7 → p1 j = p j) : okP p1 := by
  refine ⟨fun j hj => by rw [e j (by omega)]; exact h.1 j hj, fun j hj => by rw [e (4 + j) (by omega)]; exact h.2.1 j hj, ?_⟩
  rw [e 4 (by decide), e 5 (by decide), e 6 (by decide)]; exact h.2.2
theorem onV_f {x x1 u f f1 : Nat → Int} (hf : ∀ i, i < 4 → f i = f1 i) : ∀ i, i < 9 → onV x u f i = onV x1 u f1 i := fun i hi => by
  have h9 : i = 0 ∨ i = 1 ∨ i = 2 ∨ i = 3 ∨ i = 4 ∨ i = 5 ∨ i = 6 ∨ i = 7 ∨ i = 8 := by omega
  rcases h9 with e | e | e | e | e | e | e | e | e <;> subst e <;> simp only [onV, scaleV, turnV, hf 0 (by decide), hf 1 (by decide), hf 2 (by decide), hf 3 (by decide)]
theorem advV_f {u m m1 k k1 : Nat → Int} (hm : ∀ i, i < 4 → m i = m1 i) (hk : ∀ i, i < 3 → k i = k1 i) : ∀ i, i < 6 → advV u m k i = advV u m1 k1 i := fun i hi => by
  rcases i6 hi with e | e | e | e | e | e <;> subst e <;> simp only [advV, hm 0 (by decide), hm 1 (by decide), hm 2 (by decide), hm 3 (by decide), hk 0 (by decide), hk 1 (by decide), hk 2 (by decide)]
theorem inv_adv {M M1 : Nat → Nat → Int} {N : Nat → Int} {E O P : Nat → Nat → Int} {z : Nat → Int} {t q : Nat} {S : Nat → Nat} (h : Inv M N E O P z t q S) (ht3 : t ≠ 3) (hA : Advanced M M1 N t) :
    ∃ N1 S1, Rep M1 N1 ∧ Inv M1 N1 (up2 (up2 E 0 0 ((t : Int) + 1)) 1 (t + 1) ((t + q + 1 : Nat) : Int)) O (up2 (up2 (up2 (up2 (up2 (up2 (up2 P t 0 (P 3 0)) t 1 (P 3 1)) t 2 (P 3 2)) t 3 (P 3 3)) t 4 (P 3 4)) t 5 (P 3 5)) t 6 (P 3 6)) (setB z (t + q + 1) (noiseV (onV (blB z (t + q + 1)) (blB z (t + q)) (P 3)) (P 3 4) (P 3 5) (P 3 6))) (t + 1) q S1 := by
  obtain ⟨⟨⟨g1, g2, g3, g4, hm⟩, ⟨g5, g6⟩, g7, g8, g9, g10⟩, ⟨b1, b2, b3⟩, ⟨⟨r0, r0'⟩, ⟨r1, r2⟩, r3, r4, r5, r6⟩, hf⟩ := id h
  obtain ⟨N1, hR, ⟨m0, m1, m2⟩, ⟨e6, e7, e8⟩, n1, n2, hN⟩ := hA
  obtain ⟨S1, hS1⟩ : ∃ S1 : Nat → Nat, S1 = fun k => if k = t + 1 + 1 then q else S k := ⟨_, rfl⟩
  have sa : ∀ k, k ≤ t + 1 → S1 k = S k := fun k hk => by rw [hS1]; exact if_neg (by omega)
  have sb : S1 (t + 1 + 1) = q := by rw [hS1]; exact if_pos rfl
  obtain ⟨P1, hP1⟩ : ∃ P1, P1 = up2 (up2 (up2 (up2 (up2 (up2 (up2 P t 0 (P 3 0)) t 1 (P 3 1)) t 2 (P 3 2)) t 3 (P 3 3)) t 4 (P 3 4)) t 5 (P 3 5)) t 6 (P 3 6) := ⟨_, rfl⟩
  have pa : ∀ k, k ≠ t → P1 k = P k := fun k hk => by rw [hP1, up2_n _ hk, up2_n _ hk, up2_n _ hk, up2_n _ hk, up2_n _ hk, up2_n _ hk, up2_n _ hk]
  have pb : ∀ j, j < 7 → P1 t j = P 3 j := fun j hj => by
    have hj7 : j = 0 ∨ j = 1 ∨ j = 2 ∨ j = 3 ∨ j = 4 ∨ j = 5 ∨ j = 6 := by omega
    rw [hP1]
    rcases hj7 with e | e | e | e | e | e | e <;> subst e
    · rw [u2_n (by omega), u2_n (by omega), u2_n (by omega), u2_n (by omega), u2_n (by omega), u2_n (by omega), u2_s]
    · rw [u2_n (by omega), u2_n (by omega), u2_n (by omega), u2_n (by omega), u2_n (by omega), u2_s]
    · rw [u2_n (by omega), u2_n (by omega), u2_n (by omega), u2_n (by omega), u2_s]
    · rw [u2_n (by omega), u2_n (by omega), u2_n (by omega), u2_s]
    · rw [u2_n (by omega), u2_n (by omega), u2_s]
    · rw [u2_n (by omega), u2_s]
    · rw [u2_s]
  rw [← hP1]
  obtain ⟨z1, hz1⟩ : ∃ z1, z1 = setB z (t + q + 1) (noiseV (onV (blB z (t + q + 1)) (blB z (t + q)) (P 3)) (P 3 4) (P 3 5) (P 3 6)) := ⟨_, rfl⟩
  have za : ∀ n, n ≠ t + q + 1 → ∀ j, j < 9 → blB z1 n j = blB z n j := fun n hn => by rw [hz1]; exact blB_ne hn
  have zb : ∀ j, j < 9 → blB z1 (t + q + 1) j = noiseV (onV (blB z (t + q + 1)) (blB z (t + q)) (P 3)) (P 3 4) (P 3 5) (P 3 6) j := fun j hj => by rw [hz1]; exact blB_s hj
  rw [← hz1]
  have hst := hm t (Nat.le_refl t)
  have hgt := b1 t (Nat.le_refl t) q (by omega) (by omega)
  have hrt := (r4 t (Nat.le_refl t)).2
  rw [g4] at hrt
  have hSm : ∀ k, k ≤ t → S (k + 1) ≤ q := fun k hk => by have := S_mono hm (show k + 1 ≤ t + 1 by omega) (Nat.le_refl _); omega
  have hMP : ∀ i, i < 6 → advV (fun i => N (24 + 6 * t + i)) (M 6) (M 7) i = advV (fun i => N (24 + 6 * t + i)) (P 3) (fun j => P 3 (4 + j)) i := advV_f r1 r2
  have hra : RelV (six (blB z1 (t + q + 1))) (fun i => N1 (6 * t + 6 + i)) := by
    refine (rel_adv (m := P 3) (k := fun j => P 3 (4 + j)) (n1 := fun i => N1 (6 * t + 6 + i)) hrt (fun i hi => by rw [← hMP i hi]; exact n1 i hi)).congr (fun i hi => ?_) (fun _ _ => rfl)
    rw [six_congr zb i hi]
    exact six_adv _ _ (P 3) (fun j => P 3 (4 + j)) i hi
  refine ⟨N1, S1, hR, ⟨⟨by omega, g2, by rw [sa 0 (by omega)]; exact g3, sb, fun k hk => ?_⟩, ⟨?_, ?_⟩, fun k hk => ?_, fun i hi => ?_, fun k hk => ?_, ?_⟩, ⟨fun k hk i q1 q2 => ?_, fun k hk i q1 q2 j hj => ?_, fun k hk j hj => ?_⟩, ⟨⟨by rw [m0]; rfl, by rw [m1]; exact r0'⟩, ⟨fun i hi => ?_, fun i hi => ?_⟩, fun k hk i hi => ?_, fun k hk => ?_, fun k hk i hi => ?_, fun i hi k hk q1 q2 => ?_⟩, Or.inl m2⟩
  · rw [sa k hk]
    by_cases c : k = t + 1
    · rw [c, sb, g4]; exact Nat.le_refl _
    · rw [sa (k + 1) (by omega)]; exact hm k (by omega)
  · rw [u2_n (by omega), u2_s]; rfl
  · rw [u2_n (by omega), u2_n (by omega)]; exact g6
  · by_cases c : k = t + 1
    · subst c
      rw [u2_s, sa (t + 1) (by omega), g4]
      omega
    · rw [u2_n (by omega), u2_n (by omega), sa k hk]; exact g7 k (by omega)
  · obtain ⟨d1, k, d2, d3, d4, d5⟩ := g8 i hi
    exact ⟨d1, k, by omega, ⟨by rw [sa k (by omega)]; exact d3.1, by rw [sa (k + 1) (by omega)]; exact d3.2⟩, d4, d5⟩
  · by_cases c : k = t
    · subst c; exact okP_c g10 pb
    · rw [pa k c]; exact g9 k (by omega)
  · rw [pa 3 (by omega)]; exact g10
  · rw [sa k hk] at q1
    by_cases c : k = t + 1
    · subst c
      rw [sb] at q2
      rw [g4] at q1
      have hi : i = q := by omega
      subst hi
      rw [show t + 1 + i = t + i + 1 by omega]
      refine ⟨(good_adv hgt.1 g10.2.2).congr zb, ?_⟩
      rw [kb_a]
      exact (bd_adv hgt.2 g10).congr zb
    · rw [sa (k + 1) (by omega)] at q2
      have := hSm k (by omega)
      have hh := b1 k (by omega) i q1 q2
      exact ⟨hh.1.congr (za _ (by omega)), hh.2.congr (za _ (by omega))⟩
  · rw [sa k hk] at q1
    by_cases c : k = t + 1
    · subst c
      rw [sb] at q2
      rw [g4] at q1
      omega
    · rw [sa (k + 1) (by omega)] at q2
      have := hSm k (by omega)
      rw [za _ (by omega) j hj, b2 k (by omega) i q1 q2 j hj]
      exact (learnV_congr (za _ (by omega)) j hj).symm
  · rw [sa (k + 1) (by omega)]
    by_cases c : k = t
    · subst c
      rw [g4, zb j hj, pb 4 (by decide), pb 5 (by decide), pb 6 (by decide)]
      refine noiseV_congr (fun i hi => ?_) j hj
      rw [onV_c (x := fun _ => 0) (x1 := fun _ => 0) (f := P1 k) (za (k + q) (by omega)) i hi]
      exact onV_f (fun i hi => (pb i (by omega)).symm) i hi
    · have := hSm k (by omega)
      rw [za _ (by omega) j hj, b3 k (by omega) j hj, pa k c]
      refine noiseV_congr (fun i hi => ?_) j hj
      refine onV_c (fun i hi => ?_) i hi
      exact (za _ (by omega) i hi).symm
  · rw [e6, pa 3 (by omega)]; exact r1 i hi
  · rw [e7, pa 3 (by omega)]; exact r2 i hi
  · rw [e8]
    by_cases c : k = t
    · subst c
      rw [blk_in hi, pb i (by omega)]; exact r1 i hi
    · rw [blk_out (by omega), pa k c]; exact r3 k (by omega) i hi
  · by_cases c : k = t + 1
    · subst c
      rw [sa (t + 1) (by omega), sb, g4, show t + 1 + q = t + q + 1 by omega]
      refine ⟨hra.congr (fun _ _ => rfl) (fun i hi => by show N1 (6 * (t + 1) + i) = N1 (6 * t + 6 + i); congr 1), hra.congr (fun _ _ => rfl) (fun i hi => by show N1 (24 + 6 * (t + 1) + i) = N1 (6 * t + 6 + i); rw [n2 i hi, n1 i hi])⟩
    · have h1 := S_mono hm (show k ≤ t + 1 by omega) (Nat.le_refl _)
      have h2 := hSm k (by omega)
      rw [sa k hk, sa (k + 1) (by omega)]
      refine ⟨(r4 k (by omega)).1.congr (six_congr (za _ (by omega))) (fun i hi => hN _ (by omega) (by omega) (by omega)), (r4 k (by omega)).2.congr (six_congr (za _ (by omega))) (fun i hi => hN _ (by omega) (by omega) (by omega))⟩
  · by_cases c : k = t
    · subst c
      rw [n1 i hi, hMP i hi, advV_f (m1 := P1 k) (k1 := fun j => P1 k (4 + j)) (fun i hi => (pb i (by omega)).symm) (fun i hi => (pb (4 + i) (by omega)).symm) i hi]
      exact advV_c (fun j hj => (hN _ (by omega) (by omega) (by omega)).symm) i hi
    · rw [hN _ (by omega) (by omega) (by omega), r5 k (by omega) i hi, pa k c]
      exact advV_c (fun j hj => (hN _ (by omega) (by omega) (by omega)).symm) i hi
  · rw [sa k hk] at q1
    by_cases c : k = t + 1
    · subst c
      rw [sb] at q2
      rw [g4] at q1
      omega
    · rw [sa (k + 1) (by omega)] at q2
      have := hSm k (by omega)
      have hh := r6 i hi k (by omega) q1 q2
      rw [hN _ (by omega) (by omega) (by omega), hN _ (by omega) (by omega) (by omega), hN _ (by omega) (by omega) (by omega), hN _ (by omega) (by omega) (by omega), za _ (by omega) 4 (by decide), za _ (by omega) 4 (by decide)]
      have e1 : gY (six (blB z1 (k + i))) (O i 0) (O i 1) (O i 3) = gY (six (blB z (k + i))) (O i 0) (O i 1) (O i 3) := by
        simp only [gY]
        rw [six_congr (za (k + i) (by omega)) 0 (by decide), six_congr (za (k + i) (by omega)) 1 (by decide), six_congr (za (k + i) (by omega)) 5 (by decide)]
      rw [e1]
      exact hh
theorem Rep.same {M M1 : Nat → Nat → Int} {N : Nat → Int} (h : Rep M N) (h1 : M1 1 = M 1) (h2 : M1 2 = M 2) (h3 : M1 3 = M 3) : Rep M1 N := fun y hy => by
  have := h y hy
  unfold Rp at *
  rw [h1, h2, h3]; exact this
/-- other settings -/
theorem inv_set {M M1 : Nat → Nat → Int} {N : Nat → Int} {E O P P1 : Nat → Nat → Int} {z : Nat → Int} {t q : Nat} {S : Nat → Nat} (h : Inv M N E O P z t q S) (h0 : M1 0 = M 0) (h8 : M1 8 = M 8) (h6 : ∀ i, i < 4 → M1 6 i = P1 3 i) (h7 : ∀ i, i < 3 → M1 7 i = P1 3 (4 + i)) (hp : ∀ k, k ≠ 3 → P1 k = P k) (ho : okP (P1 3)) : Inv M1 N E O P1 z t q S := by
  obtain ⟨⟨⟨g1, g2, g3, g4, hm⟩, g56, g7, g8, g9, g10⟩, ⟨b1, b2, b3⟩, ⟨r0, ⟨r1, r2⟩, r3, r4, r5, r6⟩, hf⟩ := h
  refine ⟨⟨⟨g1, g2, g3, g4, hm⟩, g56, g7, g8, fun k hk => by rw [hp k (by omega)]; exact g9 k hk, ho⟩, ⟨b1, b2, fun k hk => by rw [hp k (by omega)]; exact b3 k hk⟩, ⟨by rw [h0]; exact r0, ⟨h6, h7⟩, fun k hk => by rw [hp k (by omega), h8]; exact r3 k hk, r4, fun k hk => by rw [hp k (by omega)]; exact r5 k hk, r6⟩, by rw [h0, h8]; exact hf⟩
theorem inv_stp {M : Nat → Nat → Int} {N : Nat → Int} {E O P : Nat → Nat → Int} {z : Nat → Int} {t q : Nat} {S : Nat → Nat} {f0 f1 f2 f3 : Int} (h : Inv M N E O P z t q S) (hR : Rep M N) (ho : okS f0 f1 f2 f3) :
    Rep (up2 (up2 (up2 (up2 M 6 0 f0) 6 1 f1) 6 2 f2) 6 3 f3) N ∧ Inv (up2 (up2 (up2 (up2 M 6 0 f0) 6 1 f1) 6 2 f2) 6 3 f3) N E O (up2 (up2 (up2 (up2 P 3 0 f0) 3 1 f1) 3 2 f2) 3 3 f3) z t q S := by
  have hP := h.1.2.2.2.2.2
  have hn : ∀ b, b ≠ 6 → up2 (up2 (up2 (up2 M 6 0 f0) 6 1 f1) 6 2 f2) 6 3 f3 b = M b := fun b hb => by rw [up2_n _ hb, up2_n _ hb, up2_n _ hb, up2_n _ hb]
  have e : ∀ (F : Nat → Nat → Int) (a i : Nat), i < 4 → up2 (up2 (up2 (up2 F a 0 f0) a 1 f1) a 2 f2) a 3 f3 a i = if i = 0 then f0 else if i = 1 then f1 else if i = 2 then f2 else f3 := fun F a i hi => by
    have h4 : i = 0 ∨ i = 1 ∨ i = 2 ∨ i = 3 := by omega
    rcases h4 with c | c | c | c <;> subst c
    · rw [u2_n (by omega), u2_n (by omega), u2_n (by omega), u2_s]; rfl
    · rw [u2_n (by omega), u2_n (by omega), u2_s]; rfl
    · rw [u2_n (by omega), u2_s]; rfl
    · rw [u2_s]; rfl
  have e4 : ∀ j, 4 ≤ j → up2 (up2 (up2 (up2 P 3 0 f0) 3 1 f1) 3 2 f2) 3 3 f3 3 j = P 3 j := fun j hj => by rw [u2_n (by omega), u2_n (by omega), u2_n (by omega), u2_n (by omega)]
  refine ⟨hR.same (hn 1 (by decide)) (hn 2 (by decide)) (hn 3 (by decide)), inv_set h (hn 0 (by decide)) (hn 8 (by decide)) (fun i hi => by rw [e M 6 i hi, e P 3 i hi]) (fun i hi => by rw [hn 7 (by decide), e4 _ (by omega)]; exact h.2.2.1.2.1.2 i hi) (fun k hk => by rw [up2_n _ hk, up2_n _ hk, up2_n _ hk, up2_n _ hk]) ⟨fun j hj => ?_, fun j hj => by rw [e4 _ (by omega)]; exact hP.2.1 j hj, by rw [e4 4 (by decide), e4 5 (by decide), e4 6 (by decide)]; exact hP.2.2⟩⟩
  rw [e P 3 j hj]
  obtain ⟨k0, k1, k2, k3⟩ := ho
  split
  · exact k0
  · split
    · exact k1
    · split
      · exact k2
      · exact k3
theorem inv_noise {M : Nat → Nat → Int} {N : Nat → Int} {E O P : Nat → Nat → Int} {z : Nat → Int} {t q : Nat} {S : Nat → Nat} {f0 f1 f2 : Int} (h : Inv M N E O P z t q S) (hR : Rep M N) (ho : okC f0 f1 f2) (hpd : Pd f0 f1 f2) :
    Rep (up2 (up2 (up2 M 7 0 f0) 7 1 f1) 7 2 f2) N ∧ Inv (up2 (up2 (up2 M 7 0 f0) 7 1 f1) 7 2 f2) N E O (up2 (up2 (up2 P 3 4 f0) 3 5 f1) 3 6 f2) z t q S := by
  have hP := h.1.2.2.2.2.2
  have hn : ∀ b, b ≠ 7 → up2 (up2 (up2 M 7 0 f0) 7 1 f1) 7 2 f2 b = M b := fun b hb => by rw [up2_n _ hb, up2_n _ hb, up2_n _ hb]
  have e : ∀ i, i < 3 → up2 (up2 (up2 M 7 0 f0) 7 1 f1) 7 2 f2 7 i = up2 (up2 (up2 P 3 4 f0) 3 5 f1) 3 6 f2 3 (4 + i) := fun i hi => by
    have h4 : i = 0 ∨ i = 1 ∨ i = 2 := by omega
    rcases h4 with c | c | c <;> subst c
    · rw [u2_n (by omega), u2_n (by omega), u2_s, u2_n (by omega), u2_n (by omega), u2_s]
    · rw [u2_n (by omega), u2_s, u2_n (by omega), u2_s]
    · rw [u2_s, u2_s]
  have p4 : up2 (up2 (up2 P 3 4 f0) 3 5 f1) 3 6 f2 3 4 = f0 := by rw [u2_n (by omega), u2_n (by omega), u2_s]
  have p5 : up2 (up2 (up2 P 3 4 f0) 3 5 f1) 3 6 f2 3 5 = f1 := by rw [u2_n (by omega), u2_s]
  have p6 : up2 (up2 (up2 P 3 4 f0) 3 5 f1) 3 6 f2 3 6 = f2 := by rw [u2_s]
  have e4 : ∀ j, j < 4 → up2 (up2 (up2 P 3 4 f0) 3 5 f1) 3 6 f2 3 j = P 3 j := fun j hj => by rw [u2_n (by omega), u2_n (by omega), u2_n (by omega)]
  refine ⟨hR.same (hn 1 (by decide)) (hn 2 (by decide)) (hn 3 (by decide)), inv_set h (hn 0 (by decide)) (hn 8 (by decide)) (fun i hi => by rw [hn 6 (by decide), e4 i hi]; exact h.2.2.1.2.1.1 i hi) e (fun k hk => by rw [up2_n _ hk, up2_n _ hk, up2_n _ hk]) ⟨fun j hj => by rw [e4 j hj]; exact hP.1 j hj, fun j hj => ?_, by rw [p4, p5, p6]; exact hpd⟩⟩
  have h4 : j = 0 ∨ j = 1 ∨ j = 2 := by omega
  rcases h4 with c | c | c <;> subst c
  · rw [p4]; exact ho.1
  · rw [p5]; exact ho.2.1
  · rw [p6]; exact ho.2.2
theorem smV_up {u u1 p p1 x f : Nat → Int} (hu : ∀ i, i < 6 → u i = u1 i) (hp : ∀ i, i < 6 → p i = p1 i) : smV u p x f = smV u1 p1 x f := by
  have e : matV u p f = matV u1 p1 f := by
    funext i
    unfold matV
    rw [hu 2 (by decide), hu 3 (by decide), hu 4 (by decide), hp 2 (by decide), hp 3 (by decide), hp 4 (by decide)]
  have e1 : matG u p f = matG u1 p1 f := by unfold matG; rw [e]
  unfold smV
  rw [e1]
  funext i
  unfold smW
  rw [hu 0 (by decide), hu 1 (by decide), hu 2 (by decide), hu 3 (by decide), hu 4 (by decide), hu 5 (by decide), hp 0 (by decide), hp 1 (by decide), hp 2 (by decide), hp 3 (by decide), hp 4 (by decide), hp 5 (by decide)]
/-- a question leaves what holds -/
theorem inv_ask {M M1 : Nat → Nat → Int} {N N1 : Nat → Int} {E O P : Nat → Nat → Int} {z z1 : Nat → Int} {t q : Nat} {S : Nat → Nat} (h : Inv M N E O P z t q S) (hQ : QS M N t M1 N1) (hz : KeepZ z z1) : Inv M1 N1 E O P z1 t q S := by
  obtain ⟨⟨⟨g1, g2, g3, g4, hm⟩, g56, g7, g8, g9, g10⟩, ⟨b1, b2, b3⟩, ⟨r0, ⟨r1, r2⟩, r3, r4, r5, r6⟩, hf⟩ := id h
  obtain ⟨hR, ⟨q0, q1⟩, ⟨q6, q7, q8⟩, hN, hq⟩ := hQ
  have hS : ∀ k, k ≤ t + 1 → S k ≤ q := fun k hk => (h.S6 hk).1
  have zb : ∀ n, n < 10 → ∀ j, j < 9 → blB z1 n j = blB z n j := fun n hn j hj => hz _ (by omega)
  refine ⟨⟨⟨g1, g2, g3, g4, hm⟩, g56, g7, g8, g9, g10⟩, ⟨fun k hk i h1 h2 => ?_, fun k hk i h1 h2 j hj => ?_, fun k hk j hj => ?_⟩, ⟨⟨by rw [q0]; exact r0.1, by rw [q1]; exact r0.2⟩, ⟨fun i hi => by rw [q6]; exact r1 i hi, fun i hi => by rw [q7]; exact r2 i hi⟩, fun k hk i hi => by rw [q8]; exact r3 k hk i hi, fun k hk => ⟨?_, ?_⟩, fun k hk i hi => ?_, fun i hi k hk h1 h2 => ?_⟩, ?_⟩
  · have := hS (k + 1) (by omega)
    have hh := b1 k hk i h1 h2
    exact ⟨hh.1.congr (zb _ (by omega)), hh.2.congr (zb _ (by omega))⟩
  · have := hS (k + 1) (by omega)
    rw [zb _ (by omega) j hj, b2 k hk i h1 h2 j hj]
    exact (learnV_congr (zb _ (by omega)) j hj).symm
  · have := hS (k + 1) (by omega)
    rw [zb _ (by omega) j hj, b3 k hk j hj]
    refine noiseV_congr (fun i hi => ?_) j hj
    refine onV_c (fun i hi => ?_) i hi
    exact (zb _ (by omega) i hi).symm
  · have := hS k (by omega)
    exact (r4 k hk).1.congr (six_congr (zb _ (by omega))) (fun i hi => hN _ (by omega) (by omega))
  · have := hS (k + 1) (by omega)
    exact (r4 k hk).2.congr (six_congr (zb _ (by omega))) (fun i hi => hN _ (by omega) (by omega))
  · rw [hN _ (by omega) (by omega), r5 k hk i hi]
    exact advV_c (fun j hj => (hN _ (by omega) (by omega)).symm) i hi
  · have := hS (k + 1) (by omega)
    have hh := r6 i hi k hk h1 h2
    rw [hN _ (by omega) (by omega), hN _ (by omega) (by omega), hN _ (by omega) (by omega), hN _ (by omega) (by omega), zb _ (by omega) 4 (by decide), zb _ (by omega) 4 (by decide)]
    have e1 : gY (six (blB z1 (k + i))) (O i 0) (O i 1) (O i 3) = gY (six (blB z (k + i))) (O i 0) (O i 1) (O i 3) := by
      simp only [gY]
      rw [six_congr (zb (k + i) (by omega)) 0 (by decide), six_congr (zb (k + i) (by omega)) 1 (by decide), six_congr (zb (k + i) (by omega)) 5 (by decide)]
    rw [e1]
    exact hh
  · rcases hq with e | ⟨e, hc⟩
    · exact Or.inl e
    · refine Or.inr ⟨e, ?_⟩
      rw [q8]
      refine ⟨fun i hi => ?_, fun k h1 h2 => ?_⟩
      · rw [hc.1 i hi]; exact (hN _ (by omega) (by omega)).symm
      · have := hc.2 k h1 h2
        have e1 : smV (fun i => N1 (24 + 6 * k + i)) (fun i => N1 (6 * k + 6 + i)) (sml N1 (k + 1)) (fun i => M 8 (4 * k + i)) = smV (fun i => N (24 + 6 * k + i)) (fun i => N (6 * k + 6 + i)) (sml N1 (k + 1)) (fun i => M 8 (4 * k + i)) := smV_up (fun i hi => hN _ (by omega) (by omega)) (fun i hi => hN _ (by omega) (by omega))
        rw [e1]
        exact this
