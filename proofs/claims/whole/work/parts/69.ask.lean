def Inv (M : Nat → Nat → Int) (N : Nat → Int) (E O P : Nat → Nat → Int) (z : Nat → Int) (t q : Nat) (S : Nat → Nat) : Prop :=
  OrC E O P t q S ∧ IB O P z t S ∧ IR M N O P z t q S ∧ (M 0 2 = 0 ∨ (M 0 2 = 1 ∧ SmCh N (M 8) t (sml N) 0))
theorem pow2_mono {a b : Nat} (h : a ≤ b) : (2 : Int) ^ a ≤ 2 ^ b := by
  have h1 : (2 : Nat) ^ a ≤ 2 ^ b := Nat.pow_le_pow_right (by decide) h
  have h2 : ((2 ^ a : Nat) : Int) ≤ ((2 ^ b : Nat) : Int) := Int.ofNat_le.mpr h1
  rw [pw2, pw2] at h2; exact h2
theorem p110 : (2 : Int) ^ 110 = 1298074214633706907132624082305024 := by decide +kernel
theorem kb_le {k i : Nat} (hk : k ≤ 3) (hi : i ≤ 6) : KB k i ≤ 1298074214633706907132624082305024 := by
  rw [← p110]; exact pow2_mono (by omega)
theorem Ab.bn {x a : Int} {b : Nat} (h : Ab x a) (ha : a ≤ (2 : Int) ^ b) : Bn x b := by
  unfold Bn
  rw [← pw2] at ha
  unfold Ab at h
  omega
theorem p128 : (2 : Int) ^ 128 = 340282366920938463463374607431768211456 := by decide +kernel
theorem p200 : (2 : Int) ^ 200 = 1606938044258990275541962092341162602522202993782792835301376 := by decide +kernel
theorem Fr.ab {a b a1 b1 K : Int} (h : Fr a b a1 b1) (hk : Ab a1 K) : Ab a K := by
  obtain ⟨h0, h1, h2⟩ := h
  have hb1 : 0 < b1 := by omega
  have e1 : b * (-K) ≤ b * a1 := Int.mul_le_mul_of_nonneg_left hk.1 (Int.le_of_lt h0)
  have e2 : b * a1 ≤ b * K := Int.mul_le_mul_of_nonneg_left hk.2 (Int.le_of_lt h0)
  have hK : 0 ≤ K := ab_pos hk
  have e3 : b * K ≤ b1 * K := Int.mul_le_mul_of_nonneg_right h1 hK
  rw [← h2] at e1 e2
  constructor
  · refine Int.le_of_mul_le_mul_left (a := b1) ?_ hb1
    have e4 : b1 * a = a * b1 := Int.mul_comm _ _
    have e5 : b1 * -K = -(b1 * K) := Int.mul_neg _ _
    have e6 : b * -K = -(b * K) := Int.mul_neg _ _
    omega
  · refine Int.le_of_mul_le_mul_left (a := b1) ?_ hb1
    have e4 : b1 * a = a * b1 := Int.mul_comm _ _
    omega
theorem RelV.fr {Y n : Nat → Int} (h : RelV Y n) {i : Nat} (hi : i < 6) : Fr (n i) (n 5) (Y i) (Y 5) := ⟨h.1, h.2.1, h.2.2 i hi⟩
section Iv
variable {M : Nat → Nat → Int} {N : Nat → Int} {E O P : Nat → Nat → Int} {z : Nat → Int} {t q : Nat} {S : Nat → Nat}
theorem Inv.S6 (h : Inv M N E O P z t q S) {k : Nat} (hk : k ≤ t + 1) : S k ≤ q ∧ q ≤ 6 := by
  obtain ⟨⟨⟨h1, h2, h3, h4, hm⟩, -⟩, -⟩ := h
  have := S_mono hm hk (Nat.le_refl _)
  omega
theorem Inv.six_ab (h : Inv M N E O P z t q S) {k i : Nat} (hk : k ≤ t) (h1 : S k ≤ i) (h2 : i ≤ S (k + 1)) : ∀ j, j < 6 → Ab (six (blB z (k + i)) j) (384 * 1298074214633706907132624082305024) := fun j hj => by
  have hb := (h.2.1.1 k hk i h1 h2).2
  have hs := h.S6 (k := k + 1) (by omega)
  have ht := h.1.1.1
  exact (bd_six hb j hj).up (by have := kb_le (k := k) (i := i) (by omega) (by omega); omega)
theorem Inv.sm (h : Inv M N E O P z t q S) {w : Nat → Nat → Int} {k : Nat} (hk : k ≤ t) (hw : SmCh N (M 8) t w k) : RelV (six (joinV (fun _ => 0) (blB z (k + S (k + 1))) (hsV O P q t (t - k)))) (w k) ∧ ∀ i, i < 6 → Ab (six (joinV (fun _ => 0) (blB z (k + S (k + 1))) (hsV O P q t (t - k))) i) (2560 * 1298074214633706907132624082305024) := by
  have h1 := sm_all h.1 h.2.1 h.2.2.1 hw (t - k) (by omega) (by omega)
  rw [show t - (t - k) = k by omega] at h1
  refine ⟨h1, fun i hi => ?_⟩
  have hs := h.S6 (k := k + 1) (by omega)
  have ht := h.1.1.1
  have hb := (h.2.1.1 k hk (S (k + 1)) (h.1.1.2.2.2.2 k hk) (Nat.le_refl _)).2
  have hh := (hs_good h.1 (t - k) (by omega)).2
  rw [show t - (t - k) = k by omega] at hh
  have hj := bd_join (x := fun _ => 0) hb hh i hi
  refine hj.up ?_
  have e : KB k (S (k + 1)) * 2 ^ (8 * (q - S (k + 1)) + 16 * (t - k)) ≤ 1298074214633706907132624082305024 := by
    unfold KB
    rw [← Int.pow_add, ← p110]
    exact pow2_mono (by omega)
  omega
theorem Inv.ci (h : Inv M N E O P z t q S) : CI E O P t q := by
  obtain ⟨⟨⟨h1, h2, h3, h4, hm⟩, ⟨h6, h6'⟩, h7, h8, h9, h10⟩, -⟩ := id h
  refine ⟨⟨h6, h1, h6', h2⟩, fun k hk => ?_, fun k hk => ?_, fun i hi => ?_, fun k hk => ⟨(h9 k hk).1, (h9 k hk).2.1⟩⟩
  · have := h7 k hk
    have := S_mono hm (show k ≤ t + 1 by omega) (Nat.le_refl _)
    omega
  · have := h7 (k + 1) (by omega)
    omega
  · obtain ⟨g1, k, g2, g3, g4, g5⟩ := h8 i hi
    refine ⟨g1, by omega, by omega, ⟨by omega, by omega⟩⟩
theorem Inv.minv (h : Inv M N E O P z t q S) : MInv M N t q := by
  obtain ⟨⟨⟨h1, h2, h3, h4, hm⟩, h6, h7, h8, h9, h10⟩, hB, ⟨r0, ⟨r1, r2⟩, r3, r4, r5, r6⟩, hf⟩ := id h
  refine ⟨⟨r0.1, h1, r0.2, h2⟩, hf, ⟨fun i hi => ?_, fun i hi => ?_, ?_⟩, fun k hk i hi => ?_, fun k hk i hi => ⟨?_, ?_⟩, fun k hk => ⟨(r4 k hk).2.1, (r4 k hk).1.1⟩, fun k hk => ?_, fun i hi k hk => ?_, fun i hi => ?_, fun w a ha hw => ?_⟩
  · rw [r1 i hi]; exact h10.1 i hi
  · rw [r2 i hi]; exact h10.2.1 i hi
  · rw [r2 0 (by decide), r2 1 (by decide), r2 2 (by decide)]; exact h10.2.2
  · rw [r3 k hk i hi]; exact (h9 k hk).1 i hi
  · exact ((r4 k hk).2.fr hi).ab (h.six_ab hk (hm k hk) (Nat.le_refl _) i hi) |>.bn (by rw [p128]; decide)
  · exact ((r4 k hk).1.fr hi).ab (h.six_ab hk (Nat.le_refl _) (hm k hk) i hi) |>.bn (by rw [p128]; decide)
  · have hc := (hB.1 k (by omega) (S (k + 1)) (hm k (by omega)) (Nat.le_refl _)).1
    have key := sm_rel (x := fun _ => 0) (x1 := fun _ => 0) (x2 := fun _ => 0) (x3 := fun _ => 0) (f := P k) (k := fun j => P k (4 + j)) (p := fun i => N (6 * k + 6 + i)) (xx := fun _ => 0) hc goodH_blank (h9 k hk).2.2 _ rfl (r4 k (by omega)).2 (r5 k hk)
    rw [matV_f (f1 := P k) (fun i hi => r3 k hk i hi)]
    exact key.1
  · obtain ⟨g1, k', g2, g3, g4, g5⟩ := h8 i hi
    obtain ⟨f1, f2⟩ := r6 i hi k' g2 g3.1 g3.2
    have hb := (hB.1 k' g2 i g3.1 (by omega)).2
    have hs := h.S6 (k := k' + 1) (by omega)
    have hK := kb_le (k := k') (i := i) (by omega) (by omega)
    have a1 := (f1.ab (bd_gY hb g1)).bn (b := 200) (by rw [p200]; omega)
    have c4 := h.six_ab g2 g3.1 (by omega) 5 (by decide)
    have c5 := h.six_ab g2 (i := i + 1) (by omega) (by omega) 5 (by decide)
    have a3 := (f2.ab c5).bn (b := 200) (by rw [p200]; decide)
    have e4 : six (blB z (k' + i)) 5 = blB z (k' + i) 4 := rfl
    rw [e4] at c4
    have a2 : Bn (N (72 + 4 * i + 1)) 200 := Ab.bn (a := 384 * 1298074214633706907132624082305024) ⟨by have := f1.1; omega, by have := f1.2.1; have := c4.2; omega⟩ (by rw [p200]; decide)
    have a4 : Bn (N (72 + 4 * i + 3)) 200 := Ab.bn (a := 384 * 1298074214633706907132624082305024) ⟨by have := f2.1; omega, by have := f2.2.1; have := c4.2; omega⟩ (by rw [p200]; decide)
    have hk4 : k = 0 ∨ k = 1 ∨ k = 2 ∨ k = 3 := by omega
    rcases hk4 with e | e | e | e <;> subst e
    · exact a1
    · exact a2
    · exact a3
    · exact a4
  · obtain ⟨g1, k', g2, g3, g4, g5⟩ := h8 i hi
    obtain ⟨f1, f2⟩ := r6 i hi k' g2 g3.1 g3.2
    exact ⟨f1.1, f2.1⟩
  · obtain ⟨s1, s2⟩ := h.sm ha hw
    exact ⟨fun i hi => ((s1.fr hi).ab (s2 i hi)).bn (by rw [p128]; decide), s1.1⟩
/-- a question: the reference's fraction is the class's -/
theorem Inv.ask (h : Inv M N E O P z t q S) {M1 : Nat → Nat → Int} {N1 : Nat → Int} {kd tt e0 : Int} (hQ : QS M N t M1 N1) (hok : okQ t q kd tt e0) (hs : kd = 2 → SmCh N (M 8) t (sml N1) 0) :
    Fr (N1 (ixU kd tt e0)) (N1 (ixL kd tt e0)) (cN E O P z t q kd tt e0) (cD E O P z t q kd tt) := by
  obtain ⟨⟨⟨h1, h2, h3, h4, hm⟩, h6, h7, h8, h9, h10⟩, hB, ⟨r0, ⟨r1, r2⟩, r3, r4, r5, r6⟩, hf⟩ := id h
  have hN := hQ.2.2.2.1
  by_cases k3 : kd = 3
  · subst k3
    have hok' : 0 ≤ tt ∧ tt < (q : Int) ∧ 0 ≤ e0 ∧ e0 ≤ 1 := by unfold okQ at hok; omega
    obtain ⟨i, rfl⟩ : ∃ i : Nat, tt = (i : Int) := ⟨tt.toNat, by omega⟩
    obtain ⟨g1, k', g2, g3, g4, g5⟩ := h8 i (by omega)
    obtain ⟨f1, f2⟩ := r6 i (by omega) k' g2 g3.1 g3.2
    unfold ixU ixL cN cD
    rw [if_pos rfl, if_pos rfl, if_pos rfl, if_pos rfl, Int.toNat_natCast, g5, Int.toNat_natCast]
    by_cases e : e0 = 0
    · subst e
      rw [if_pos rfl, show (72 + 4 * (i : Int) + 2 * 0).toNat = 72 + 4 * i by omega, show (72 + 4 * (i : Int) + 2 * 0 + 1).toNat = 72 + 4 * i + 1 by omega, hN _ (by omega) (by omega), hN _ (by omega) (by omega)]
      exact f1
    · have e1 : e0 = 1 := by omega
      subst e1
      rw [if_neg (by decide), show (72 + 4 * (i : Int) + 2 * 1).toNat = 72 + 4 * i + 2 by omega, show (72 + 4 * (i : Int) + 2 * 1 + 1).toNat = 72 + 4 * i + 3 by omega, hN _ (by omega) (by omega), hN _ (by omega) (by omega)]
      exact f2
  · have hok' : 0 ≤ kd ∧ kd ≤ 2 ∧ 0 ≤ tt ∧ tt ≤ (t : Int) ∧ 0 ≤ e0 ∧ e0 ≤ 4 := by unfold okQ at hok; omega
    obtain ⟨k, rfl⟩ : ∃ i : Nat, tt = (i : Int) := ⟨tt.toNat, by omega⟩
    obtain ⟨e, rfl⟩ : ∃ i : Nat, e0 = (i : Int) := ⟨e0.toNat, by omega⟩
    have tl : ∀ c : Nat → Int, tellN c (e : Int) = six c e := fun c => by
      have he : e = 0 ∨ e = 1 ∨ e = 2 ∨ e = 3 ∨ e = 4 := by omega
      rcases he with g | g | g | g | g <;> subst g <;> simp [tellN, six] <;> omega
    have hfI : fI E t q k = k + S (k + 1) := by
      unfold fI
      by_cases c : k < t
      · rw [if_pos c]; have := h7 (k + 1) (by omega); omega
      · rw [if_neg c]; have : k = t := by omega
        rw [this, h4]
    unfold ixU ixL cN cD
    rw [if_neg k3, if_neg k3, if_neg k3, if_neg k3, Int.toNat_natCast, tl]
    by_cases k0 : kd = 0
    · subst k0
      unfold bvec
      rw [if_pos rfl, h7 k (by omega), Int.toNat_natCast, show (24 * (0 : Int) + 6 * (k : Int) + (e : Int)).toNat = 6 * k + e by omega, show (24 * (0 : Int) + 6 * (k : Int) + 5).toNat = 6 * k + 5 by omega, hN _ (by omega) (by omega), hN _ (by omega) (by omega)]
      exact (r4 k (by omega)).1.fr (i := e) (by omega)
    · by_cases k1 : kd = 1
      · subst k1
        unfold bvec
        rw [if_neg (by decide), if_pos rfl, hfI, show (24 * (1 : Int) + 6 * (k : Int) + (e : Int)).toNat = 24 + 6 * k + e by omega, show (24 * (1 : Int) + 6 * (k : Int) + 5).toNat = 24 + 6 * k + 5 by omega, hN _ (by omega) (by omega), hN _ (by omega) (by omega)]
        exact (r4 k (by omega)).2.fr (i := e) (by omega)
      · have k2 : kd = 2 := by omega
        subst k2
        unfold bvec
        rw [if_neg (by decide), if_neg (by decide), hfI, show (24 * (2 : Int) + 6 * (k : Int) + (e : Int)).toNat = 48 + 6 * k + e by omega, show (24 * (2 : Int) + 6 * (k : Int) + 5).toNat = 48 + 6 * k + 5 by omega]
        have hw := hs rfl
        have hwk : SmCh N (M 8) t (sml N1) k := ⟨hw.1, fun j q1 q2 => hw.2 j (by omega) q2⟩
        exact (h.sm (by omega) hwk).1.fr (i := e) (by omega)
/-- a question's fraction is small -/
theorem Inv.small (h : Inv M N E O P z t q S) {kd tt e0 : Int} (hok : okQ t q kd tt e0) : N127 (cN E O P z t q kd tt e0) (cD E O P z t q kd tt) := by
  obtain ⟨⟨⟨h1, h2, h3, h4, hm⟩, h6, h7, h8, h9, h10⟩, hB, ⟨r0, ⟨r1, r2⟩, r3, r4, r5, r6⟩, hf⟩ := id h
  have fin : ∀ {a b : Int}, Ab a (16384 * 1298074214633706907132624082305024) → 0 < b → b ≤ 16384 * 1298074214633706907132624082305024 → N127 a b := fun ha hb hb2 => by
    unfold Ab at ha; unfold N127; omega
  by_cases k3 : kd = 3
  · subst k3
    have hok' : 0 ≤ tt ∧ tt < (q : Int) ∧ 0 ≤ e0 ∧ e0 ≤ 1 := by unfold okQ at hok; omega
    obtain ⟨i, rfl⟩ : ∃ i : Nat, tt = (i : Int) := ⟨tt.toNat, by omega⟩
    obtain ⟨g1, k', g2, g3, g4, g5⟩ := h8 i (by omega)
    have hb := hB.1 k' g2 i g3.1 (by omega)
    have hs := h.S6 (k := k' + 1) (by omega)
    have hK := kb_le (k := k') (i := i) (by omega) (by omega)
    have a1 := (bd_gY hb.2 g1).up (b := 16384 * 1298074214633706907132624082305024) (by omega)
    have c4 := h.six_ab g2 g3.1 (by omega) 5 (by decide)
    have c5 := h.six_ab g2 (i := i + 1) (by omega) (by omega) 5 (by decide)
    have e4 : six (blB z (k' + i)) 5 = blB z (k' + i) 4 := rfl
    rw [e4] at c4
    unfold cN cD
    rw [if_pos rfl, if_pos rfl, Int.toNat_natCast, g5, Int.toNat_natCast]
    have hd := hb.1.1.2.2
    by_cases e : e0 = 0
    · rw [if_pos e]
      exact fin a1 hd (by have := c4.2; omega)
    · rw [if_neg e]
      exact fin (c5.up (by decide)) hd (by have := c4.2; omega)
  · have hok' : 0 ≤ kd ∧ kd ≤ 2 ∧ 0 ≤ tt ∧ tt ≤ (t : Int) ∧ 0 ≤ e0 ∧ e0 ≤ 4 := by unfold okQ at hok; omega
    obtain ⟨k, rfl⟩ : ∃ i : Nat, tt = (i : Int) := ⟨tt.toNat, by omega⟩
    obtain ⟨e, rfl⟩ : ∃ i : Nat, e0 = (i : Int) := ⟨e0.toNat, by omega⟩
    have tl : ∀ c : Nat → Int, tellN c (e : Int) = six c e := fun c => by
      have he : e = 0 ∨ e = 1 ∨ e = 2 ∨ e = 3 ∨ e = 4 := by omega
      rcases he with g | g | g | g | g <;> subst g <;> simp [tellN, six] <;> omega
    have hfI : fI E t q k = k + S (k + 1) := by
      unfold fI
      by_cases c : k < t
      · rw [if_pos c]; have := h7 (k + 1) (by omega); omega
      · rw [if_neg c]; have : k = t := by omega
        rw [this, h4]
    unfold cN cD
    rw [if_neg k3, if_neg k3, Int.toNat_natCast, tl]
    by_cases k0 : kd = 0
    · subst k0
      unfold bvec
      rw [if_pos rfl, h7 k (by omega), Int.toNat_natCast]
      have g := h.six_ab (k := k) (i := S k) (by omega) (Nat.le_refl _) (hm k (by omega))
      exact fin ((g e (by omega)).up (by decide)) (hB.1 k (by omega) (S k) (Nat.le_refl _) (hm k (by omega))).1.1.2.2 (Int.le_trans (g 5 (by decide)).2 (by decide))
    · by_cases k1 : kd = 1
      · subst k1
        unfold bvec
        rw [if_neg (by decide), if_pos rfl, hfI]
        have g := h.six_ab (k := k) (i := S (k + 1)) (by omega) (hm k (by omega)) (Nat.le_refl _)
        exact fin ((g e (by omega)).up (by decide)) (hB.1 k (by omega) (S (k + 1)) (hm k (by omega)) (Nat.le_refl _)).1.1.2.2 (Int.le_trans (g 5 (by decide)).2 (by decide))
      · have k2 : kd = 2 := by omega
        subst k2
        unfold bvec
        rw [if_neg (by decide), if_neg (by decide), hfI]
        have hs := h.S6 (k := k + 1) (by omega)
        have hb := hB.1 k (by omega) (S (k + 1)) (hm k (by omega)) (Nat.le_refl _)
        have hh := hs_good h.1 (t - k) (by omega)
        have hh2 := hh.2
        rw [show t - (t - k) = k by omega] at hh2
        have e1 : KB k (S (k + 1)) * 2 ^ (8 * (q - S (k + 1)) + 16 * (t - k)) ≤ 1298074214633706907132624082305024 := by
          unfold KB
          rw [← Int.pow_add, ← p110]
          exact pow2_mono (by omega)
        have g := fun i hi => (bd_join (x := fun _ => 0) hb.2 hh2 i hi).up (b := 2560 * 1298074214633706907132624082305024) (by omega)
        exact fin ((g e (by omega)).up (by decide)) (join_pos hb.1 hh.1) (Int.le_trans (g 5 (by decide)).2 (by decide))
end Iv
