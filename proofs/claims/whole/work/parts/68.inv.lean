/-! what holds between two calls -/
/-- the order that the class keeps: S k is the first observation of time k -/
def OrC (E O P : Nat → Nat → Int) (t q : Nat) (S : Nat → Nat) : Prop :=
  (t ≤ 3 ∧ q ≤ 6 ∧ S 0 = 0 ∧ S (t + 1) = q ∧ ∀ k, k ≤ t → S k ≤ S (k + 1)) ∧ (E 0 0 = (t : Int) ∧ E 0 1 = (q : Int)) ∧ (∀ k, k ≤ t → E 1 k = ((k + S k : Nat) : Int)) ∧
  (∀ i, i < q → okO (O i 0) (O i 1) (O i 2) (O i 3) ∧ ∃ k, k ≤ t ∧ (S k ≤ i ∧ i < S (k + 1)) ∧ O i 4 = (k : Int) ∧ O i 5 = ((k + i : Nat) : Int)) ∧
  (∀ k, k < t → okP (P k)) ∧ okP (P 3)
def KB (k i : Nat) : Int := 2 ^ (14 + 8 * i + 16 * k)
def IB (O P : Nat → Nat → Int) (z : Nat → Int) (t : Nat) (S : Nat → Nat) : Prop :=
  (∀ k, k ≤ t → ∀ i, S k ≤ i → i ≤ S (k + 1) → Good (blB z (k + i)) ∧ Bd (blB z (k + i)) (KB k i)) ∧
  (∀ k, k ≤ t → ∀ i, S k ≤ i → i < S (k + 1) → ∀ j, j < 9 → blB z (k + i + 1) j = learnV (blB z (k + i)) (O i 0) (O i 1) (O i 2) (O i 3) j) ∧
  (∀ k, k < t → ∀ j, j < 9 → blB z (k + S (k + 1) + 1) j = noiseV (onV (fun _ => 0) (blB z (k + S (k + 1))) (P k)) (P k 4) (P k 5) (P k 6) j)
/-- two fractions are one -/
def Fr (a b a1 b1 : Int) : Prop := 0 < b ∧ b ≤ b1 ∧ a * b1 = b * a1
def IR (M : Nat → Nat → Int) (N : Nat → Int) (O P : Nat → Nat → Int) (z : Nat → Int) (t q : Nat) (S : Nat → Nat) : Prop :=
  (M 0 0 = (t : Int) ∧ M 0 1 = (q : Int)) ∧ ((∀ i, i < 4 → M 6 i = P 3 i) ∧ ∀ i, i < 3 → M 7 i = P 3 (4 + i)) ∧
  (∀ k, k < t → ∀ i, i < 4 → M 8 (4 * k + i) = P k i) ∧
  (∀ k, k ≤ t → RelV (six (blB z (k + S k))) (fun i => N (6 * k + i)) ∧ RelV (six (blB z (k + S (k + 1)))) (fun i => N (24 + 6 * k + i))) ∧
  (∀ k, k < t → ∀ i, i < 6 → N (6 * k + 6 + i) = advV (fun j => N (24 + 6 * k + j)) (P k) (fun j => P k (4 + j)) i) ∧
  ∀ i, i < q → ∀ k, k ≤ t → S k ≤ i → i < S (k + 1) → Fr (N (72 + 4 * i)) (N (72 + 4 * i + 1)) (gY (six (blB z (k + i))) (O i 0) (O i 1) (O i 3)) (blB z (k + i) 4) ∧ Fr (N (72 + 4 * i + 2)) (N (72 + 4 * i + 3)) (blB z (k + i + 1) 4) (blB z (k + i) 4)
theorem S_mono {S : Nat → Nat} {t a b : Nat} (h : ∀ k, k ≤ t → S k ≤ S (k + 1)) (hab : a ≤ b) (hb : b ≤ t + 1) : S a ≤ S b := by
  induction b with
  | zero => have : a = 0 := by omega
            rw [this]; exact Nat.le_refl _
  | succ n ih =>
    by_cases e : a = n + 1
    · rw [e]; exact Nat.le_refl _
    · exact Nat.le_trans (ih (by omega) (by omega)) (h n (by omega))
theorem OrC.at {E O P : Nat → Nat → Int} {t q : Nat} {S : Nat → Nat} (h : OrC E O P t q S) {i k : Nat} (hi : i < q) (hk : k ≤ t) : O i 4 = (k : Int) ↔ (S k ≤ i ∧ i < S (k + 1)) := by
  obtain ⟨⟨h1, h2, h3, h4, hm⟩, h6, h7, h8, h9⟩ := h
  obtain ⟨-, k1, g1, g2, g3, g4⟩ := h8 i hi
  constructor
  · intro e
    have : k = k1 := by omega
    rw [this]; exact g2
  · intro e
    have : k = k1 := by
      rcases Nat.lt_trichotomy k k1 with g | g | g
      · have := S_mono hm (show k + 1 ≤ k1 by omega) (by omega); omega
      · exact g
      · have := S_mono hm (show k1 + 1 ≤ k by omega) (by omega); omega
    omega
/-- observations a, a + 1, .. are learned -/
def lr (O : Nat → Nat → Int) (u : Nat → Int) (a : Nat) : Nat → Nat → Int
  | 0 => u
  | n + 1 => learnV (lr O u a n) (O (a + n) 0) (O (a + n) 1) (O (a + n) 2) (O (a + n) 3)
theorem lrnTo_lr {E O P : Nat → Nat → Int} {t q : Nat} {S : Nat → Nat} (h : OrC E O P t q S) {k : Nat} (hk : k ≤ t) (u : Nat → Int) : ∀ m, m ≤ q → lrnTo O (k : Int) u m = lr O u (S k) (min m (S (k + 1)) - S k)
  | 0, _ => by rw [Nat.zero_min, Nat.zero_sub]; rfl
  | m + 1, hm => by
    have hs := h.1.2.2.2.2 k hk
    have ha := h.at (i := m) (by omega) hk
    simp only [lrnTo]
    by_cases c : O m 4 = (k : Int)
    · have c1 := ha.mp c
      rw [if_pos c, lrnTo_lr h hk u m (by omega)]
      have e1 : min m (S (k + 1)) - S k = m - S k := by omega
      have e2 : min (m + 1) (S (k + 1)) - S k = (m - S k) + 1 := by omega
      rw [e1, e2]
      simp only [lr]
      rw [show S k + (m - S k) = m by omega]
    · have c1 : ¬ (S k ≤ m ∧ m < S (k + 1)) := fun g => c (ha.mpr g)
      rw [if_neg c, lrnTo_lr h hk u m (by omega)]
      congr 1
      omega
theorem lr_congr {O : Nat → Nat → Int} {u u1 : Nat → Int} {a : Nat} (h : ∀ j, j < 9 → u j = u1 j) : ∀ n, ∀ j, j < 9 → lr O u a n j = lr O u1 a n j
  | 0 => h
  | n + 1 => fun j hj => learnV_congr (lr_congr h n) j hj
theorem lr_comm {O : Nat → Nat → Int} {u : Nat → Int} {a : Nat} (h0 h1 r x : Int) : ∀ n, ∀ j, j < 9 → lr O (learnV u h0 h1 r x) a n j = learnV (lr O u a n) h0 h1 r x j
  | 0 => fun _ _ => rfl
  | n + 1 => fun j hj => by
    simp only [lr]
    rw [learnV_congr (lr_comm h0 h1 r x n) j hj]
    exact learn_comm _ _ _ _ _ _ _ _ _ j hj
theorem sixJ_congr {x x1 u u1 v v1 : Nat → Int} (hu : ∀ i, i < 9 → u i = u1 i) (hv : ∀ i, i < 9 → v i = v1 i) : ∀ i, i < 6 → six (joinV x u v) i = six (joinV x1 u1 v1) i := fun i hi => by
  obtain ⟨j1, j2, j3, j4, j7, j8⟩ := joinV_congr (x := x) (x1 := x1) hu hv
  rcases i6 hi with e | e | e | e | e | e <;> subst e <;> simp only [six]
  · exact j7
  · exact j8
  · exact j3
  · rw [j2]
  · exact j1
  · exact j4
/-- what the class learned before a join may as well be learned by the other side -/
theorem lr_move {O P : Nat → Nat → Int} {z : Nat → Int} {t : Nat} {S : Nat → Nat} (hB : IB O P z t S) {k : Nat} (hk : k ≤ t) : ∀ n, S k + n ≤ S (k + 1) → ∀ h : Nat → Int, ∀ i, i < 6 → six (joinV (fun _ => 0) (blB z (k + (S k + n))) h) i = six (joinV (fun _ => 0) (blB z (k + S k)) (lr O h (S k) n)) i
  | 0, _, _ => fun _ _ => rfl
  | n + 1, hn, h => fun i hi => by
    have hl := hB.2.1 k hk (S k + n) (by omega) (by omega)
    rw [show k + (S k + (n + 1)) = k + (S k + n) + 1 by omega]
    rw [sixJ_congr (x1 := fun _ => 0) (v1 := h) (u1 := learnV (blB z (k + (S k + n))) (O (S k + n) 0) (O (S k + n) 1) (O (S k + n) 2) (O (S k + n) 3)) (fun j hj => hl j hj) (fun _ _ => rfl) i hi]
    rw [join_learn (fun _ => 0) (fun _ => 0) _ _ _ _ _ _ i hi, lr_move hB hk n (by omega) _ i hi]
    exact sixJ_congr (fun _ _ => rfl) (lr_comm _ _ _ _ n) i hi
theorem goodH_lr {O : Nat → Nat → Int} {u : Nat → Int} {a : Nat} (h : GoodH u) : ∀ n, (∀ i, a ≤ i → i < a + n → okO (O i 0) (O i 1) (O i 2) (O i 3)) → GoodH (lr O u a n)
  | 0, _ => h
  | n + 1, ho => goodH_learn (goodH_lr h n (fun i h1 h2 => ho i h1 (by omega))) (ho (a + n) (by omega) (by omega)).2.2.1.1
theorem bd_lr {O : Nat → Nat → Int} {u : Nat → Int} {a : Nat} {K : Int} (h : Bd u K) : ∀ n, (∀ i, a ≤ i → i < a + n → okO (O i 0) (O i 1) (O i 2) (O i 3)) → Bd (lr O u a n) (256 ^ n * K)
  | 0, _ => by rw [Int.pow_zero, Int.one_mul]; exact h
  | n + 1, ho => by
    have := bd_learn (bd_lr h n (fun i h1 h2 => ho i h1 (by omega))) (ho (a + n) (by omega) (by omega))
    have e : (256 : Int) ^ (n + 1) * K = 256 * (256 ^ n * K) := by rw [Int.pow_succ]; grind
    rw [e]; exact this
/-- hindsight -/
theorem hs_good {E O P : Nat → Nat → Int} {t q : Nat} {S : Nat → Nat} (h : OrC E O P t q S) : ∀ d, d ≤ t → GoodH (hsV O P q t d) ∧ Bd (hsV O P q t d) (2 ^ (8 * (q - S (t - d + 1)) + 16 * d))
  | 0, _ => ⟨goodH_blank, by
      have e : q - S (t - 0 + 1) = 0 := by have := h.1.2.2.2.1; rw [Nat.sub_zero]; omega
      rw [e]; exact bd_blank⟩
  | d + 1, hd => by
    obtain ⟨g1, g2⟩ := hs_good h d (by omega)
    obtain ⟨⟨h1, h2, h3, h4, hm⟩, h6, h7, h8, h9, h10⟩ := id h
    have hp := h9 (t - d - 1) (by omega)
    have hs := hm (t - d) (by omega)
    have hq := S_mono hm (show t - d + 1 ≤ t + 1 by omega) (Nat.le_refl _)
    have eL := lrnTo_lr h (k := t - d) (by omega) (hsV O P q t d) q (Nat.le_refl q)
    have eN : min q (S (t - d + 1)) - S (t - d) = S (t - d + 1) - S (t - d) := by omega
    rw [eN] at eL
    have ho : ∀ i, S (t - d) ≤ i → i < S (t - d) + (S (t - d + 1) - S (t - d)) → okO (O i 0) (O i 1) (O i 2) (O i 3) := fun i q1 q2 => (h8 i (by omega)).1
    simp only [hsV]
    rw [eL]
    refine ⟨goodH_back (goodH_noise (goodH_lr g1 _ ho) hp.2.2), ?_⟩
    have hb := bd_back (x := fun _ => 0) (bd_lr g2 _ ho) hp
    have e : (65536 : Int) * (256 ^ (S (t - d + 1) - S (t - d)) * 2 ^ (8 * (q - S (t - d + 1)) + 16 * d)) = 2 ^ (8 * (q - S (t - (d + 1) + 1)) + 16 * (d + 1)) := by
      have e1 : (65536 : Int) = 2 ^ 16 := by decide
      have e2 : (256 : Int) = 2 ^ 8 := by decide
      rw [e1, e2, ← Int.pow_mul, ← Int.pow_add, ← Int.pow_add]
      congr 1
      rw [show t - (d + 1) + 1 = t - d by omega]
      omega
    rw [e] at hb
    exact hb
theorem matV_f {u p f f1 : Nat → Int} (h : ∀ i, i < 4 → f i = f1 i) : matV u p f = matV u p f1 := by
  funext i
  unfold matV
  rw [h 0 (by decide), h 1 (by decide), h 2 (by decide), h 3 (by decide)]
theorem smV_f {u p x f f1 : Nat → Int} (h : ∀ i, i < 4 → f i = f1 i) : smV u p x f = smV u p x f1 := by
  have e := matV_f (u := u) (p := p) h
  unfold smV matG
  rw [e]
/-- the smoothed numbers of the reference are those of the class's join -/
theorem sm_all {M : Nat → Nat → Int} {N : Nat → Int} {E O P : Nat → Nat → Int} {z : Nat → Int} {t q : Nat} {S : Nat → Nat} (hO : OrC E O P t q S) (hB : IB O P z t S) (hR : IR M N O P z t q S) {w : Nat → Nat → Int} {a : Nat} (hw : SmCh N (M 8) t w a) : ∀ d, d ≤ t → a ≤ t - d → RelV (six (joinV (fun _ => 0) (blB z (t - d + S (t - d + 1))) (hsV O P q t d))) (w (t - d))
  | 0, _, _ => by
    have h := (hR.2.2.2.1 t (Nat.le_refl t)).2
    rw [Nat.sub_zero]
    refine h.congr (fun i hi => join_blank _ _ i hi) (fun i hi => hw.1 i hi)
  | d + 1, hd, ha => by
    have ih := sm_all hO hB hR hw d (by omega) (by omega)
    obtain ⟨k, hk⟩ : ∃ k, k = t - (d + 1) := ⟨_, rfl⟩
    have hk1 : t - d = k + 1 := by omega
    rw [← hk]
    rw [hk1] at ih
    obtain ⟨⟨h1, h2, h3, h4, hm⟩, h6, h7, h8, h9, h10⟩ := id hO
    have hs := hm (k + 1) (by omega)
    have hq := S_mono hm (show k + 1 + 1 ≤ t + 1 by omega) (Nat.le_refl _)
    have mv := lr_move hB (k := k + 1) (by omega) (S (k + 1 + 1) - S (k + 1)) (by omega) (hsV O P q t d)
    rw [show S (k + 1) + (S (k + 1 + 1) - S (k + 1)) = S (k + 1 + 1) by omega] at mv
    have eL := lrnTo_lr hO (k := k + 1) (by omega) (hsV O P q t d) q (Nat.le_refl q)
    have eN : min q (S (k + 1 + 1)) - S (k + 1) = S (k + 1 + 1) - S (k + 1) := by omega
    rw [eN] at eL
    have ho : ∀ i, S (k + 1) ≤ i → i < S (k + 1) + (S (k + 1 + 1) - S (k + 1)) → okO (O i 0) (O i 1) (O i 2) (O i 3) := fun i q1 q2 => (h8 i (by omega)).1
    have hg := goodH_lr (hs_good hO d (by omega)).1 _ ho
    have hc := (hB.1 k (by omega) (S (k + 1)) (hm k (by omega)) (Nat.le_refl _)).1
    have hP := h9 k (by omega)
    have hb := hB.2.2 k (by omega)
    have key := sm_rel (x := fun _ => 0) (x1 := fun _ => 0) (x2 := fun _ => 0) (x3 := fun _ => 0) (f := P k) (k := fun j => P k (4 + j)) (p := fun i => N (6 * k + 6 + i)) (xx := w (k + 1)) hc hg hP.2.2 _ rfl (hR.2.2.2.1 k (by omega)).2 (hR.2.2.2.2.1 k (by omega))
    have hx := ih.congr (Y1 := six (joinV (fun _ => 0) (noiseV (onV (fun _ => 0) (blB z (k + S (k + 1))) (P k)) (P k 4) (P k 5) (P k 6)) (lr O (hsV O P q t d) (S (k + 1)) (S (k + 1 + 1) - S (k + 1))))) (n1 := w (k + 1)) (fun i hi => by
      rw [mv i hi]
      refine sixJ_congr (fun j hj => ?_) (fun _ _ => rfl) i hi
      rw [show k + 1 + S (k + 1) = k + S (k + 1) + 1 by omega]
      exact (hb j hj).symm) (fun _ _ => rfl)
    have hsr := hw.2 k (by omega) (by omega)
    rw [smV_f (f1 := P k) (fun i hi => hR.2.2.1 k (by omega) i hi)] at hsr
    have fin := key.2 (w k) hx hsr
    refine fin.congr (fun i hi => ?_) (fun _ _ => rfl)
    refine sixJ_congr (fun _ _ => rfl) (fun j hj => ?_) i hi
    simp only [hsV]
    rw [hk1, eL, show k + 1 - 1 = k by omega]
