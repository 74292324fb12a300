/-- the smoothed times from a on, one behind another; w: their six numbers -/
def SmCh (N C : Nat → Int) (t : Nat) (w : Nat → Nat → Int) (a : Nat) : Prop := (∀ i, i < 6 → w t i = N (24 + 6 * t + i)) ∧ ∀ k, a ≤ k → k < t → Shr (smV (fun i => N (24 + 6 * k + i)) (fun i => N (6 * k + 6 + i)) (w (k + 1)) (fun i => C (4 * k + i))) (w k)
def sml (N : Nat → Int) : Nat → Nat → Int := fun k i => N (48 + 6 * k + i)
/-- what holds of the reference between calls -/
def MInv (M : Nat → Nat → Int) (N : Nat → Int) (t q : Nat) : Prop :=
  (M 0 0 = (t : Int) ∧ t ≤ 3 ∧ M 0 1 = (q : Int) ∧ q ≤ 6) ∧ (M 0 2 = 0 ∨ (M 0 2 = 1 ∧ SmCh N (M 8) t (sml N) 0)) ∧
  ((∀ i, i < 4 → -3 ≤ M 6 i ∧ M 6 i ≤ 3) ∧ (∀ i, i < 3 → -99 ≤ M 7 i ∧ M 7 i ≤ 99) ∧ Pd (M 7 0) (M 7 1) (M 7 2)) ∧ (∀ k, k < t → ∀ i, i < 4 → -3 ≤ M 8 (4 * k + i) ∧ M 8 (4 * k + i) ≤ 3) ∧
  (∀ k, k ≤ t → ∀ i, i < 6 → Bn (N (24 + 6 * k + i)) 128 ∧ Bn (N (6 * k + i)) 128) ∧ (∀ k, k ≤ t → 0 < N (24 + 6 * k + 5) ∧ 0 < N (6 * k + 5)) ∧
  (∀ k, k < t → 0 < matV (fun i => N (24 + 6 * k + i)) (fun i => N (6 * k + 6 + i)) (fun i => M 8 (4 * k + i)) 4) ∧
  (∀ i, i < q → ∀ k, k < 4 → Bn (N (72 + 4 * i + k)) 200) ∧ (∀ i, i < q → 0 < N (72 + 4 * i + 1) ∧ 0 < N (72 + 4 * i + 3)) ∧
  ∀ (w : Nat → Nat → Int) (a : Nat), a ≤ t → SmCh N (M 8) t w a → (∀ i, i < 6 → Bn (w a i) 128) ∧ 0 < w a 5
/-- behind a question: the work places and, maybe, the smoothed numbers have changed -/
def QS (M : Nat → Nat → Int) (N : Nat → Int) (t : Nat) (M1 : Nat → Nat → Int) (N1 : Nat → Int) : Prop :=
  Rep M1 N1 ∧ (M1 0 0 = M 0 0 ∧ M1 0 1 = M 0 1) ∧ (M1 6 = M 6 ∧ M1 7 = M 7 ∧ M1 8 = M 8) ∧ (∀ j, j < 96 → (j < 48 ∨ 72 ≤ j) → N1 j = N j) ∧ (M1 0 2 = 0 ∨ (M1 0 2 = 1 ∧ SmCh N (M 8) t (sml N1) 0))
theorem SmCh.congr {N C : Nat → Int} {t a : Nat} {w w1 : Nat → Nat → Int} (h : SmCh N C t w a) (e : ∀ k, a ≤ k → k ≤ t → ∀ i, i < 6 → w1 k i = w k i) (hat : a ≤ t) : SmCh N C t w1 a := by
  refine ⟨fun i hi => by rw [e t hat (Nat.le_refl t) i hi]; exact h.1 i hi, fun k h1 h2 i hi => ?_⟩
  rw [e k h1 (by omega) i hi, h.2 k h1 h2 i hi]
  have ev : smV (fun i => N (24 + 6 * k + i)) (fun i => N (6 * k + 6 + i)) (w (k + 1)) (fun i => C (4 * k + i)) = smV (fun i => N (24 + 6 * k + i)) (fun i => N (6 * k + 6 + i)) (w1 (k + 1)) (fun i => C (4 * k + i)) := by
    have hx : ∀ i, i < 6 → w1 (k + 1) i = w (k + 1) i := fun i hi => e (k + 1) (by omega) (by omega) i hi
    funext i
    simp only [smV, smW, hx 0 (by decide), hx 1 (by decide), hx 2 (by decide), hx 3 (by decide), hx 4 (by decide), hx 5 (by decide)]
  rw [ev]
theorem shr_congr {v v1 w w1 : Nat → Int} (h : Shr v w) (hv : v = v1) (hw : ∀ i, i < 6 → w1 i = w i) : Shr v1 w1 := fun i hi => by
  rw [hw i hi, h i hi, hv]
set_option maxRecDepth 100000 in
set_option maxHeartbeats 4000000 in
theorem c_M_smoothAll (l : Launch) (D : va_G) (cs : Nat → ClassId) (ad : Nat → Nat) (M : Nat → Nat → Int) (N : Nat → Int) (t q : Nat) (hR : Rep M N) (hI : MInv M N t q) : Ct (S := Nat → Nat → Int) l D (tyL cs) y_M_smoothAll b_M_smoothAll 2 none (rm 9) [.ref (ad 0)] (wM ad cs M) (fun M1 => ∃ N1, QS M N t M1 N1 ∧ SmCh N (M 8) t (sml N1) 0) (fun _ => none) (fun M1 => wM ad cs M1) := by
  refine Ct.introV (by decide) (Nat.le_of_ble_eq_true rfl) (fun _ => rfl) ?_
  intro p e s m below meth c A args Q H locs X hnm hw kr ls hl
  have X : CX D (tyL cs) R_M b_M_smoothAll 2 p m c s args := X
  have hl : lv_has ls 2 [(0, .ref (ad 0))] := hl
  obtain ⟨⟨ht, ht3, hq, hq6⟩, hs, -, hmv, hbn, hup, hdet, -, -, hB⟩ := hI
  refine sy_aload_n X d_M_smoothAll_0 hl 0 rfl ?_
  refine m_get (v := .int (iI (M 0 2))) X hw 7 (by decide) (by show some (Value.int (iI (M 0 2))) = _; rw [show M 0 2 = M 0 2 from rfl]) (tt_of k516 rfl) d_M_smoothAll_1 ?_
  refine sy_if_ne (tgt := 58) X d_M_smoothAll_4 (by decide) (by rcases hs with h | h; rw [h]; exact ⟨by decide, by decide⟩; rw [h.1]; exact ⟨by decide, by decide⟩) (fun c1 => ?_) (fun c1 => ?_)
  · exact kr _ _ _ _ _ d_M_smoothAll_58 hw (by rcases hs with h | h; (first | exact absurd h (by assumption) | omega); exact ⟨N, ⟨hR, ⟨rfl, rfl⟩, ⟨rfl, rfl, rfl⟩, fun _ _ _ => rfl, Or.inr h⟩, h.2⟩)
  · refine sy_aload_n X d_M_smoothAll_7 hl 0 rfl ?_
    refine sy_bipush X d_M_smoothAll_8 (by decide) ?_
    refine sy_bipush X d_M_smoothAll_10 (by decide) ?_
    refine sy_aload_n X d_M_smoothAll_12 hl 0 rfl ?_
    refine m_get (v := .int (iI (t : Int))) X hw 5 (by decide) (by show some (Value.int (iI (M 0 0))) = _; rw [ht]) (tt_of k514 rfl) d_M_smoothAll_13 ?_
    refine sy_imul X d_M_smoothAll_16 ?_
    refine sy_iadd X d_M_smoothAll_17 ?_
    refine sy_bipush X d_M_smoothAll_18 (by decide) ?_
    refine sy_bipush X d_M_smoothAll_20 (by decide) ?_
    refine sy_aload_n X d_M_smoothAll_22 hl 0 rfl ?_
    refine m_get (v := .int (iI (t : Int))) X hw 5 (by decide) (by show some (Value.int (iI (M 0 0))) = _; rw [ht]) (tt_of k514 rfl) d_M_smoothAll_23 ?_
    refine sy_imul X d_M_smoothAll_26 ?_
    refine sy_iadd X d_M_smoothAll_27 ?_
    refine call_Vv (Xs := []) (b := ad 0) (As := [.int (iI (48 + (6 * (t : Int)))), .int (iI (24 + (6 * (t : Int))))]) (rest := []) X lk_M_104 (c_M_keep l D cs ad M N (48 + 6 * t) (24 + 6 * t) (by omega) (by omega) (by omega) hR) ⟨by decide, by decide⟩ rcv_M hw rfl hl.1 (Nat.le_of_ble_eq_true rfl) d_M_smoothAll_28 rfl rfl ⟨Nat.zero_le _, Nat.zero_le _⟩ (fun A1 H locs pk hw => ?_)
    obtain ⟨B1, pr, ps, pv⟩ := pk
    refine sy_aload_n X d_M_smoothAll_31 hl 0 rfl ?_
    refine m_get (v := .int (iI (t : Int))) X hw 5 (by decide) (by show some (Value.int (iI (A1 0 0))) = _; rw [show (A1) 0 0 = A1 0 0 from rfl, ps.1, ht]) (tt_of k514 rfl) d_M_smoothAll_32 ?_
    refine sy_iconst X d_M_smoothAll_35 ?_
    refine sy_isub X d_M_smoothAll_36 ?_
    refine sy_istore_n (lv1 := [(1, .int (iI ((t : Int) - 1))), (0, .ref (ad 0))]) X d_M_smoothAll_37 hl rfl (by decide) rfl (fun ls hl => ?_)
    have key : ∀ (n : Nat) (g0 : Nat) (M1 : Nat → Nat → Int) (N1 : Nat → Int) (H : Heap) (locs : List Loc) (ls : Array Slot), g0 ≤ t → g0 < n → Rep M1 N1 → Sm M M1 → SmCh N (M 8) t (sml N1) g0 → (∀ j, j < 96 → (j < 48 ∨ 72 ≤ j) → N1 j = N j) → HW D A s.heap (wM ad cs M1) H locs → lv_has ls 2 [(0, .ref (ad 0)), (1, .int (iI ((g0 : Int) - 1)))] → W p l e (rm 9) s m args below meth c H locs 0 0 Q (F0 m 38 ls []) := by
      intro n
      induction n with
      | zero =>
        intro g0 M1 N1 H locs ls f1 f2 f3 f4 f5 f6 hw hl
        exfalso; omega
      | succ n ih_key =>
        intro g0 M1 N1 H locs ls f1 f2 f3 f4 f5 f6 hw hl
        refine sy_iload_n X d_M_smoothAll_38 hl 1 rfl ?_
        refine sy_if_lt (tgt := 53) X d_M_smoothAll_39 (by decide) ⟨by omega, by omega⟩ (fun c2 => ?_) (fun c2 => ?_)
        · refine sy_aload_n X d_M_smoothAll_53 hl 0 rfl ?_
          refine sy_iconst X d_M_smoothAll_54 ?_
          refine m_putz X hw (by decide) (tt_of k516 rfl) d_M_smoothAll_55 (fun H locs hw => ?_)
          have hg : g0 = 0 := by omega
          subst hg
          exact kr _ _ _ _ _ d_M_smoothAll_58 hw ⟨N1, ⟨f3, ⟨congrFun f4.1 0, congrFun f4.1 1⟩, ⟨f4.2.1, f4.2.2.1, f4.2.2.2⟩, f6, Or.inr ⟨rfl, f5⟩⟩, f5⟩
        · rw [show ((g0 : Int) - 1) = ((g0 - 1 : Nat) : Int) by omega] at hl
          refine sy_aload_n X d_M_smoothAll_42 hl 0 rfl ?_
          refine sy_iload_n X d_M_smoothAll_43 hl 1 rfl ?_
          have hfz : (fun i => N1 (24 + 6 * (g0 - 1) + i)) = (fun i => N (24 + 6 * (g0 - 1) + i)) ∨ True := Or.inr trivial
          have eF : ∀ i, i < 6 → N1 (24 + 6 * (g0 - 1) + i) = N (24 + 6 * (g0 - 1) + i) := fun i hi => f6 _ (by omega) (by omega)
          have eP : ∀ i, i < 6 → N1 (6 * (g0 - 1) + 6 + i) = N (6 * (g0 - 1) + 6 + i) := fun i hi => f6 _ (by omega) (by omega)
          have eC : M1 8 = M 8 := f4.2.2.2
          have hBw := hB (sml N1) g0 f1 f5
          have eX : ∀ i, N1 (48 + 6 * (g0 - 1) + 6 + i) = sml N1 g0 i := fun i => by show _ = N1 (48 + 6 * g0 + i); congr 1; omega
          have emat : matV (fun i => N1 (24 + 6 * (g0 - 1) + i)) (fun i => N1 (6 * (g0 - 1) + 6 + i)) (fun i => M1 8 (4 * (g0 - 1) + i)) = matV (fun i => N (24 + 6 * (g0 - 1) + i)) (fun i => N (6 * (g0 - 1) + 6 + i)) (fun i => M 8 (4 * (g0 - 1) + i)) := by
            funext i; simp only [matV, eC, eF 2 (by decide), eF 3 (by decide), eF 4 (by decide), eP 2 (by decide), eP 3 (by decide), eP 4 (by decide)]
          have esm : smV (fun i => N1 (24 + 6 * (g0 - 1) + i)) (fun i => N1 (6 * (g0 - 1) + 6 + i)) (fun i => N1 (48 + 6 * (g0 - 1) + 6 + i)) (fun i => M1 8 (4 * (g0 - 1) + i)) = smV (fun i => N (24 + 6 * (g0 - 1) + i)) (fun i => N (6 * (g0 - 1) + 6 + i)) (sml N1 g0) (fun i => M 8 (4 * (g0 - 1) + i)) := by
            have egm : matG (fun i => N1 (24 + 6 * (g0 - 1) + i)) (fun i => N1 (6 * (g0 - 1) + 6 + i)) (fun i => M1 8 (4 * (g0 - 1) + i)) = matG (fun i => N (24 + 6 * (g0 - 1) + i)) (fun i => N (6 * (g0 - 1) + 6 + i)) (fun i => M 8 (4 * (g0 - 1) + i)) := by unfold matG; rw [emat]
            unfold smV; rw [egm]
            generalize matG (fun i => N (24 + 6 * (g0 - 1) + i)) (fun i => N (6 * (g0 - 1) + 6 + i)) (fun i => M 8 (4 * (g0 - 1) + i)) = g
            funext i; simp only [smW, eX, eF 0 (by decide), eF 1 (by decide), eF 2 (by decide), eF 3 (by decide), eF 4 (by decide), eF 5 (by decide), eP 0 (by decide), eP 1 (by decide), eP 2 (by decide), eP 3 (by decide), eP 4 (by decide), eP 5 (by decide)]
          refine call_Vv (Xs := []) (b := ad 0) (As := [.int (iI ((g0 - 1 : Nat) : Int))]) (rest := []) X lk_M_137 (c_M_smoothAt l D cs ad M1 N1 (g0 - 1) (by omega) f3 (fun i hi => by rw [eC]; exact hmv (g0 - 1) (by omega) i hi) (fun i hi => by rw [eF i hi]; exact (hbn (g0 - 1) (by omega) i hi).1) (fun i hi => by rw [eP i hi]; have := (hbn (g0 - 1 + 1) (by omega) i hi).2; rw [show 6 * (g0 - 1 + 1) + i = 6 * (g0 - 1) + 6 + i by omega] at this; exact this) (fun i hi => by rw [eX]; exact hBw.1 i hi) (by rw [emat]; exact hdet (g0 - 1) (by omega)) (by rw [eF 5 (by decide)]; exact (hup (g0 - 1) (by omega)).1) (by rw [eX]; exact hBw.2)) ⟨by decide, by decide⟩ rcv_M hw rfl hl.1 (Nat.le_of_ble_eq_true rfl) d_M_smoothAll_44 rfl rfl ⟨Nat.zero_le _, Nat.zero_le _⟩ (fun M2 H locs p2 hw => ?_)
          obtain ⟨N2, q1, q2, q3, q4⟩ := p2
          rw [esm] at q3
          have hF2 : ∀ j, j < 96 → (j < 48 ∨ 72 ≤ j) → N2 j = N j := fun j h1 h2 => by rw [q4 j h1 (by omega)]; exact f6 j h1 h2
          have eN2 : ∀ k, g0 ≤ k → k ≤ t → ∀ i, i < 6 → sml N2 k i = sml N1 k i := fun k h1 h2 i hi => q4 _ (by omega) (by omega)
          have hC1 : SmCh N (M 8) t (sml N2) g0 := f5.congr eN2 f1
          have hC2 : SmCh N (M 8) t (sml N2) (g0 - 1) := ⟨hC1.1, fun k h1 h2 => by
              by_cases e : g0 ≤ k
              · exact hC1.2 k e h2
              · have ek : k = g0 - 1 := by omega
                subst ek
                refine shr_congr q3 ?_ (fun i hi => rfl)
                funext i
                have hx : ∀ i, i < 6 → sml N1 g0 i = sml N2 (g0 - 1 + 1) i := fun i hi => by rw [show g0 - 1 + 1 = g0 by omega]; exact (eN2 g0 (Nat.le_refl _) f1 i hi).symm
                simp only [smV, smW, hx 0 (by decide), hx 1 (by decide), hx 2 (by decide), hx 3 (by decide), hx 4 (by decide), hx 5 (by decide)]⟩
          refine sy_iinc (lv1 := [(1, .int (iI (((g0 - 1 : Nat) : Int) + (-1)))), (0, .ref (ad 0))]) X d_M_smoothAll_47 hl 1 rfl (by omega) (by decide) rfl (fun ls hl => ?_)
          refine sy_goto (tgt := 38) X d_M_smoothAll_50 (by decide) ?_
          rw [show (((g0 - 1 : Nat) : Int) + (-1)) = (((g0 - 1 : Nat) : Int) - 1) by omega] at hl
          exact ih_key (g0 - 1) M2 N2 H locs ls (by omega) (by omega) q1 (f4.tr q2) hC2 hF2 hw (lv_sub hl [1, 0] rfl)
    exact key (t + 1) t A1 B1 H locs ls (by omega) (by omega) pr ps ⟨fun i hi => by show B1 (48 + 6 * t + i) = _; rw [pv, if_pos (by omega)]; congr 1; omega, fun k h1 h2 => by omega⟩ (fun j h1 h2 => by rw [pv, if_neg (by omega)]) hw (lv_sub hl [1, 0] rfl)
