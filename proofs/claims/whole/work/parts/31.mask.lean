abbrev okQ (t q : Nat) (kd tt e0 : Int) : Prop := (kd = 3 ∧ 0 ≤ tt ∧ tt < (q : Int) ∧ 0 ≤ e0 ∧ e0 ≤ 1) ∨ (0 ≤ kd ∧ kd ≤ 2 ∧ 0 ≤ tt ∧ tt ≤ (t : Int) ∧ 0 ≤ e0 ∧ e0 ≤ 4)
def ixU (kd tt e0 : Int) : Nat := (if kd = 3 then 72 + 4 * tt + 2 * e0 else 24 * kd + 6 * tt + e0).toNat
def ixL (kd tt e0 : Int) : Nat := (if kd = 3 then 72 + 4 * tt + 2 * e0 + 1 else 24 * kd + 6 * tt + 5).toNat
theorem ix_lt {t q : Nat} {kd tt e0 : Int} (ht : t ≤ 3) (hq : q ≤ 6) (h : okQ t q kd tt e0) : ixU kd tt e0 < 96 ∧ ixL kd tt e0 < 96 := by
  unfold ixU ixL; split <;> omega
/-- the number that is asked for: numerator and denominator, in the reference -/
theorem q_bounds {M M1 : Nat → Nat → Int} {N N1 : Nat → Int} {t q : Nat} {kd tt e0 : Int} (hI : MInv M N t q) (hQ : QS M N t M1 N1) (hok : okQ t q kd tt e0) (hs : kd = 2 → SmCh N (M 8) t (sml N1) 0) : 0 < N1 (ixL kd tt e0) ∧ Bn (N1 (ixU kd tt e0)) 200 ∧ Bn (N1 (ixL kd tt e0)) 200 := by
  obtain ⟨⟨ht, ht3, hq, hq6⟩, -, -, -, hbn, hup, -, hsb, hsp, hB⟩ := hI
  obtain ⟨-, -, -, hfr, -⟩ := hQ
  rcases hok with ⟨h1, h2, h3, h4, h5⟩ | ⟨h1, h2, h3, h4, h5, h6⟩
  · subst h1
    obtain ⟨a, rfl⟩ : ∃ a : Nat, tt = (a : Int) := ⟨tt.toNat, by omega⟩
    have hL : ixL 3 (a : Int) e0 = 72 + 4 * a + 1 ∧ ixU 3 (a : Int) e0 = 72 + 4 * a + 0 ∨ ixL 3 (a : Int) e0 = 72 + 4 * a + 3 ∧ ixU 3 (a : Int) e0 = 72 + 4 * a + 2 := by
      unfold ixL ixU; simp only [if_true]
      have : e0 = 0 ∨ e0 = 1 := by omega
      rcases this with e | e <;> subst e <;> omega
    have hp := hsp a (by omega)
    rcases hL with ⟨e1, e2⟩ | ⟨e1, e2⟩ <;> rw [e1, e2, hfr _ (by omega) (by omega), hfr _ (by omega) (by omega)]
    · exact ⟨hp.1, hsb a (by omega) 0 (by decide), hsb a (by omega) 1 (by decide)⟩
    · exact ⟨hp.2, hsb a (by omega) 2 (by decide), hsb a (by omega) 3 (by decide)⟩
  · obtain ⟨a, rfl⟩ : ∃ a : Nat, tt = (a : Int) := ⟨tt.toNat, by omega⟩
    obtain ⟨b, rfl⟩ : ∃ b : Nat, e0 = (b : Int) := ⟨e0.toNat, by omega⟩
    have : kd = 0 ∨ kd = 1 ∨ kd = 2 := by omega
    rcases this with e | e | e <;> subst e
    · have e1 : ixL 0 (a : Int) (b : Int) = 6 * a + 5 := by unfold ixL; simp; omega
      have e2 : ixU 0 (a : Int) (b : Int) = 6 * a + b := by unfold ixU; simp; omega
      rw [e1, e2, hfr _ (by omega) (by omega), hfr _ (by omega) (by omega)]
      exact ⟨(hup a (by omega)).2, ((hbn a (by omega) b (by omega)).2).up (by decide), ((hbn a (by omega) 5 (by decide)).2).up (by decide)⟩
    · have e1 : ixL 1 (a : Int) (b : Int) = 24 + 6 * a + 5 := by unfold ixL; simp; omega
      have e2 : ixU 1 (a : Int) (b : Int) = 24 + 6 * a + b := by unfold ixU; simp; omega
      rw [e1, e2, hfr _ (by omega) (by omega), hfr _ (by omega) (by omega)]
      exact ⟨(hup a (by omega)).1, ((hbn a (by omega) b (by omega)).1).up (by decide), ((hbn a (by omega) 5 (by decide)).1).up (by decide)⟩
    · have e1 : ixL 2 (a : Int) (b : Int) = 48 + 6 * a + 5 := by unfold ixL; simp; omega
      have e2 : ixU 2 (a : Int) (b : Int) = 48 + 6 * a + b := by unfold ixU; simp; omega
      have hc := hs rfl
      have hw := hB (sml N1) a (by omega) ⟨hc.1, fun k h1 h2 => hc.2 k (by omega) h2⟩
      rw [e1, e2]
      exact ⟨hw.2, (hw.1 b (by omega)).up (by decide), (hw.1 5 (by decide)).up (by decide)⟩
/-- a change of the work places alone -/
theorem QS.work {M M1 M2 : Nat → Nat → Int} {N N1 N2 : Nat → Int} {t : Nat} (ht : t ≤ 3) (h : QS M N t M1 N1) (hR : Rep M2 N2) (hS : Sm M1 M2) (hf : ∀ j, j < 96 → N2 j = N1 j) : QS M N t M2 N2 := by
  obtain ⟨h1, h2, h3, h4, h5⟩ := h
  refine ⟨hR, ⟨(congrFun hS.1 0).trans h2.1, (congrFun hS.1 1).trans h2.2⟩, ⟨hS.2.1.trans h3.1, hS.2.2.1.trans h3.2.1, hS.2.2.2.trans h3.2.2⟩, fun j g1 g2 => by rw [hf j g1]; exact h4 j g1 g2, ?_⟩
  rcases h5 with h5 | h5
  · exact Or.inl ((congrFun hS.1 2).trans h5)
  · exact Or.inr ⟨(congrFun hS.1 2).trans h5.1, h5.2.congr (fun k _ hk i hi => hf _ (by omega)) (Nat.zero_le _)⟩
theorem sm_work {N C N1 N2 : Nat → Int} {t : Nat} (ht : t ≤ 3) (h : SmCh N C t (sml N1) 0) (hf : ∀ j, j < 96 → N2 j = N1 j) : SmCh N C t (sml N2) 0 := h.congr (fun k _ hk i hi => hf _ (by omega)) (Nat.zero_le _)
set_option maxRecDepth 100000 in
set_option maxHeartbeats 4000000 in
theorem c_M_none (l : Launch) (D : va_G) (cs : Nat → ClassId) (ad : Nat → Nat) (M : Nat → Nat → Int) (N : Nat → Int) (t q : Nat) (hR : Rep M N) (hI : MInv M N t q) (kd tt e0 : Int) (k0 : R31 kd) (k1 : R31 tt) (k2 : R31 e0) : Ct (S := Unit) l D (tyL cs) y_M_none b_M_none 4 (some .boolean) (rm 1) [.ref (ad 0), .int (iI kd), .int (iI tt), .int (iI e0)] (wM ad cs M) (fun _ => True) (fun _ => some (.int (iI (if ¬ okQ t q kd tt e0 then 1 else 0)))) (fun _ => wM ad cs M) := by
  refine Ct.introZ (by decide) (Nat.le_of_ble_eq_true rfl) ?_
  intro p e s m below meth c A args Q H locs X hnm hw kr ls hl
  have X : CX D (tyL cs) R_M b_M_none 4 p m c s args := X
  have hl : lv_has ls 4 [(0, .ref (ad 0)), (1, .int (iI kd)), (2, .int (iI tt)), (3, .int (iI e0))] := hl
  have k01 := k0.1
  have k02 := k0.2
  have k11 := k1.1
  have k12 := k1.2
  have k21 := k2.1
  have k22 := k2.2
  obtain ⟨⟨ht, ht3, hq, hq6⟩, -⟩ := id hI
  refine sy_iload_n X d_M_none_0 hl 1 rfl ?_
  refine sy_iconst X d_M_none_1 ?_
  refine sy_icmp_ne (tgt := 32) X d_M_none_2 (by decide) ⟨by omega, by omega⟩ ⟨by omega, by omega⟩ (fun c1 => ?_) (fun c1 => ?_)
  · refine sy_iload_n X d_M_none_32 hl 1 rfl ?_
    refine sy_if_lt (tgt := 62) X d_M_none_33 (by decide) ⟨by omega, by omega⟩ (fun c2 => ?_) (fun c2 => ?_)
    · refine sy_iconst X d_M_none_62 ?_
      refine sy_goto (tgt := 67) X d_M_none_63 (by decide) ?_
      exact kr () _ _ _ _ _ d_M_none_67 hw trivial (by split <;> first | rfl | (exfalso; omega)) (by first | rfl | decide)
    · refine sy_iload_n X d_M_none_36 hl 1 rfl ?_
      refine sy_iconst X d_M_none_37 ?_
      refine sy_icmp_gt (tgt := 62) X d_M_none_38 (by decide) ⟨by omega, by omega⟩ ⟨by omega, by omega⟩ (fun c3 => ?_) (fun c3 => ?_)
      · refine sy_iconst X d_M_none_62 ?_
        refine sy_goto (tgt := 67) X d_M_none_63 (by decide) ?_
        exact kr () _ _ _ _ _ d_M_none_67 hw trivial (by split <;> first | rfl | (exfalso; omega)) (by first | rfl | decide)
      · refine sy_iload_n X d_M_none_41 hl 2 rfl ?_
        refine sy_if_lt (tgt := 62) X d_M_none_42 (by decide) ⟨by omega, by omega⟩ (fun c4 => ?_) (fun c4 => ?_)
        · refine sy_iconst X d_M_none_62 ?_
          refine sy_goto (tgt := 67) X d_M_none_63 (by decide) ?_
          exact kr () _ _ _ _ _ d_M_none_67 hw trivial (by split <;> first | rfl | (exfalso; omega)) (by first | rfl | decide)
        · refine sy_iload_n X d_M_none_45 hl 2 rfl ?_
          refine sy_aload_n X d_M_none_46 hl 0 rfl ?_
          refine m_get (v := .int (iI (t : Int))) X hw 5 (by decide) (by show some (Value.int (iI (M 0 0))) = _; rw [ht]) (tt_of k514 rfl) d_M_none_47 ?_
          refine sy_icmp_gt (tgt := 62) X d_M_none_50 (by decide) ⟨by omega, by omega⟩ ⟨by omega, by omega⟩ (fun c5 => ?_) (fun c5 => ?_)
          · refine sy_iconst X d_M_none_62 ?_
            refine sy_goto (tgt := 67) X d_M_none_63 (by decide) ?_
            exact kr () _ _ _ _ _ d_M_none_67 hw trivial (by split <;> first | rfl | (exfalso; omega)) (by first | rfl | decide)
          · refine sy_iload_n X d_M_none_53 hl 3 rfl ?_
            refine sy_if_lt (tgt := 62) X d_M_none_54 (by decide) ⟨by omega, by omega⟩ (fun c6 => ?_) (fun c6 => ?_)
            · refine sy_iconst X d_M_none_62 ?_
              refine sy_goto (tgt := 67) X d_M_none_63 (by decide) ?_
              exact kr () _ _ _ _ _ d_M_none_67 hw trivial (by split <;> first | rfl | (exfalso; omega)) (by first | rfl | decide)
            · refine sy_iload_n X d_M_none_57 hl 3 rfl ?_
              refine sy_iconst X d_M_none_58 ?_
              refine sy_icmp_le (tgt := 66) X d_M_none_59 (by decide) ⟨by omega, by omega⟩ ⟨by omega, by omega⟩ (fun c7 => ?_) (fun c7 => ?_)
              · refine sy_iconst X d_M_none_66 ?_
                exact kr () _ _ _ _ _ d_M_none_67 hw trivial (by split <;> first | rfl | (exfalso; omega)) (by first | rfl | decide)
              · refine sy_iconst X d_M_none_62 ?_
                refine sy_goto (tgt := 67) X d_M_none_63 (by decide) ?_
                exact kr () _ _ _ _ _ d_M_none_67 hw trivial (by split <;> first | rfl | (exfalso; omega)) (by first | rfl | decide)
  · refine sy_iload_n X d_M_none_5 hl 2 rfl ?_
    refine sy_if_lt (tgt := 26) X d_M_none_6 (by decide) ⟨by omega, by omega⟩ (fun c8 => ?_) (fun c8 => ?_)
    · refine sy_iconst X d_M_none_26 ?_
      refine sy_goto (tgt := 31) X d_M_none_27 (by decide) ?_
      exact kr () _ _ _ _ _ d_M_none_31 hw trivial (by split <;> first | rfl | (exfalso; omega)) (by first | rfl | decide)
    · refine sy_iload_n X d_M_none_9 hl 2 rfl ?_
      refine sy_aload_n X d_M_none_10 hl 0 rfl ?_
      refine m_get (v := .int (iI (q : Int))) X hw 6 (by decide) (by show some (Value.int (iI (M 0 1))) = _; rw [hq]) (tt_of k515 rfl) d_M_none_11 ?_
      refine sy_icmp_ge (tgt := 26) X d_M_none_14 (by decide) ⟨by omega, by omega⟩ ⟨by omega, by omega⟩ (fun c9 => ?_) (fun c9 => ?_)
      · refine sy_iconst X d_M_none_26 ?_
        refine sy_goto (tgt := 31) X d_M_none_27 (by decide) ?_
        exact kr () _ _ _ _ _ d_M_none_31 hw trivial (by split <;> first | rfl | (exfalso; omega)) (by first | rfl | decide)
      · refine sy_iload_n X d_M_none_17 hl 3 rfl ?_
        refine sy_if_lt (tgt := 26) X d_M_none_18 (by decide) ⟨by omega, by omega⟩ (fun c10 => ?_) (fun c10 => ?_)
        · refine sy_iconst X d_M_none_26 ?_
          refine sy_goto (tgt := 31) X d_M_none_27 (by decide) ?_
          exact kr () _ _ _ _ _ d_M_none_31 hw trivial (by split <;> first | rfl | (exfalso; omega)) (by first | rfl | decide)
        · refine sy_iload_n X d_M_none_21 hl 3 rfl ?_
          refine sy_iconst X d_M_none_22 ?_
          refine sy_icmp_le (tgt := 30) X d_M_none_23 (by decide) ⟨by omega, by omega⟩ ⟨by omega, by omega⟩ (fun c11 => ?_) (fun c11 => ?_)
          · refine sy_iconst X d_M_none_30 ?_
            exact kr () _ _ _ _ _ d_M_none_31 hw trivial (by split <;> first | rfl | (exfalso; omega)) (by first | rfl | decide)
          · refine sy_iconst X d_M_none_26 ?_
            refine sy_goto (tgt := 31) X d_M_none_27 (by decide) ?_
            exact kr () _ _ _ _ _ d_M_none_31 hw trivial (by split <;> first | rfl | (exfalso; omega)) (by first | rfl | decide)
set_option maxRecDepth 100000 in
set_option maxHeartbeats 4000000 in
theorem c_M_upper (l : Launch) (D : va_G) (cs : Nat → ClassId) (ad : Nat → Nat) (M : Nat → Nat → Int) (N : Nat → Int) (t q : Nat) (hR : Rep M N) (hI : MInv M N t q) (kd tt e0 : Int) (k0 : R31 kd) (k1 : R31 tt) (k2 : R31 e0) (hok : okQ t q kd tt e0) : Ct (S := Nat → Nat → Int) l D (tyL cs) y_M_upper b_M_upper 4 (some .int) (rm 10) [.ref (ad 0), .int (iI kd), .int (iI tt), .int (iI e0)] (wM ad cs M) (fun M1 => ∃ N1, QS M N t M1 N1 ∧ (kd = 2 → SmCh N (M 8) t (sml N1) 0)) (fun _ => some (.int (iI ((ixU kd tt e0 : Nat) : Int)))) (fun M1 => wM ad cs M1) := by
  refine Ct.introI (by decide) (Nat.le_of_ble_eq_true rfl) ?_
  intro p e s m below meth c A args Q H locs X hnm hw kr ls hl
  have X : CX D (tyL cs) R_M b_M_upper 4 p m c s args := X
  have hl : lv_has ls 4 [(0, .ref (ad 0)), (1, .int (iI kd)), (2, .int (iI tt)), (3, .int (iI e0))] := hl
  have k01 := k0.1
  have k02 := k0.2
  have k11 := k1.1
  have k12 := k1.2
  have k21 := k2.1
  have k22 := k2.2
  obtain ⟨⟨ht, ht3, hq, hq6⟩, -⟩ := id hI
  refine sy_iload_n X d_M_upper_0 hl 1 rfl ?_
  refine sy_iconst X d_M_upper_1 ?_
  refine sy_icmp_ne (tgt := 9) X d_M_upper_2 (by decide) ⟨by omega, by omega⟩ ⟨by omega, by omega⟩ (fun c1 => ?_) (fun c1 => ?_)
  · refine sy_iload_n X d_M_upper_9 hl 1 rfl ?_
    refine sy_iconst X d_M_upper_10 ?_
    refine sy_icmp_ne (tgt := 27) X d_M_upper_11 (by decide) ⟨by omega, by omega⟩ ⟨by omega, by omega⟩ (fun c2 => ?_) (fun c2 => ?_)
    · refine sy_bipush X d_M_upper_27 (by decide) ?_
      refine sy_iload_n X d_M_upper_29 hl 1 rfl ?_
      refine sy_imul X d_M_upper_30 ?_
      refine sy_bipush X d_M_upper_31 (by decide) ?_
      refine sy_iload_n X d_M_upper_33 hl 2 rfl ?_
      refine sy_imul X d_M_upper_34 ?_
      refine sy_iadd X d_M_upper_35 ?_
      refine sy_iload_n X d_M_upper_36 hl 3 rfl ?_
      refine sy_iadd X d_M_upper_37 ?_
      have eix : ((ixU kd tt e0 : Nat) : Int) = (((24 * kd) + (6 * tt)) + e0) := by unfold ixU; split <;> omega
      exact kr M _ _ _ _ _ d_M_upper_38 hw ⟨N, ⟨hR, ⟨rfl, rfl⟩, ⟨rfl, rfl, rfl⟩, fun _ _ _ => rfl, hI.2.1⟩, fun h => by omega⟩ (by rw [eix])
    · refine sy_bipush X d_M_upper_14 (by decide) ?_
      refine sy_iconst X d_M_upper_16 ?_
      refine sy_iload_n X d_M_upper_17 hl 2 rfl ?_
      refine sy_imul X d_M_upper_18 ?_
      refine sy_iadd X d_M_upper_19 ?_
      refine sy_iconst X d_M_upper_20 ?_
      refine sy_iload_n X d_M_upper_21 hl 3 rfl ?_
      refine sy_imul X d_M_upper_22 ?_
      refine sy_iadd X d_M_upper_23 ?_
      refine sy_goto (tgt := 38) X d_M_upper_24 (by decide) ?_
      have eix : ((ixU kd tt e0 : Nat) : Int) = ((72 + (4 * tt)) + (2 * e0)) := by unfold ixU; split <;> omega
      exact kr M _ _ _ _ _ d_M_upper_38 hw ⟨N, ⟨hR, ⟨rfl, rfl⟩, ⟨rfl, rfl, rfl⟩, fun _ _ _ => rfl, hI.2.1⟩, fun h => by omega⟩ (by rw [eix])
  · refine sy_aload_n X d_M_upper_5 hl 0 rfl ?_
    refine call_Vv (Xs := []) (b := ad 0) (As := []) (rest := []) X lk_M_141 (c_M_smoothAll l D cs ad M N t q hR hI) ⟨by decide, by decide⟩ rcv_M hw rfl hl.1 (Nat.le_of_ble_eq_true rfl) d_M_upper_6 rfl rfl ⟨Nat.zero_le _, Nat.zero_le _⟩ (fun M1 H locs pa hw => ?_)
    obtain ⟨N1, hQ, hC⟩ := pa
    refine sy_iload_n X d_M_upper_9 hl 1 rfl ?_
    refine sy_iconst X d_M_upper_10 ?_
    refine sy_icmp_ne (tgt := 27) X d_M_upper_11 (by decide) ⟨by omega, by omega⟩ ⟨by omega, by omega⟩ (fun c3 => ?_) (fun c3 => ?_)
    · refine sy_bipush X d_M_upper_27 (by decide) ?_
      refine sy_iload_n X d_M_upper_29 hl 1 rfl ?_
      refine sy_imul X d_M_upper_30 ?_
      refine sy_bipush X d_M_upper_31 (by decide) ?_
      refine sy_iload_n X d_M_upper_33 hl 2 rfl ?_
      refine sy_imul X d_M_upper_34 ?_
      refine sy_iadd X d_M_upper_35 ?_
      refine sy_iload_n X d_M_upper_36 hl 3 rfl ?_
      refine sy_iadd X d_M_upper_37 ?_
      have eix : ((ixU kd tt e0 : Nat) : Int) = (((24 * kd) + (6 * tt)) + e0) := by unfold ixU; split <;> omega
      exact kr M1 _ _ _ _ _ d_M_upper_38 hw ⟨N1, hQ, fun _ => hC⟩ (by rw [eix])
    · refine sy_bipush X d_M_upper_14 (by decide) ?_
      refine sy_iconst X d_M_upper_16 ?_
      refine sy_iload_n X d_M_upper_17 hl 2 rfl ?_
      refine sy_imul X d_M_upper_18 ?_
      refine sy_iadd X d_M_upper_19 ?_
      refine sy_iconst X d_M_upper_20 ?_
      refine sy_iload_n X d_M_upper_21 hl 3 rfl ?_
      refine sy_imul X d_M_upper_22 ?_
      refine sy_iadd X d_M_upper_23 ?_
      refine sy_goto (tgt := 38) X d_M_upper_24 (by decide) ?_
      have eix : ((ixU kd tt e0 : Nat) : Int) = ((72 + (4 * tt)) + (2 * e0)) := by unfold ixU; split <;> omega
      exact kr M1 _ _ _ _ _ d_M_upper_38 hw ⟨N1, hQ, fun _ => hC⟩ (by rw [eix])
set_option maxRecDepth 100000 in
set_option maxHeartbeats 4000000 in
theorem c_M_lowerOf (l : Launch) (D : va_G) (cs : Nat → ClassId) (ad : Nat → Nat) (M : Nat → Nat → Int) (N : Nat → Int) (t q : Nat) (ht3 : t ≤ 3) (hq6 : q ≤ 6) (kd tt e0 : Int) (k0 : R31 kd) (k1 : R31 tt) (k2 : R31 e0) (hok : okQ t q kd tt e0) : Ct (S := Unit) l D (tyL cs) y_M_lowerOf b_M_lowerOf 4 (some .int) (rm 1) [.ref (ad 0), .int (iI kd), .int (iI tt), .int (iI e0)] (wM ad cs M) (fun _ => True) (fun _ => some (.int (iI ((ixL kd tt e0 : Nat) : Int)))) (fun _ => wM ad cs M) := by
  refine Ct.introI (by decide) (Nat.le_of_ble_eq_true rfl) ?_
  intro p e s m below meth c A args Q H locs X hnm hw kr ls hl
  have X : CX D (tyL cs) R_M b_M_lowerOf 4 p m c s args := X
  have hl : lv_has ls 4 [(0, .ref (ad 0)), (1, .int (iI kd)), (2, .int (iI tt)), (3, .int (iI e0))] := hl
  have k01 := k0.1
  have k02 := k0.2
  have k11 := k1.1
  have k12 := k1.2
  have k21 := k2.1
  have k22 := k2.2
  refine sy_iload_n X d_M_lowerOf_0 hl 1 rfl ?_
  refine sy_iconst X d_M_lowerOf_1 ?_
  refine sy_icmp_ne (tgt := 20) X d_M_lowerOf_2 (by decide) ⟨by omega, by omega⟩ ⟨by omega, by omega⟩ (fun c1 => ?_) (fun c1 => ?_)
  · refine sy_bipush X d_M_lowerOf_20 (by decide) ?_
    refine sy_iload_n X d_M_lowerOf_22 hl 1 rfl ?_
    refine sy_imul X d_M_lowerOf_23 ?_
    refine sy_bipush X d_M_lowerOf_24 (by decide) ?_
    refine sy_iload_n X d_M_lowerOf_26 hl 2 rfl ?_
    refine sy_imul X d_M_lowerOf_27 ?_
    refine sy_iadd X d_M_lowerOf_28 ?_
    refine sy_iconst X d_M_lowerOf_29 ?_
    refine sy_iadd X d_M_lowerOf_30 ?_
    have eix : ((ixL kd tt e0 : Nat) : Int) = (((24 * kd) + (6 * tt)) + 5) := by unfold ixL; split <;> omega
    exact kr () _ _ _ _ _ d_M_lowerOf_31 hw trivial (by rw [eix])
  · refine sy_bipush X d_M_lowerOf_5 (by decide) ?_
    refine sy_iconst X d_M_lowerOf_7 ?_
    refine sy_iload_n X d_M_lowerOf_8 hl 2 rfl ?_
    refine sy_imul X d_M_lowerOf_9 ?_
    refine sy_iadd X d_M_lowerOf_10 ?_
    refine sy_iconst X d_M_lowerOf_11 ?_
    refine sy_iload_n X d_M_lowerOf_12 hl 3 rfl ?_
    refine sy_imul X d_M_lowerOf_13 ?_
    refine sy_iadd X d_M_lowerOf_14 ?_
    refine sy_iconst X d_M_lowerOf_15 ?_
    refine sy_iadd X d_M_lowerOf_16 ?_
    refine sy_goto (tgt := 31) X d_M_lowerOf_17 (by decide) ?_
    have eix : ((ixL kd tt e0 : Nat) : Int) = (((72 + (4 * tt)) + (2 * e0)) + 1) := by unfold ixL; split <;> omega
    exact kr () _ _ _ _ _ d_M_lowerOf_31 hw trivial (by rw [eix])
set_option maxRecDepth 100000 in
set_option maxHeartbeats 4000000 in
theorem c_M_sign (l : Launch) (D : va_G) (cs : Nat → ClassId) (ad : Nat → Nat) (M : Nat → Nat → Int) (N : Nat → Int) (t q : Nat) (hR : Rep M N) (hI : MInv M N t q) (kd tt e0 : Int) (k0 : R31 kd) (k1 : R31 tt) (k2 : R31 e0) : Ct (S := Int × (Nat → Nat → Int)) l D (tyL cs) y_M_sign b_M_sign 4 (some .int) (rm 11) [.ref (ad 0), .int (iI kd), .int (iI tt), .int (iI e0)] (wM ad cs M) (fun u => (¬ okQ t q kd tt e0 ∧ u = (-2, M)) ∨ (okQ t q kd tt e0 ∧ ∃ N1, QS M N t u.2 N1 ∧ (kd = 2 → SmCh N (M 8) t (sml N1) 0) ∧ u.1 = (N1 (ixU kd tt e0)).sign)) (fun u => some (.int (iI u.1))) (fun u => wM ad cs u.2) := by
  refine Ct.introI (by decide) (Nat.le_of_ble_eq_true rfl) ?_
  intro p e s m below meth c A args Q H locs X hnm hw kr ls hl
  have X : CX D (tyL cs) R_M b_M_sign 4 p m c s args := X
  have hl : lv_has ls 4 [(0, .ref (ad 0)), (1, .int (iI kd)), (2, .int (iI tt)), (3, .int (iI e0))] := hl
  have k01 := k0.1
  have k02 := k0.2
  have k11 := k1.1
  have k12 := k1.2
  have k21 := k2.1
  have k22 := k2.2
  obtain ⟨⟨ht, ht3, hq, hq6⟩, -⟩ := id hI
  refine sy_aload_n X d_M_sign_0 hl 0 rfl ?_
  refine sy_iload_n X d_M_sign_1 hl 1 rfl ?_
  refine sy_iload_n X d_M_sign_2 hl 2 rfl ?_
  refine sy_iload_n X d_M_sign_3 hl 3 rfl ?_
  refine call_Vi (Xs := []) (b := ad 0) (As := [.int (iI kd), .int (iI tt), .int (iI e0)]) (rest := []) X lk_M_144 (c_M_none l D cs ad M N t q hR hI kd tt e0 k0 k1 k2) ⟨by decide, by decide⟩ rcv_M hw rfl hl.1 (Nat.le_of_ble_eq_true rfl) d_M_sign_4 rfl rfl ⟨Nat.zero_le _, Nat.zero_le _⟩ (fun _ H locs _ hw => ?_)
  refine sy_ifb_eq (tgt := 13) X d_M_sign_7 (by decide) (fun c1 => ?_) (fun c1 => ?_)
  · refine sy_aload_n X d_M_sign_13 hl 0 rfl ?_
    refine m_get X hw 2 (by decide) rfl (tt_of k511 rfl) d_M_sign_14 ?_
    refine sy_aload_n X d_M_sign_17 hl 0 rfl ?_
    refine sy_iload_n X d_M_sign_18 hl 1 rfl ?_
    refine sy_iload_n X d_M_sign_19 hl 2 rfl ?_
    refine sy_iload_n X d_M_sign_20 hl 3 rfl ?_
    have hok : okQ t q kd tt e0 := by omega
    have hix := ix_lt ht3 hq6 hok
    refine call_Vi (Xs := []) (b := ad 0) (As := [.int (iI kd), .int (iI tt), .int (iI e0)]) (rest := [.ref (ad 3)]) X lk_M_147 (c_M_upper l D cs ad M N t q hR hI kd tt e0 k0 k1 k2 hok) ⟨by decide, by decide⟩ rcv_M hw rfl hl.1 (Nat.le_of_ble_eq_true rfl) d_M_sign_21 rfl rfl ⟨Nat.zero_le _, Nat.zero_le _⟩ (fun M1 H locs pu hw => ?_)
    obtain ⟨N1, hQ, hC⟩ := pu
    have hqb := q_bounds hI hQ hok hC
    obtain ⟨_, -, -, -, -, -, -, hsg⟩ := (hQ.1 (ixU kd tt e0) (by omega)).dig
    refine m_ald X hw 3 (ixU kd tt e0) (by decide) (by omega) (by simp only [szM]; omega) ((N1 (ixU kd tt e0)).sign) hsg d_M_sign_24 ?_
    exact kr (_, M1) _ _ _ _ _ d_M_sign_25 hw (Or.inr ⟨hok, N1, hQ, hC, rfl⟩) rfl
  · refine sy_bipush X d_M_sign_10 (by decide) ?_
    exact kr (-2, M) _ _ _ _ _ d_M_sign_12 hw (Or.inl ⟨by assumption, rfl⟩) rfl
set_option maxRecDepth 100000 in
set_option maxHeartbeats 4000000 in
theorem c_M_compare (l : Launch) (D : va_G) (cs : Nat → ClassId) (ad : Nat → Nat) (M : Nat → Nat → Int) (N : Nat → Int) (t q : Nat) (hR : Rep M N) (hI : MInv M N t q) (kd tt e0 : Int) (k0 : R31 kd) (k1 : R31 tt) (k2 : R31 e0) (p0 q0 : Int) (k3 : R31 p0) (k4 : R31 q0) : Ct (S := Int × (Nat → Nat → Int)) l D (tyL cs) y_M_compare b_M_compare 6 (some .int) (rm 11) [.ref (ad 0), .int (iI kd), .int (iI tt), .int (iI e0), .int (iI p0), .int (iI q0)] (wM ad cs M) (fun u => (¬ okQ t q kd tt e0 ∧ u = (-2, M)) ∨ (okQ t q kd tt e0 ∧ q0 < 1 ∧ u = (-3, M)) ∨ (okQ t q kd tt e0 ∧ 1 ≤ q0 ∧ ∃ N1, QS M N t u.2 N1 ∧ (kd = 2 → SmCh N (M 8) t (sml N1) 0) ∧ u.1 = (N1 (ixU kd tt e0) * q0 - N1 (ixL kd tt e0) * p0).sign)) (fun u => some (.int (iI u.1))) (fun u => wM ad cs u.2) := by
  refine Ct.introI (by decide) (Nat.le_of_ble_eq_true rfl) ?_
  intro p e s m below meth c A args Q H locs X hnm hw kr ls hl
  have X : CX D (tyL cs) R_M b_M_compare 6 p m c s args := X
  have hl : lv_has ls 6 [(0, .ref (ad 0)), (1, .int (iI kd)), (2, .int (iI tt)), (3, .int (iI e0)), (4, .int (iI p0)), (5, .int (iI q0))] := hl
  have k01 := k0.1
  have k02 := k0.2
  have k11 := k1.1
  have k12 := k1.2
  have k21 := k2.1
  have k22 := k2.2
  obtain ⟨⟨ht, ht3, hq, hq6⟩, -⟩ := id hI
  have k31 := k3.1
  have k32 := k3.2
  have k41 := k4.1
  have k42 := k4.2
  have bp : Bn p0 31 := Bn.of (k := 2147483648) (by omega) (by decide)
  have bq : Bn q0 31 := Bn.of (k := 2147483648) (by omega) (by decide)
  refine sy_aload_n X d_M_compare_0 hl 0 rfl ?_
  refine sy_iload_n X d_M_compare_1 hl 1 rfl ?_
  refine sy_iload_n X d_M_compare_2 hl 2 rfl ?_
  refine sy_iload_n X d_M_compare_3 hl 3 rfl ?_
  refine call_Vi (Xs := []) (b := ad 0) (As := [.int (iI kd), .int (iI tt), .int (iI e0)]) (rest := []) X lk_M_144 (c_M_none l D cs ad M N t q hR hI kd tt e0 k0 k1 k2) ⟨by decide, by decide⟩ rcv_M hw rfl hl.1 (Nat.le_of_ble_eq_true rfl) d_M_compare_4 rfl rfl ⟨Nat.zero_le _, Nat.zero_le _⟩ (fun _ H locs _ hw => ?_)
  refine sy_ifb_eq (tgt := 13) X d_M_compare_7 (by decide) (fun c1 => ?_) (fun c1 => ?_)
  · refine sy_iload X d_M_compare_13 hl 5 rfl ?_
    refine sy_iconst X d_M_compare_15 ?_
    refine sy_icmp_ge (tgt := 22) X d_M_compare_16 (by decide) ⟨by omega, by omega⟩ ⟨by omega, by omega⟩ (fun c2 => ?_) (fun c2 => ?_)
    · refine sy_aload_n X d_M_compare_22 hl 0 rfl ?_
      refine sy_bipush X d_M_compare_23 (by decide) ?_
      refine sy_aload_n X d_M_compare_25 hl 0 rfl ?_
      refine sy_iload_n X d_M_compare_26 hl 1 rfl ?_
      refine sy_iload_n X d_M_compare_27 hl 2 rfl ?_
      refine sy_iload_n X d_M_compare_28 hl 3 rfl ?_
      have hok : okQ t q kd tt e0 := by omega
      have hix := ix_lt ht3 hq6 hok
      refine call_Vi (Xs := []) (b := ad 0) (As := [.int (iI kd), .int (iI tt), .int (iI e0)]) (rest := [.int (iI 96), .ref (ad 0)]) X lk_M_147 (c_M_upper l D cs ad M N t q hR hI kd tt e0 k0 k1 k2 hok) ⟨by decide, by decide⟩ rcv_M hw rfl hl.1 (Nat.le_of_ble_eq_true rfl) d_M_compare_29 rfl rfl ⟨Nat.zero_le _, Nat.zero_le _⟩ (fun M1 H locs pu hw => ?_)
      obtain ⟨N1, hQ, hC⟩ := pu
      have hqb := q_bounds hI hQ hok hC
      refine sy_iload X d_M_compare_32 hl 5 rfl ?_
      refine call_Vv (Xs := []) (b := ad 0) (As := [.int (iI 96), .int (iI ((ixU kd tt e0 : Nat) : Int)), .int (iI q0)]) (rest := []) X lk_M_52 (c_M_scale l D cs ad M1 N1 96 (ixU kd tt e0) q0 (by decide) (by omega) k4 hQ.1 (Bn.fin (Bn.mul hqb.2.1 bq) (by decide))) ⟨by decide, by decide⟩ rcv_M hw rfl hl.1 (Nat.le_of_ble_eq_true rfl) d_M_compare_34 rfl rfl ⟨Nat.zero_le _, Nat.zero_le _⟩ (fun M2 H locs p2 hw => ?_)
      obtain ⟨N2, eN2⟩ : ∃ g, g = up1 N1 96 (N1 (ixU kd tt e0) * q0) := ⟨_, rfl⟩
      rw [← eN2] at p2
      have v2 : N2 (ixL kd tt e0) = N1 (ixL kd tt e0) := by rw [eN2, up1_n _ (by omega)]
      refine sy_aload_n X d_M_compare_37 hl 0 rfl ?_
      refine sy_bipush X d_M_compare_38 (by decide) ?_
      refine sy_aload_n X d_M_compare_40 hl 0 rfl ?_
      refine sy_iload_n X d_M_compare_41 hl 1 rfl ?_
      refine sy_iload_n X d_M_compare_42 hl 2 rfl ?_
      refine sy_iload_n X d_M_compare_43 hl 3 rfl ?_
      refine call_Vi (Xs := []) (b := ad 0) (As := [.int (iI kd), .int (iI tt), .int (iI e0)]) (rest := [.int (iI 97), .ref (ad 0)]) X lk_M_151 (c_M_lowerOf l D cs ad M2 N t q ht3 hq6 kd tt e0 k0 k1 k2 hok) ⟨by decide, by decide⟩ rcv_M hw rfl hl.1 (Nat.le_of_ble_eq_true rfl) d_M_compare_44 rfl rfl ⟨Nat.zero_le _, Nat.zero_le _⟩ (fun _ H locs _ hw => ?_)
      refine sy_iload X d_M_compare_47 hl 4 rfl ?_
      refine call_Vv (Xs := []) (b := ad 0) (As := [.int (iI 97), .int (iI ((ixL kd tt e0 : Nat) : Int)), .int (iI p0)]) (rest := []) X lk_M_52 (c_M_scale l D cs ad M2 N2 97 (ixL kd tt e0) p0 (by decide) (by omega) k3 p2.1 (by rw [v2]; exact Bn.fin (Bn.mul hqb.2.2 bp) (by decide))) ⟨by decide, by decide⟩ rcv_M hw rfl hl.1 (Nat.le_of_ble_eq_true rfl) d_M_compare_49 rfl rfl ⟨Nat.zero_le _, Nat.zero_le _⟩ (fun M3 H locs p3 hw => ?_)
      obtain ⟨N3, eN3⟩ : ∃ g, g = up1 N2 97 (N2 (ixL kd tt e0) * p0) := ⟨_, rfl⟩
      rw [← eN3] at p3
      have v3 : N3 96 + -1 * N3 97 = N1 (ixU kd tt e0) * q0 - N1 (ixL kd tt e0) * p0 := by rw [eN3, up1_s, up1_n _ (by decide), eN2, up1_s, ← eN2, v2]; omega
      refine sy_aload_n X d_M_compare_52 hl 0 rfl ?_
      refine sy_bipush X d_M_compare_53 (by decide) ?_
      refine sy_bipush X d_M_compare_55 (by decide) ?_
      refine sy_bipush X d_M_compare_57 (by decide) ?_
      refine sy_iconst X d_M_compare_59 ?_
      refine call_Vv (Xs := []) (b := ad 0) (As := [.int (iI 96), .int (iI 96), .int (iI 97), .int (iI (-1))]) (rest := []) X lk_M_55 (c_M_sum l D cs ad M3 N3 96 96 97 (-1) (by decide) (by decide) (by decide) (Or.inr rfl) p3.1 (by rw [v3, Int.sub_eq_add_neg]; exact Bn.fin (Bn.add (Bn.mul hqb.2.1 bq) (Bn.mul hqb.2.2 bp).neg) (by decide))) ⟨by decide, by decide⟩ rcv_M hw rfl hl.1 (Nat.le_of_ble_eq_true rfl) d_M_compare_60 rfl rfl ⟨Nat.zero_le _, Nat.zero_le _⟩ (fun M4 H locs p4 hw => ?_)
      rw [v3] at p4
      obtain ⟨N4, eN4⟩ : ∃ g, g = up1 N3 96 (N1 (ixU kd tt e0) * q0 - N1 (ixL kd tt e0) * p0) := ⟨_, rfl⟩
      rw [← eN4] at p4
      have hf4 : ∀ j, j < 96 → N4 j = N1 j := fun j hj => by rw [eN4, up1_n _ (by omega), eN3, up1_n _ (by omega), eN2, up1_n _ (by omega)]
      have hQ4 := hQ.work ht3 p4.1 ((p2.2.tr p3.2).tr p4.2) hf4
      obtain ⟨_, -, -, -, -, -, -, hsg⟩ := (p4.1 96 (by decide)).dig
      refine sy_aload_n X d_M_compare_63 hl 0 rfl ?_
      refine m_get X hw 2 (by decide) rfl (tt_of k511 rfl) d_M_compare_64 ?_
      refine sy_bipush X d_M_compare_67 (by decide) ?_
      refine m_ald X hw 3 96 (by decide) (by omega) (by simp only [szM]; omega) ((N4 96).sign) hsg d_M_compare_69 ?_
      exact kr ((N4 96).sign, M4) _ _ _ _ _ d_M_compare_70 hw (Or.inr (Or.inr ⟨hok, by omega, N4, hQ4, fun h => sm_work ht3 (hC h) hf4, by show (N4 96).sign = _; rw [hf4 _ hix.1, hf4 _ hix.2, eN4, up1_s]⟩)) rfl
    · refine sy_bipush X d_M_compare_19 (by decide) ?_
      exact kr (-3, M) _ _ _ _ _ d_M_compare_21 hw (Or.inr (Or.inl ⟨by omega, by omega, rfl⟩)) rfl
  · refine sy_bipush X d_M_compare_10 (by decide) ?_
    exact kr (-2, M) _ _ _ _ _ d_M_compare_12 hw (Or.inl ⟨by assumption, rfl⟩) rfl
