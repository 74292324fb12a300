theorem learnV_congr {u u1 : Nat → Int} {h0 h1 r x : Int} (hu : ∀ i, i < 9 → u i = u1 i) : ∀ i, i < 9 → learnV u h0 h1 r x i = learnV u1 h0 h1 r x i := fun i hi => by
  have h9 : i = 0 ∨ i = 1 ∨ i = 2 ∨ i = 3 ∨ i = 4 ∨ i = 5 ∨ i = 6 ∨ i = 7 ∨ i = 8 := by omega
  rcases h9 with e | e | e | e | e | e | e | e | e <;> subst e <;> simp only [learnV, hu 0 (by decide), hu 1 (by decide), hu 2 (by decide), hu 3 (by decide), hu 4 (by decide), hu 5 (by decide), hu 6 (by decide), hu 7 (by decide), hu 8 (by decide)]
theorem noiseV_congr {u u1 : Nat → Int} {q0 q1 q2 : Int} (hu : ∀ i, i < 9 → u i = u1 i) : ∀ i, i < 9 → noiseV u q0 q1 q2 i = noiseV u1 q0 q1 q2 i := fun i hi => by
  have h9 : i = 0 ∨ i = 1 ∨ i = 2 ∨ i = 3 ∨ i = 4 ∨ i = 5 ∨ i = 6 ∨ i = 7 ∨ i = 8 := by omega
  rcases h9 with e | e | e | e | e | e | e | e | e <;> subst e <;> simp only [noiseV, hu 0 (by decide), hu 1 (by decide), hu 2 (by decide), hu 3 (by decide), hu 4 (by decide), hu 5 (by decide), hu 6 (by decide), hu 7 (by decide), hu 8 (by decide)]
set_option maxRecDepth 100000 in
set_option maxHeartbeats 4000000 in
theorem c_E_fitsCovariance (l : Launch) (D : va_G) (cs : Nat → ClassId) (ws : va_W) (x y u : Int) (h0 : R31 x) (h1 : R31 y) (h2 : R31 u) : Ct (S := Unit) l D (tyL cs) y_E_fitsCovariance b_E_fitsCovariance 3 (some .boolean) (rm 2) [.int (iI x), .int (iI y), .int (iI u)] (ws) (fun _ => True) (fun _ => some (.int (iI (if (-99 ≤ x ∧ x ≤ 99) ∧ (-99 ≤ y ∧ y ≤ 99) ∧ (-99 ≤ u ∧ u ≤ 99) then 1 else 0)))) (fun _ => ws) := by
  refine Ct.introZ (by decide) (Nat.le_of_ble_eq_true rfl) ?_
  intro p e s m below meth c A args Q H locs X hnm hw kr ls hl
  have X : CX D (tyL cs) R_E b_E_fitsCovariance 3 p m c s args := X
  have hl : lv_has ls 3 [(0, .int (iI x)), (1, .int (iI y)), (2, .int (iI u))] := hl
  refine sy_iload_n X d_E_fitsCovariance_0 hl 0 rfl ?_
  refine sy_bipush X d_E_fitsCovariance_1 (by decide) ?_
  refine call_Si (Xs := []) (As := [.int (iI x), .int (iI 99)]) (rest := []) X lk_E_76 (c_E_within l D cs (ws) x 99 h0 (by decide)) ⟨by decide, by decide⟩ hw rfl hl.1 (Nat.le_of_ble_eq_true rfl) d_E_fitsCovariance_3 rfl rfl ⟨Nat.zero_le _, Nat.zero_le _⟩ (fun _ H locs _ hw => ?_)
  refine sy_ifb_eq (tgt := 31) X d_E_fitsCovariance_6 (by decide) (fun c1 => ?_) (fun c1 => ?_)
  · refine sy_iconst X d_E_fitsCovariance_31 ?_
    exact kr () _ _ _ _ _ d_E_fitsCovariance_32 hw trivial (by split <;> first | rfl | (exfalso; omega)) (by decide)
  · refine sy_iload_n X d_E_fitsCovariance_9 hl 1 rfl ?_
    refine sy_bipush X d_E_fitsCovariance_10 (by decide) ?_
    refine call_Si (Xs := []) (As := [.int (iI y), .int (iI 99)]) (rest := []) X lk_E_76 (c_E_within l D cs (ws) y 99 h1 (by decide)) ⟨by decide, by decide⟩ hw rfl hl.1 (Nat.le_of_ble_eq_true rfl) d_E_fitsCovariance_12 rfl rfl ⟨Nat.zero_le _, Nat.zero_le _⟩ (fun _ H locs _ hw => ?_)
    refine sy_ifb_eq (tgt := 31) X d_E_fitsCovariance_15 (by decide) (fun c2 => ?_) (fun c2 => ?_)
    · refine sy_iconst X d_E_fitsCovariance_31 ?_
      exact kr () _ _ _ _ _ d_E_fitsCovariance_32 hw trivial (by split <;> first | rfl | (exfalso; omega)) (by decide)
    · refine sy_iload_n X d_E_fitsCovariance_18 hl 2 rfl ?_
      refine sy_bipush X d_E_fitsCovariance_19 (by decide) ?_
      refine call_Si (Xs := []) (As := [.int (iI u), .int (iI 99)]) (rest := []) X lk_E_76 (c_E_within l D cs (ws) u 99 h2 (by decide)) ⟨by decide, by decide⟩ hw rfl hl.1 (Nat.le_of_ble_eq_true rfl) d_E_fitsCovariance_21 rfl rfl ⟨Nat.zero_le _, Nat.zero_le _⟩ (fun _ H locs _ hw => ?_)
      refine sy_ifb_eq (tgt := 31) X d_E_fitsCovariance_24 (by decide) (fun c3 => ?_) (fun c3 => ?_)
      · refine sy_iconst X d_E_fitsCovariance_31 ?_
        exact kr () _ _ _ _ _ d_E_fitsCovariance_32 hw trivial (by split <;> first | rfl | (exfalso; omega)) (by decide)
      · refine sy_iconst X d_E_fitsCovariance_27 ?_
        refine sy_goto (tgt := 32) X d_E_fitsCovariance_28 (by decide) ?_
        exact kr () _ _ _ _ _ d_E_fitsCovariance_32 hw trivial (by split <;> first | rfl | (exfalso; omega)) (by decide)
set_option maxRecDepth 100000 in
set_option maxHeartbeats 4000000 in
theorem c_E_latest (l : Launch) (D : va_G) (cs : Nat → ClassId) (ad : Nat → Nat → Nat) (E O P : Nat → Nat → Int) (z : Nat → Int) (t q : Nat) (ht : E 0 0 = (t : Int)) (hq : E 0 1 = (q : Int)) : Ct (S := Unit) l D (tyL cs) y_E_latest b_E_latest 1 (some .int) (rm 1) [.ref (ad 5 0)] (wE ad cs E O P z) (fun _ => True) (fun _ => some (.int (iI ((t + q : Nat) : Int)))) (fun _ => wE ad cs E O P z) := by
  refine Ct.introI (by decide) (Nat.le_of_ble_eq_true rfl) ?_
  intro p e s m below meth c A args Q H locs X hnm hw kr ls hl
  have X : CX D (tyL cs) R_E b_E_latest 1 p m c s args := X
  have hl : lv_has ls 1 [(0, .ref (ad 5 0))] := hl
  refine sy_aload_n X d_E_latest_0 hl 0 rfl ?_
  refine e_get (v := .int (iI (t : Int))) X hw 5 (by decide) (by show some (Value.int (iI (E 0 0))) = _; rw [ht]) (tt_of k203 rfl) d_E_latest_1 ?_
  refine sy_aload_n X d_E_latest_4 hl 0 rfl ?_
  refine e_get (v := .int (iI (q : Int))) X hw 6 (by decide) (by show some (Value.int (iI (E 0 1))) = _; rw [hq]) (tt_of k204 rfl) d_E_latest_5 ?_
  refine sy_iadd X d_E_latest_8 ?_
  exact kr () _ _ _ _ _ d_E_latest_9 hw trivial rfl
set_option maxRecDepth 100000 in
set_option maxHeartbeats 4000000 in
theorem c_E_time (l : Launch) (D : va_G) (cs : Nat → ClassId) (ad : Nat → Nat → Nat) (E O P : Nat → Nat → Int) (z : Nat → Int)  : Ct (S := Unit) l D (tyL cs) y_E_time b_E_time 1 (some .int) (rm 1) [.ref (ad 5 0)] (wE ad cs E O P z) (fun _ => True) (fun _ => some (.int (iI (E 0 0)))) (fun _ => wE ad cs E O P z) := by
  refine Ct.introI (by decide) (Nat.le_of_ble_eq_true rfl) ?_
  intro p e s m below meth c A args Q H locs X hnm hw kr ls hl
  have X : CX D (tyL cs) R_E b_E_time 1 p m c s args := X
  have hl : lv_has ls 1 [(0, .ref (ad 5 0))] := hl
  refine sy_aload_n X d_E_time_0 hl 0 rfl ?_
  refine e_get (v := .int (iI (E 0 0))) X hw 5 (by decide) (by show some (Value.int (iI (E 0 0))) = _; rw [show E 0 0 = E 0 0 from rfl]) (tt_of k203 rfl) d_E_time_1 ?_
  exact kr () _ _ _ _ _ d_E_time_4 hw trivial rfl
set_option maxRecDepth 100000 in
set_option maxHeartbeats 4000000 in
theorem c_E_observations (l : Launch) (D : va_G) (cs : Nat → ClassId) (ad : Nat → Nat → Nat) (E O P : Nat → Nat → Int) (z : Nat → Int)  : Ct (S := Unit) l D (tyL cs) y_E_observations b_E_observations 1 (some .int) (rm 1) [.ref (ad 5 0)] (wE ad cs E O P z) (fun _ => True) (fun _ => some (.int (iI (E 0 1)))) (fun _ => wE ad cs E O P z) := by
  refine Ct.introI (by decide) (Nat.le_of_ble_eq_true rfl) ?_
  intro p e s m below meth c A args Q H locs X hnm hw kr ls hl
  have X : CX D (tyL cs) R_E b_E_observations 1 p m c s args := X
  have hl : lv_has ls 1 [(0, .ref (ad 5 0))] := hl
  refine sy_aload_n X d_E_observations_0 hl 0 rfl ?_
  refine e_get (v := .int (iI (E 0 1))) X hw 6 (by decide) (by show some (Value.int (iI (E 0 1))) = _; rw [show E 0 1 = E 0 1 from rfl]) (tt_of k204 rfl) d_E_observations_1 ?_
  exact kr () _ _ _ _ _ d_E_observations_4 hw trivial rfl
set_option maxRecDepth 100000 in
set_option maxHeartbeats 4000000 in
theorem c_E_initial (l : Launch) (D : va_G) (cs : Nat → ClassId) (ad : Nat → Nat → Nat) (E O P : Nat → Nat → Int) (z : Nat → Int) (a0 a1 b0 b1 b2 : Int) (h0 : R31 a0) (h1 : R31 a1) (h2 : R31 b0) (h3 : R31 b1) (h4 : R31 b2) : Ct (S := Int × (Nat → Nat → Int) × (Nat → Nat → Int) × (Nat → Nat → Int) × (Nat → Int)) l D (tyL cs) y_E_initial b_E_initial 6 (some .int) (rm 3) [.ref (ad 5 0), .int (iI a0), .int (iI a1), .int (iI b0), .int (iI b1), .int (iI b2)] (wE ad cs E O P z) (fun u => (¬ okI a0 a1 b0 b1 b2 ∧ u = (-3, E, O, P, z)) ∨ (okI a0 a1 b0 b1 b2 ∧ ¬ Pd b0 b1 b2 ∧ u = (-4, E, O, P, z)) ∨ (okI a0 a1 b0 b1 b2 ∧ Pd b0 b1 b2 ∧ u = (0, up2 (up2 E 0 0 0) 0 1 0, O, P, setB z 0 (estV a0 a1 b0 b1 b2)))) (fun u => some (.int (iI u.1))) (fun u => wE ad cs u.2.1 u.2.2.1 u.2.2.2.1 u.2.2.2.2) := by
  refine Ct.introI (by decide) (Nat.le_of_ble_eq_true rfl) ?_
  intro p e s m below meth c A args Q H locs X hnm hw kr ls hl
  have X : CX D (tyL cs) R_E b_E_initial 6 p m c s args := X
  have hl : lv_has ls 6 [(0, .ref (ad 5 0)), (1, .int (iI a0)), (2, .int (iI a1)), (3, .int (iI b0)), (4, .int (iI b1)), (5, .int (iI b2))] := hl
  refine sy_iload_n X d_E_initial_0 hl 1 rfl ?_
  refine sy_bipush X d_E_initial_1 (by decide) ?_
  refine call_Si (Xs := []) (As := [.int (iI a0), .int (iI 99)]) (rest := []) X lk_E_76 (c_E_within l D cs (wE ad cs E O P z) a0 99 h0 (by decide)) ⟨by decide, by decide⟩ hw rfl hl.1 (Nat.le_of_ble_eq_true rfl) d_E_initial_3 rfl rfl ⟨Nat.zero_le _, Nat.zero_le _⟩ (fun _ H locs _ hw => ?_)
  refine sy_ifb_eq (tgt := 29) X d_E_initial_6 (by decide) (fun c1 => ?_) (fun c1 => ?_)
  · refine sy_bipush X d_E_initial_29 (by decide) ?_
    exact kr (-3, E, O, P, z) _ _ _ _ _ d_E_initial_31 hw (Or.inl ⟨fun h => by simp only [okI] at h; omega, rfl⟩) rfl
  · refine sy_iload_n X d_E_initial_9 hl 2 rfl ?_
    refine sy_bipush X d_E_initial_10 (by decide) ?_
    refine call_Si (Xs := []) (As := [.int (iI a1), .int (iI 99)]) (rest := []) X lk_E_76 (c_E_within l D cs (wE ad cs E O P z) a1 99 h1 (by decide)) ⟨by decide, by decide⟩ hw rfl hl.1 (Nat.le_of_ble_eq_true rfl) d_E_initial_12 rfl rfl ⟨Nat.zero_le _, Nat.zero_le _⟩ (fun _ H locs _ hw => ?_)
    refine sy_ifb_eq (tgt := 29) X d_E_initial_15 (by decide) (fun c2 => ?_) (fun c2 => ?_)
    · refine sy_bipush X d_E_initial_29 (by decide) ?_
      exact kr (-3, E, O, P, z) _ _ _ _ _ d_E_initial_31 hw (Or.inl ⟨fun h => by simp only [okI] at h; omega, rfl⟩) rfl
    · refine sy_iload_n X d_E_initial_18 hl 3 rfl ?_
      refine sy_iload X d_E_initial_19 hl 4 rfl ?_
      refine sy_iload X d_E_initial_21 hl 5 rfl ?_
      refine call_Si (Xs := []) (As := [.int (iI b0), .int (iI b1), .int (iI b2)]) (rest := []) X lk_E_80 (c_E_fitsCovariance l D cs (wE ad cs E O P z) b0 b1 b2 h2 h3 h4) ⟨by decide, by decide⟩ hw rfl hl.1 (Nat.le_of_ble_eq_true rfl) d_E_initial_23 rfl rfl ⟨Nat.zero_le _, Nat.zero_le _⟩ (fun _ H locs _ hw => ?_)
      refine sy_ifb_ne (tgt := 32) X d_E_initial_26 (by decide) (fun c3 => ?_) (fun c3 => ?_)
      · refine sy_iload_n X d_E_initial_32 hl 3 rfl ?_
        refine sy_iload X d_E_initial_33 hl 4 rfl ?_
        refine sy_iload X d_E_initial_35 hl 5 rfl ?_
        refine call_Si (Xs := []) (As := [.int (iI b0), .int (iI b1), .int (iI b2)]) (rest := []) X lk_E_84 (c_E_isPositive l D cs (wE ad cs E O P z) b0 b1 b2 (by omega) (by omega) (by omega)) ⟨by decide, by decide⟩ hw rfl hl.1 (Nat.le_of_ble_eq_true rfl) d_E_initial_37 rfl rfl ⟨Nat.zero_le _, Nat.zero_le _⟩ (fun _ H locs _ hw => ?_)
        refine sy_ifb_ne (tgt := 46) X d_E_initial_40 (by decide) (fun c4 => ?_) (fun c4 => ?_)
        · refine sy_aload_n X d_E_initial_46 hl 0 rfl ?_
          refine sy_iconst X d_E_initial_47 ?_
          refine e_put X hw 0 (by decide) (tt_of k203 rfl) d_E_initial_48 (fun H locs hw => ?_)
          refine sy_aload_n X d_E_initial_51 hl 0 rfl ?_
          refine sy_iconst X d_E_initial_52 ?_
          refine e_put X hw 1 (by decide) (tt_of k204 rfl) d_E_initial_53 (fun H locs hw => ?_)
          refine sy_aload_n X d_E_initial_56 hl 0 rfl ?_
          refine e_get X hw 0 (by decide) rfl (tt_of k198 rfl) d_E_initial_57 ?_
          refine sy_iconst X d_E_initial_60 ?_
          refine e_aldB X hw 0 (by omega) (by omega) d_E_initial_61 ?_
          refine sy_iload_n X d_E_initial_62 hl 1 rfl ?_
          refine sy_iload_n X d_E_initial_63 hl 2 rfl ?_
          refine sy_iload_n X d_E_initial_64 hl 3 rfl ?_
          refine sy_iload X d_E_initial_65 hl 4 rfl ?_
          refine sy_iload X d_E_initial_67 hl 5 rfl ?_
          refine call_Vv (Xs := XE ad cs (up2 (up2 E 0 0 0) 0 1 0)) (b := ad 2 0) (As := [.int (iI a0), .int (iI a1), .int (iI b0), .int (iI b1), .int (iI b2)]) (rest := []) X lk_E_72 (c_B_setEstimate l D cs ad O P z 0 a0 a1 b0 b1 b2 (by decide) (by omega) (by omega) (by omega) (by omega) (by omega)) ⟨by decide, by decide⟩ (rcv_B (by decide)) hw rfl hl.1 (Nat.le_of_ble_eq_true rfl) d_E_initial_69 rfl rfl ⟨Nat.zero_le _, Nat.zero_le _⟩ (fun _ H locs _ hw => ?_)
          refine sy_iconst X d_E_initial_72 ?_
          exact kr (0, up2 (up2 E 0 0 0) 0 1 0, O, P, setB z 0 (estV a0 a1 b0 b1 b2)) _ _ _ _ _ d_E_initial_73 hw (Or.inr (Or.inr ⟨by simp only [okI]; omega, by assumption, rfl⟩)) rfl
        · refine sy_bipush X d_E_initial_43 (by decide) ?_
          exact kr (-4, E, O, P, z) _ _ _ _ _ d_E_initial_45 hw (Or.inr (Or.inl ⟨by simp only [okI]; omega, by assumption, rfl⟩)) rfl
      · refine sy_bipush X d_E_initial_29 (by decide) ?_
        exact kr (-3, E, O, P, z) _ _ _ _ _ d_E_initial_31 hw (Or.inl ⟨fun h => by simp only [okI] at h; omega, rfl⟩) rfl
set_option maxRecDepth 100000 in
set_option maxHeartbeats 4000000 in
theorem c_E_step (l : Launch) (D : va_G) (cs : Nat → ClassId) (ad : Nat → Nat → Nat) (E O P : Nat → Nat → Int) (z : Nat → Int) (f0 f1 f2 f3 : Int) (h0 : R31 f0) (h1 : R31 f1) (h2 : R31 f2) (h3 : R31 f3) : Ct (S := Int × (Nat → Nat → Int) × (Nat → Nat → Int) × (Nat → Nat → Int) × (Nat → Int)) l D (tyL cs) y_E_step b_E_step 5 (some .boolean) (rm 2) [.ref (ad 5 0), .int (iI f0), .int (iI f1), .int (iI f2), .int (iI f3)] (wE ad cs E O P z) (fun u => (¬ okS f0 f1 f2 f3 ∧ u = (0, E, O, P, z)) ∨ (okS f0 f1 f2 f3 ∧ u = (1, E, O, up2 (up2 (up2 (up2 P 3 0 f0) 3 1 f1) 3 2 f2) 3 3 f3, z))) (fun u => some (.int (iI u.1))) (fun u => wE ad cs u.2.1 u.2.2.1 u.2.2.2.1 u.2.2.2.2) := by
  refine Ct.introZ (by decide) (Nat.le_of_ble_eq_true rfl) ?_
  intro p e s m below meth c A args Q H locs X hnm hw kr ls hl
  have X : CX D (tyL cs) R_E b_E_step 5 p m c s args := X
  have hl : lv_has ls 5 [(0, .ref (ad 5 0)), (1, .int (iI f0)), (2, .int (iI f1)), (3, .int (iI f2)), (4, .int (iI f3))] := hl
  refine sy_iload_n X d_E_step_0 hl 1 rfl ?_
  refine sy_iconst X d_E_step_1 ?_
  refine call_Si (Xs := []) (As := [.int (iI f0), .int (iI 3)]) (rest := []) X lk_E_76 (c_E_within l D cs (wE ad cs E O P z) f0 3 h0 (by decide)) ⟨by decide, by decide⟩ hw rfl hl.1 (Nat.le_of_ble_eq_true rfl) d_E_step_2 rfl rfl ⟨Nat.zero_le _, Nat.zero_le _⟩ (fun _ H locs _ hw => ?_)
  refine sy_ifb_eq (tgt := 33) X d_E_step_5 (by decide) (fun c1 => ?_) (fun c1 => ?_)
  · refine sy_iconst X d_E_step_33 ?_
    exact kr (0, E, O, P, z) _ _ _ _ _ d_E_step_34 hw (Or.inl ⟨fun h => by simp only [okS] at h; omega, rfl⟩) rfl (by decide)
  · refine sy_iload_n X d_E_step_8 hl 2 rfl ?_
    refine sy_iconst X d_E_step_9 ?_
    refine call_Si (Xs := []) (As := [.int (iI f1), .int (iI 3)]) (rest := []) X lk_E_76 (c_E_within l D cs (wE ad cs E O P z) f1 3 h1 (by decide)) ⟨by decide, by decide⟩ hw rfl hl.1 (Nat.le_of_ble_eq_true rfl) d_E_step_10 rfl rfl ⟨Nat.zero_le _, Nat.zero_le _⟩ (fun _ H locs _ hw => ?_)
    refine sy_ifb_eq (tgt := 33) X d_E_step_13 (by decide) (fun c2 => ?_) (fun c2 => ?_)
    · refine sy_iconst X d_E_step_33 ?_
      exact kr (0, E, O, P, z) _ _ _ _ _ d_E_step_34 hw (Or.inl ⟨fun h => by simp only [okS] at h; omega, rfl⟩) rfl (by decide)
    · refine sy_iload_n X d_E_step_16 hl 3 rfl ?_
      refine sy_iconst X d_E_step_17 ?_
      refine call_Si (Xs := []) (As := [.int (iI f2), .int (iI 3)]) (rest := []) X lk_E_76 (c_E_within l D cs (wE ad cs E O P z) f2 3 h2 (by decide)) ⟨by decide, by decide⟩ hw rfl hl.1 (Nat.le_of_ble_eq_true rfl) d_E_step_18 rfl rfl ⟨Nat.zero_le _, Nat.zero_le _⟩ (fun _ H locs _ hw => ?_)
      refine sy_ifb_eq (tgt := 33) X d_E_step_21 (by decide) (fun c3 => ?_) (fun c3 => ?_)
      · refine sy_iconst X d_E_step_33 ?_
        exact kr (0, E, O, P, z) _ _ _ _ _ d_E_step_34 hw (Or.inl ⟨fun h => by simp only [okS] at h; omega, rfl⟩) rfl (by decide)
      · refine sy_iload X d_E_step_24 hl 4 rfl ?_
        refine sy_iconst X d_E_step_26 ?_
        refine call_Si (Xs := []) (As := [.int (iI f3), .int (iI 3)]) (rest := []) X lk_E_76 (c_E_within l D cs (wE ad cs E O P z) f3 3 h3 (by decide)) ⟨by decide, by decide⟩ hw rfl hl.1 (Nat.le_of_ble_eq_true rfl) d_E_step_27 rfl rfl ⟨Nat.zero_le _, Nat.zero_le _⟩ (fun _ H locs _ hw => ?_)
        refine sy_ifb_ne (tgt := 35) X d_E_step_30 (by decide) (fun c4 => ?_) (fun c4 => ?_)
        · refine sy_aload_n X d_E_step_35 hl 0 rfl ?_
          refine e_get X hw 4 (by decide) rfl (tt_of k202 rfl) d_E_step_36 ?_
          refine sy_iload_n X d_E_step_39 hl 1 rfl ?_
          refine sy_iload_n X d_E_step_40 hl 2 rfl ?_
          refine sy_iload_n X d_E_step_41 hl 3 rfl ?_
          refine sy_iload X d_E_step_42 hl 4 rfl ?_
          refine call_Vv (Xs := XE ad cs E) (b := ad 4 3) (As := [.int (iI f0), .int (iI f1), .int (iI f2), .int (iI f3)]) (rest := []) X lk_E_64 (c_Q_setStep l D cs ad O P z 3 f0 f1 f2 f3 (by decide)) ⟨by decide, by decide⟩ (rcv_Q (by decide)) hw rfl hl.1 (Nat.le_of_ble_eq_true rfl) d_E_step_44 rfl rfl ⟨Nat.zero_le _, Nat.zero_le _⟩ (fun _ H locs _ hw => ?_)
          refine sy_iconst X d_E_step_47 ?_
          exact kr (1, E, O, up2 (up2 (up2 (up2 P 3 0 f0) 3 1 f1) 3 2 f2) 3 3 f3, z) _ _ _ _ _ d_E_step_48 hw (Or.inr ⟨by simp only [okS]; omega, rfl⟩) rfl (by decide)
        · refine sy_iconst X d_E_step_33 ?_
          exact kr (0, E, O, P, z) _ _ _ _ _ d_E_step_34 hw (Or.inl ⟨fun h => by simp only [okS] at h; omega, rfl⟩) rfl (by decide)
set_option maxRecDepth 100000 in
set_option maxHeartbeats 4000000 in
theorem c_E_noise (l : Launch) (D : va_G) (cs : Nat → ClassId) (ad : Nat → Nat → Nat) (E O P : Nat → Nat → Int) (z : Nat → Int) (b0 b1 b2 : Int) (h0 : R31 b0) (h1 : R31 b1) (h2 : R31 b2) : Ct (S := Int × (Nat → Nat → Int) × (Nat → Nat → Int) × (Nat → Nat → Int) × (Nat → Int)) l D (tyL cs) y_E_noise b_E_noise 4 (some .int) (rm 3) [.ref (ad 5 0), .int (iI b0), .int (iI b1), .int (iI b2)] (wE ad cs E O P z) (fun u => (¬ okC b0 b1 b2 ∧ u = (-3, E, O, P, z)) ∨ (okC b0 b1 b2 ∧ ¬ Pd b0 b1 b2 ∧ u = (-4, E, O, P, z)) ∨ (okC b0 b1 b2 ∧ Pd b0 b1 b2 ∧ u = (0, E, O, up2 (up2 (up2 P 3 4 b0) 3 5 b1) 3 6 b2, z))) (fun u => some (.int (iI u.1))) (fun u => wE ad cs u.2.1 u.2.2.1 u.2.2.2.1 u.2.2.2.2) := by
  refine Ct.introI (by decide) (Nat.le_of_ble_eq_true rfl) ?_
  intro p e s m below meth c A args Q H locs X hnm hw kr ls hl
  have X : CX D (tyL cs) R_E b_E_noise 4 p m c s args := X
  have hl : lv_has ls 4 [(0, .ref (ad 5 0)), (1, .int (iI b0)), (2, .int (iI b1)), (3, .int (iI b2))] := hl
  refine sy_iload_n X d_E_noise_0 hl 1 rfl ?_
  refine sy_iload_n X d_E_noise_1 hl 2 rfl ?_
  refine sy_iload_n X d_E_noise_2 hl 3 rfl ?_
  refine call_Si (Xs := []) (As := [.int (iI b0), .int (iI b1), .int (iI b2)]) (rest := []) X lk_E_80 (c_E_fitsCovariance l D cs (wE ad cs E O P z) b0 b1 b2 h0 h1 h2) ⟨by decide, by decide⟩ hw rfl hl.1 (Nat.le_of_ble_eq_true rfl) d_E_noise_3 rfl rfl ⟨Nat.zero_le _, Nat.zero_le _⟩ (fun _ H locs _ hw => ?_)
  refine sy_ifb_ne (tgt := 12) X d_E_noise_6 (by decide) (fun c1 => ?_) (fun c1 => ?_)
  · refine sy_iload_n X d_E_noise_12 hl 1 rfl ?_
    refine sy_iload_n X d_E_noise_13 hl 2 rfl ?_
    refine sy_iload_n X d_E_noise_14 hl 3 rfl ?_
    refine call_Si (Xs := []) (As := [.int (iI b0), .int (iI b1), .int (iI b2)]) (rest := []) X lk_E_84 (c_E_isPositive l D cs (wE ad cs E O P z) b0 b1 b2 (by omega) (by omega) (by omega)) ⟨by decide, by decide⟩ hw rfl hl.1 (Nat.le_of_ble_eq_true rfl) d_E_noise_15 rfl rfl ⟨Nat.zero_le _, Nat.zero_le _⟩ (fun _ H locs _ hw => ?_)
    refine sy_ifb_ne (tgt := 24) X d_E_noise_18 (by decide) (fun c2 => ?_) (fun c2 => ?_)
    · refine sy_aload_n X d_E_noise_24 hl 0 rfl ?_
      refine e_get X hw 4 (by decide) rfl (tt_of k202 rfl) d_E_noise_25 ?_
      refine sy_iload_n X d_E_noise_28 hl 1 rfl ?_
      refine sy_iload_n X d_E_noise_29 hl 2 rfl ?_
      refine sy_iload_n X d_E_noise_30 hl 3 rfl ?_
      refine call_Vv (Xs := XE ad cs E) (b := ad 4 3) (As := [.int (iI b0), .int (iI b1), .int (iI b2)]) (rest := []) X lk_E_68 (c_Q_setNoise l D cs ad O P z 3 b0 b1 b2 (by decide)) ⟨by decide, by decide⟩ (rcv_Q (by decide)) hw rfl hl.1 (Nat.le_of_ble_eq_true rfl) d_E_noise_31 rfl rfl ⟨Nat.zero_le _, Nat.zero_le _⟩ (fun _ H locs _ hw => ?_)
      refine sy_iconst X d_E_noise_34 ?_
      exact kr (0, E, O, up2 (up2 (up2 P 3 4 b0) 3 5 b1) 3 6 b2, z) _ _ _ _ _ d_E_noise_35 hw (Or.inr (Or.inr ⟨by simp only [okC]; omega, by assumption, rfl⟩)) rfl
    · refine sy_bipush X d_E_noise_21 (by decide) ?_
      exact kr (-4, E, O, P, z) _ _ _ _ _ d_E_noise_23 hw (Or.inr (Or.inl ⟨by simp only [okC]; omega, by assumption, rfl⟩)) rfl
  · refine sy_bipush X d_E_noise_9 (by decide) ?_
    exact kr (-3, E, O, P, z) _ _ _ _ _ d_E_noise_11 hw (Or.inl ⟨fun h => by simp only [okC] at h; omega, rfl⟩) rfl
set_option maxRecDepth 100000 in
set_option maxHeartbeats 4000000 in
theorem c_E_observe (l : Launch) (D : va_G) (cs : Nat → ClassId) (ad : Nat → Nat → Nat) (E O P : Nat → Nat → Int) (z : Nat → Int) (t q : Nat) (h0 h1 r x : Int) (i0 : R31 h0) (i1 : R31 h1) (i2 : R31 r) (i3 : R31 x) (ht : E 0 0 = (t : Int)) (ht3 : t ≤ 3) (hq : E 0 1 = (q : Int)) (hq6 : q ≤ 6) : Ct (S := Int × (Nat → Nat → Int) × (Nat → Nat → Int) × (Nat → Nat → Int) × (Nat → Int)) l D (tyL cs) y_E_observe b_E_observe 7 (some .int) (rm 4) [.ref (ad 5 0), .int (iI h0), .int (iI h1), .int (iI r), .int (iI x)] (wE ad cs E O P z) (fun u => (¬ okO h0 h1 r x ∧ u = (-3, E, O, P, z)) ∨ (okO h0 h1 r x ∧ q = 6 ∧ u = (-5, E, O, P, z)) ∨ (okO h0 h1 r x ∧ q ≠ 6 ∧ u = ((q : Int), up2 E 0 1 ((q : Int) + 1), up2 (up2 (up2 (up2 (up2 (up2 O q 0 h0) q 1 h1) q 2 r) q 3 x) q 4 (t : Int)) q 5 ((t + q : Nat) : Int), P, setB z (t + q + 1) (learnV (blB z (t + q)) h0 h1 r x)))) (fun u => some (.int (iI u.1))) (fun u => wE ad cs u.2.1 u.2.2.1 u.2.2.2.1 u.2.2.2.2) := by
  refine Ct.introI (by decide) (Nat.le_of_ble_eq_true rfl) ?_
  intro p e s m below meth c A args Q H locs X hnm hw kr ls hl
  have X : CX D (tyL cs) R_E b_E_observe 7 p m c s args := X
  have hl : lv_has ls 7 [(0, .ref (ad 5 0)), (1, .int (iI h0)), (2, .int (iI h1)), (3, .int (iI r)), (4, .int (iI x))] := hl
  have i01 := i0.1
  have i02 := i0.2
  have i11 := i1.1
  have i12 := i1.2
  have i21 := i2.1
  have i22 := i2.2
  have i31 := i3.1
  have i32 := i3.2
  refine sy_iload_n X d_E_observe_0 hl 1 rfl ?_
  refine sy_bipush X d_E_observe_1 (by decide) ?_
  refine call_Si (Xs := []) (As := [.int (iI h0), .int (iI 9)]) (rest := []) X lk_E_76 (c_E_within l D cs (wE ad cs E O P z) h0 9 i0 (by decide)) ⟨by decide, by decide⟩ hw rfl hl.1 (Nat.le_of_ble_eq_true rfl) d_E_observe_3 rfl rfl ⟨Nat.zero_le _, Nat.zero_le _⟩ (fun _ H locs _ hw => ?_)
  refine sy_ifb_eq (tgt := 40) X d_E_observe_6 (by decide) (fun c1 => ?_) (fun c1 => ?_)
  · refine sy_bipush X d_E_observe_40 (by decide) ?_
    exact kr (-3, E, O, P, z) _ _ _ _ _ d_E_observe_42 hw (Or.inl ⟨fun h => by simp only [okO] at h; omega, rfl⟩) rfl
  · refine sy_iload_n X d_E_observe_9 hl 2 rfl ?_
    refine sy_bipush X d_E_observe_10 (by decide) ?_
    refine call_Si (Xs := []) (As := [.int (iI h1), .int (iI 9)]) (rest := []) X lk_E_76 (c_E_within l D cs (wE ad cs E O P z) h1 9 i1 (by decide)) ⟨by decide, by decide⟩ hw rfl hl.1 (Nat.le_of_ble_eq_true rfl) d_E_observe_12 rfl rfl ⟨Nat.zero_le _, Nat.zero_le _⟩ (fun _ H locs _ hw => ?_)
    refine sy_ifb_eq (tgt := 40) X d_E_observe_15 (by decide) (fun c2 => ?_) (fun c2 => ?_)
    · refine sy_bipush X d_E_observe_40 (by decide) ?_
      exact kr (-3, E, O, P, z) _ _ _ _ _ d_E_observe_42 hw (Or.inl ⟨fun h => by simp only [okO] at h; omega, rfl⟩) rfl
    · refine sy_iload_n X d_E_observe_18 hl 3 rfl ?_
      refine sy_iconst X d_E_observe_19 ?_
      refine sy_icmp_lt (tgt := 40) X d_E_observe_20 (by decide) ⟨by omega, by omega⟩ ⟨by omega, by omega⟩ (fun c3 => ?_) (fun c3 => ?_)
      · refine sy_bipush X d_E_observe_40 (by decide) ?_
        exact kr (-3, E, O, P, z) _ _ _ _ _ d_E_observe_42 hw (Or.inl ⟨fun h => by simp only [okO] at h; omega, rfl⟩) rfl
      · refine sy_iload_n X d_E_observe_23 hl 3 rfl ?_
        refine sy_bipush X d_E_observe_24 (by decide) ?_
        refine sy_icmp_gt (tgt := 40) X d_E_observe_26 (by decide) ⟨by omega, by omega⟩ ⟨by omega, by omega⟩ (fun c4 => ?_) (fun c4 => ?_)
        · refine sy_bipush X d_E_observe_40 (by decide) ?_
          exact kr (-3, E, O, P, z) _ _ _ _ _ d_E_observe_42 hw (Or.inl ⟨fun h => by simp only [okO] at h; omega, rfl⟩) rfl
        · refine sy_iload X d_E_observe_29 hl 4 rfl ?_
          refine sy_sipush X d_E_observe_31 (by decide) ?_
          refine call_Si (Xs := []) (As := [.int (iI x), .int (iI 999)]) (rest := []) X lk_E_76 (c_E_within l D cs (wE ad cs E O P z) x 999 i3 (by decide)) ⟨by decide, by decide⟩ hw rfl hl.1 (Nat.le_of_ble_eq_true rfl) d_E_observe_34 rfl rfl ⟨Nat.zero_le _, Nat.zero_le _⟩ (fun _ H locs _ hw => ?_)
          refine sy_ifb_ne (tgt := 43) X d_E_observe_37 (by decide) (fun c5 => ?_) (fun c5 => ?_)
          · refine sy_aload_n X d_E_observe_43 hl 0 rfl ?_
            refine e_get (v := .int (iI (q : Int))) X hw 6 (by decide) (by show some (Value.int (iI (E 0 1))) = _; rw [hq]) (tt_of k204 rfl) d_E_observe_44 ?_
            refine sy_bipush X d_E_observe_47 (by decide) ?_
            refine sy_icmp_lt (tgt := 55) X d_E_observe_49 (by decide) ⟨by omega, by omega⟩ ⟨by omega, by omega⟩ (fun c6 => ?_) (fun c6 => ?_)
            · have hok : okO h0 h1 r x := by simp only [okO]; omega
              obtain ⟨ok0, ok1, ok2, ok3⟩ := id hok
              have hq5 : q ≤ 5 := by omega
              refine sy_aload_n X d_E_observe_55 hl 0 rfl ?_
              refine call_Vi (Xs := []) (b := ad 5 0) (As := []) (rest := []) X lk_E_94 (c_E_latest l D cs ad E O P z t q ht hq) ⟨by decide, by decide⟩ (rcv_E) hw rfl hl.1 (Nat.le_of_ble_eq_true rfl) d_E_observe_56 rfl rfl ⟨Nat.zero_le _, Nat.zero_le _⟩ (fun _ H locs _ hw => ?_)
              refine sy_istore (lv1 := [(5, .int (iI ((t + q : Nat) : Int))), (0, .ref (ad 5 0)), (1, .int (iI h0)), (2, .int (iI h1)), (3, .int (iI r)), (4, .int (iI x))]) X d_E_observe_59 hl (by decide) rfl (fun ls hl => ?_)
              refine sy_aload_n X d_E_observe_61 hl 1 rfl ?_
              refine e_get X hw 2 (by decide) rfl (tt_of k200 rfl) d_E_observe_62 ?_
              refine sy_aload_n X d_E_observe_65 hl 1 rfl ?_
              refine e_get (v := .int (iI (q : Int))) X hw 6 (by decide) (by show some (Value.int (iI (E 0 1))) = _; rw [hq]) (tt_of k204 rfl) d_E_observe_66 ?_
              refine e_aldO X hw q (by omega) (by omega) d_E_observe_69 ?_
              refine sy_astore (lv1 := [(6, .ref (ad 3 q)), (5, .int (iI ((t + q : Nat) : Int))), (0, .ref (ad 5 0)), (1, .int (iI h0)), (2, .int (iI h1)), (3, .int (iI r)), (4, .int (iI x))]) X d_E_observe_70 hl (by decide) rfl (fun ls hl => ?_)
              refine sy_aload X d_E_observe_72 hl 0 rfl ?_
              refine sy_iload_n X d_E_observe_74 hl 3 rfl ?_
              refine sy_iload_n X d_E_observe_75 hl 4 rfl ?_
              refine sy_iload_n X d_E_observe_76 hl 5 rfl ?_
              refine sy_iload X d_E_observe_77 hl 6 rfl ?_
              refine call_Vv (Xs := XE ad cs E) (b := ad 3 q) (As := [.int (iI h0), .int (iI h1), .int (iI r), .int (iI x)]) (rest := []) X lk_E_98 (c_O_set l D cs ad O P z q h0 h1 r x (by omega)) ⟨by decide, by decide⟩ (rcv_O (by omega)) hw rfl hl.1 (Nat.le_of_ble_eq_true rfl) d_E_observe_79 rfl rfl ⟨Nat.zero_le _, Nat.zero_le _⟩ (fun _ H locs _ hw => ?_)
              refine sy_aload X d_E_observe_82 hl 0 rfl ?_
              refine sy_aload_n X d_E_observe_84 hl 2 rfl ?_
              refine e_get (v := .int (iI (t : Int))) X hw 5 (by decide) (by show some (Value.int (iI (E 0 0))) = _; rw [ht]) (tt_of k203 rfl) d_E_observe_85 ?_
              refine sy_iload X d_E_observe_88 hl 1 rfl ?_
              refine call_Vv (Xs := XE ad cs E) (b := ad 3 q) (As := [.int (iI (t : Int)), .int (iI ((t + q : Nat) : Int))]) (rest := []) X lk_E_101 (c_O_place l D cs ad (up2 (up2 (up2 (up2 O q 0 h0) q 1 h1) q 2 r) q 3 x) P z q (t : Int) ((t + q : Nat) : Int) (by omega)) ⟨by decide, by decide⟩ (rcv_O (by omega)) hw rfl hl.1 (Nat.le_of_ble_eq_true rfl) d_E_observe_90 rfl rfl ⟨Nat.zero_le _, Nat.zero_le _⟩ (fun _ H locs _ hw => ?_)
              obtain ⟨O2, eO2⟩ : ∃ g, g = up2 (up2 (up2 (up2 (up2 (up2 O q 0 h0) q 1 h1) q 2 r) q 3 x) q 4 (t : Int)) q 5 ((t + q : Nat) : Int) := ⟨_, rfl⟩
              rw [← eO2] at hw
              have v0 : O2 q 0 = h0 := by rw [eO2]; simp [up2, up1]
              have v1 : O2 q 1 = h1 := by rw [eO2]; simp [up2, up1]
              have v2 : O2 q 2 = r := by rw [eO2]; simp [up2, up1]
              have v3 : O2 q 3 = x := by rw [eO2]; simp [up2, up1]
              refine sy_aload_n X d_E_observe_93 hl 2 rfl ?_
              refine e_get X hw 0 (by decide) rfl (tt_of k198 rfl) d_E_observe_94 ?_
              refine sy_iload X d_E_observe_97 hl 1 rfl ?_
              refine sy_iconst X d_E_observe_99 ?_
              refine sy_iadd X d_E_observe_100 ?_
              refine e_aldB X hw ((t + q) + 1) (by omega) (by omega) d_E_observe_101 ?_
              refine sy_aload_n X d_E_observe_102 hl 2 rfl ?_
              refine e_get X hw 0 (by decide) rfl (tt_of k198 rfl) d_E_observe_103 ?_
              refine sy_iload X d_E_observe_106 hl 1 rfl ?_
              refine e_aldB X hw (t + q) (by omega) (by omega) d_E_observe_108 ?_
              refine call_Vv (Xs := XE ad cs E) (b := ad 2 ((t + q) + 1)) (As := [.ref (ad 2 (t + q))]) (rest := []) X lk_E_105 (c_B_copy l D cs ad O2 P z (t + q + 1) (t + q) (by omega) (by omega) (by omega)) ⟨by decide, by decide⟩ (rcv_B (by omega)) hw rfl hl.1 (Nat.le_of_ble_eq_true rfl) d_E_observe_109 rfl rfl ⟨Nat.zero_le _, Nat.zero_le _⟩ (fun _ H locs _ hw => ?_)
              refine sy_aload_n X d_E_observe_112 hl 2 rfl ?_
              refine e_get X hw 0 (by decide) rfl (tt_of k198 rfl) d_E_observe_113 ?_
              refine sy_iload X d_E_observe_116 hl 1 rfl ?_
              refine sy_iconst X d_E_observe_118 ?_
              refine sy_iadd X d_E_observe_119 ?_
              refine e_aldB X hw ((t + q) + 1) (by omega) (by omega) d_E_observe_120 ?_
              refine sy_aload X d_E_observe_121 hl 0 rfl ?_
              refine call_Vv (Xs := XE ad cs E) (b := ad 2 ((t + q) + 1)) (As := [.ref (ad 3 q)]) (rest := []) X lk_E_109 (c_B_learn l D cs ad O2 P (setB z (t + q + 1) (blB z (t + q))) (t + q + 1) q (by omega) (by omega) (by rw [v0]; exact ok0) (by rw [v1]; exact ok1) (by rw [v2]; exact ok2) (by rw [v3]; exact ok3)) ⟨by decide, by decide⟩ (rcv_B (by omega)) hw rfl hl.1 (Nat.le_of_ble_eq_true rfl) d_E_observe_123 rfl rfl ⟨Nat.zero_le _, Nat.zero_le _⟩ (fun _ H locs _ hw => ?_)
              rw [v0, v1, v2, v3, setB_setB, setB_congr (learnV_congr (u1 := blB z (t + q)) (fun i hi => blB_s hi))] at hw
              refine sy_aload_n X d_E_observe_126 hl 2 rfl ?_
              refine sy_dup X d_E_observe_127 rfl ?_
              refine e_get (v := .int (iI (q : Int))) X hw 6 (by decide) (by show some (Value.int (iI (E 0 1))) = _; rw [hq]) (tt_of k204 rfl) d_E_observe_128 ?_
              refine sy_iconst X d_E_observe_131 ?_
              refine sy_iadd X d_E_observe_132 ?_
              refine e_put X hw 1 (by decide) (tt_of k204 rfl) d_E_observe_133 (fun H locs hw => ?_)
              refine sy_aload_n X d_E_observe_136 hl 2 rfl ?_
              refine e_get (v := .int (iI ((q : Int) + 1))) X hw 6 (by decide) (by show some (Value.int (iI ((up2 E 0 1 ((q : Int) + 1)) 0 1))) = _; rw [show (up2 E 0 1 ((q : Int) + 1)) 0 1 = (q : Int) + 1 from rfl]) (tt_of k204 rfl) d_E_observe_137 ?_
              refine sy_iconst X d_E_observe_140 ?_
              refine sy_isub X d_E_observe_141 ?_
              rw [eO2] at hw
              exact kr ((q : Int), up2 E 0 1 ((q : Int) + 1), up2 (up2 (up2 (up2 (up2 (up2 O q 0 h0) q 1 h1) q 2 r) q 3 x) q 4 (t : Int)) q 5 ((t + q : Nat) : Int), P, setB z (t + q + 1) (learnV (blB z (t + q)) h0 h1 r x)) _ _ _ _ _ d_E_observe_142 hw (Or.inr (Or.inr ⟨hok, by omega, rfl⟩)) (by congr 3; omega)
            · refine sy_bipush X d_E_observe_52 (by decide) ?_
              exact kr (-5, E, O, P, z) _ _ _ _ _ d_E_observe_54 hw (Or.inr (Or.inl ⟨by simp only [okO]; omega, by omega, rfl⟩)) rfl
          · refine sy_bipush X d_E_observe_40 (by decide) ?_
            exact kr (-3, E, O, P, z) _ _ _ _ _ d_E_observe_42 hw (Or.inl ⟨fun h => by simp only [okO] at h; omega, rfl⟩) rfl
set_option maxRecDepth 100000 in
set_option maxHeartbeats 4000000 in
theorem c_E_advance (l : Launch) (D : va_G) (cs : Nat → ClassId) (ad : Nat → Nat → Nat) (E O P : Nat → Nat → Int) (z : Nat → Int) (t q : Nat) (ht : E 0 0 = (t : Int)) (ht3 : t ≤ 3) (hq : E 0 1 = (q : Int)) (hq6 : q ≤ 6) (k0 : ∀ j, j < 4 → -3 ≤ P 3 j ∧ P 3 j ≤ 3) (k1 : ∀ j, j < 3 → -99 ≤ P 3 (4 + j) ∧ P 3 (4 + j) ≤ 99) : Ct (S := Int × (Nat → Nat → Int) × (Nat → Nat → Int) × (Nat → Nat → Int) × (Nat → Int)) l D (tyL cs) y_E_advance b_E_advance 3 (some .int) (rm 5) [.ref (ad 5 0)] (wE ad cs E O P z) (fun u => (t = 3 ∧ u = (-5, E, O, P, z)) ∨ (t ≠ 3 ∧ u = ((t : Int) + 1, up2 (up2 E 0 0 ((t : Int) + 1)) 1 (t + 1) ((t + q + 1 : Nat) : Int), O, up2 (up2 (up2 (up2 (up2 (up2 (up2 P t 0 (P 3 0)) t 1 (P 3 1)) t 2 (P 3 2)) t 3 (P 3 3)) t 4 (P 3 4)) t 5 (P 3 5)) t 6 (P 3 6), setB z (t + q + 1) (noiseV (onV (blB z (t + q + 1)) (blB z (t + q)) (P 3)) (P 3 4) (P 3 5) (P 3 6))))) (fun u => some (.int (iI u.1))) (fun u => wE ad cs u.2.1 u.2.2.1 u.2.2.2.1 u.2.2.2.2) := by
  refine Ct.introI (by decide) (Nat.le_of_ble_eq_true rfl) ?_
  intro p e s m below meth c A args Q H locs X hnm hw kr ls hl
  have X : CX D (tyL cs) R_E b_E_advance 3 p m c s args := X
  have hl : lv_has ls 3 [(0, .ref (ad 5 0))] := hl
  refine sy_aload_n X d_E_advance_0 hl 0 rfl ?_
  refine e_get (v := .int (iI (t : Int))) X hw 5 (by decide) (by show some (Value.int (iI (E 0 0))) = _; rw [ht]) (tt_of k203 rfl) d_E_advance_1 ?_
  refine sy_iconst X d_E_advance_4 ?_
  refine sy_icmp_lt (tgt := 11) X d_E_advance_5 (by decide) ⟨by omega, by omega⟩ ⟨by omega, by omega⟩ (fun c1 => ?_) (fun c1 => ?_)
  · refine sy_aload_n X d_E_advance_11 hl 0 rfl ?_
    refine call_Vi (Xs := []) (b := ad 5 0) (As := []) (rest := []) X lk_E_94 (c_E_latest l D cs ad E O P z t q ht hq) ⟨by decide, by decide⟩ (rcv_E) hw rfl hl.1 (Nat.le_of_ble_eq_true rfl) d_E_advance_12 rfl rfl ⟨Nat.zero_le _, Nat.zero_le _⟩ (fun _ H locs _ hw => ?_)
    refine sy_istore_n (lv1 := [(1, .int (iI ((t + q : Nat) : Int))), (0, .ref (ad 5 0))]) X d_E_advance_15 hl rfl (by decide) rfl (fun ls hl => ?_)
    refine sy_aload_n X d_E_advance_16 hl 1 rfl ?_
    refine e_get X hw 3 (by decide) rfl (tt_of k201 rfl) d_E_advance_17 ?_
    refine sy_aload_n X d_E_advance_20 hl 1 rfl ?_
    refine e_get (v := .int (iI (t : Int))) X hw 5 (by decide) (by show some (Value.int (iI (E 0 0))) = _; rw [ht]) (tt_of k203 rfl) d_E_advance_21 ?_
    refine e_aldQ X hw t (by omega) (by omega) d_E_advance_24 ?_
    refine sy_astore_n (lv1 := [(2, .ref (ad 4 t)), (1, .int (iI ((t + q : Nat) : Int))), (0, .ref (ad 5 0))]) X d_E_advance_25 hl rfl (by decide) rfl (fun ls hl => ?_)
    refine sy_aload_n X d_E_advance_26 hl 0 rfl ?_
    refine sy_aload_n X d_E_advance_27 hl 2 rfl ?_
    refine e_get X hw 4 (by decide) rfl (tt_of k202 rfl) d_E_advance_28 ?_
    refine call_Vv (Xs := XE ad cs E) (b := ad 4 t) (As := [.ref (ad 4 3)]) (rest := []) X lk_E_113 (c_Q_copy l D cs ad O P z t 3 (by omega) (by decide) (by omega)) ⟨by decide, by decide⟩ (rcv_Q (by omega)) hw rfl hl.1 (Nat.le_of_ble_eq_true rfl) d_E_advance_31 rfl rfl ⟨Nat.zero_le _, Nat.zero_le _⟩ (fun _ H locs _ hw => ?_)
    obtain ⟨P2, eP2⟩ : ∃ g, g = up2 (up2 (up2 (up2 (up2 (up2 (up2 P t 0 (P 3 0)) t 1 (P 3 1)) t 2 (P 3 2)) t 3 (P 3 3)) t 4 (P 3 4)) t 5 (P 3 5)) t 6 (P 3 6) := ⟨_, rfl⟩
    rw [← eP2] at hw
    have v0 : P2 t 0 = P 3 0 := by rw [eP2]; simp [up2, up1]
    have v1 : P2 t 1 = P 3 1 := by rw [eP2]; simp [up2, up1]
    have v2 : P2 t 2 = P 3 2 := by rw [eP2]; simp [up2, up1]
    have v3 : P2 t 3 = P 3 3 := by rw [eP2]; simp [up2, up1]
    have v4 : P2 t 4 = P 3 4 := by rw [eP2]; simp [up2, up1]
    have v5 : P2 t 5 = P 3 5 := by rw [eP2]; simp [up2, up1]
    have v6 : P2 t 6 = P 3 6 := by rw [eP2]; simp [up2, up1]
    have hP4 : ∀ j, j < 4 → P2 t j = P 3 j := fun j hj => by
      have : j = 0 ∨ j = 1 ∨ j = 2 ∨ j = 3 := by omega
      rcases this with e | e | e | e <;> subst e <;> assumption
    refine sy_aload_n X d_E_advance_34 hl 2 rfl ?_
    refine e_get X hw 0 (by decide) rfl (tt_of k198 rfl) d_E_advance_35 ?_
    refine sy_iload_n X d_E_advance_38 hl 1 rfl ?_
    refine sy_iconst X d_E_advance_39 ?_
    refine sy_iadd X d_E_advance_40 ?_
    refine e_aldB X hw ((t + q) + 1) (by omega) (by omega) d_E_advance_41 ?_
    refine sy_aload_n X d_E_advance_42 hl 2 rfl ?_
    refine e_get X hw 0 (by decide) rfl (tt_of k198 rfl) d_E_advance_43 ?_
    refine sy_iload_n X d_E_advance_46 hl 1 rfl ?_
    refine e_aldB X hw (t + q) (by omega) (by omega) d_E_advance_47 ?_
    refine sy_aload_n X d_E_advance_48 hl 0 rfl ?_
    refine call_Vv (Xs := XE ad cs E) (b := ad 2 ((t + q) + 1)) (As := [.ref (ad 2 (t + q)), .ref (ad 4 t)]) (rest := []) X lk_E_116 (c_B_moveOn l D cs ad O P2 z (t + q + 1) (t + q) t (by omega) (by omega) (by omega) (by omega) (fun j hj => by rw [hP4 j hj]; exact k0 j hj)) ⟨by decide, by decide⟩ (rcv_B (by omega)) hw rfl hl.1 (Nat.le_of_ble_eq_true rfl) d_E_advance_49 rfl rfl ⟨Nat.zero_le _, Nat.zero_le _⟩ (fun _ H locs _ hw => ?_)
    have eon : onV (blB z (t + q + 1)) (blB z (t + q)) (P2 t) = onV (blB z (t + q + 1)) (blB z (t + q)) (P 3) := by unfold onV; rw [v0, v1, v2, v3]
    rw [eon] at hw
    refine sy_aload_n X d_E_advance_52 hl 2 rfl ?_
    refine e_get X hw 0 (by decide) rfl (tt_of k198 rfl) d_E_advance_53 ?_
    refine sy_iload_n X d_E_advance_56 hl 1 rfl ?_
    refine sy_iconst X d_E_advance_57 ?_
    refine sy_iadd X d_E_advance_58 ?_
    refine e_aldB X hw ((t + q) + 1) (by omega) (by omega) d_E_advance_59 ?_
    refine sy_aload_n X d_E_advance_60 hl 0 rfl ?_
    refine call_Vv (Xs := XE ad cs E) (b := ad 2 ((t + q) + 1)) (As := [.ref (ad 4 t)]) (rest := []) X lk_E_120 (c_B_addNoise l D cs ad O P2 (setB z (t + q + 1) (onV (blB z (t + q + 1)) (blB z (t + q)) (P 3))) (t + q + 1) t (by omega) (by omega) (by rw [v4]; exact k1 0 (by decide)) (by rw [v5]; exact k1 1 (by decide)) (by rw [v6]; exact k1 2 (by decide))) ⟨by decide, by decide⟩ (rcv_B (by omega)) hw rfl hl.1 (Nat.le_of_ble_eq_true rfl) d_E_advance_61 rfl rfl ⟨Nat.zero_le _, Nat.zero_le _⟩ (fun _ H locs _ hw => ?_)
    rw [v4, v5, v6, setB_setB, setB_congr (noiseV_congr (u1 := onV (blB z (t + q + 1)) (blB z (t + q)) (P 3)) (fun i hi => blB_s hi))] at hw
    refine sy_aload_n X d_E_advance_64 hl 2 rfl ?_
    refine sy_dup X d_E_advance_65 rfl ?_
    refine e_get (v := .int (iI (t : Int))) X hw 5 (by decide) (by show some (Value.int (iI (E 0 0))) = _; rw [ht]) (tt_of k203 rfl) d_E_advance_66 ?_
    refine sy_iconst X d_E_advance_69 ?_
    refine sy_iadd X d_E_advance_70 ?_
    refine e_put X hw 0 (by decide) (tt_of k203 rfl) d_E_advance_71 (fun H locs hw => ?_)
    refine sy_aload_n X d_E_advance_74 hl 2 rfl ?_
    refine e_get X hw 1 (by decide) rfl (tt_of k199 rfl) d_E_advance_75 ?_
    refine sy_aload_n X d_E_advance_78 hl 2 rfl ?_
    refine e_get (v := .int (iI ((t : Int) + 1))) X hw 5 (by decide) (by show some (Value.int (iI ((up2 E 0 0 ((t : Int) + 1)) 0 0))) = _; rw [show (up2 E 0 0 ((t : Int) + 1)) 0 0 = (t : Int) + 1 from rfl]) (tt_of k203 rfl) d_E_advance_79 ?_
    refine sy_iload_n X d_E_advance_82 hl 1 rfl ?_
    refine sy_iconst X d_E_advance_83 ?_
    refine sy_iadd X d_E_advance_84 ?_
    refine e_ast X hw (t + 1) (by omega) (by omega) d_E_advance_85 (fun H locs hw => ?_)
    refine sy_aload_n X d_E_advance_86 hl 2 rfl ?_
    refine e_get (v := .int (iI ((t : Int) + 1))) X hw 5 (by decide) (by show some (Value.int (iI ((up2 (up2 E 0 0 ((t : Int) + 1)) 1 (t + 1) (((t + q : Nat) : Int) + 1)) 0 0))) = _; rw [show (up2 (up2 E 0 0 ((t : Int) + 1)) 1 (t + 1) (((t + q : Nat) : Int) + 1)) 0 0 = (t : Int) + 1 from rfl]) (tt_of k203 rfl) d_E_advance_87 ?_
    rw [eP2] at hw
    exact kr ((t : Int) + 1, up2 (up2 E 0 0 ((t : Int) + 1)) 1 (t + 1) ((t + q + 1 : Nat) : Int), O, up2 (up2 (up2 (up2 (up2 (up2 (up2 P t 0 (P 3 0)) t 1 (P 3 1)) t 2 (P 3 2)) t 3 (P 3 3)) t 4 (P 3 4)) t 5 (P 3 5)) t 6 (P 3 6), setB z (t + q + 1) (noiseV (onV (blB z (t + q + 1)) (blB z (t + q)) (P 3)) (P 3 4) (P 3 5) (P 3 6))) _ _ _ _ _ d_E_advance_90 hw (Or.inr ⟨by omega, rfl⟩) rfl
  · refine sy_bipush X d_E_advance_8 (by decide) ?_
    exact kr (-5, E, O, P, z) _ _ _ _ _ d_E_advance_10 hw (Or.inl ⟨by omega, rfl⟩) rfl
