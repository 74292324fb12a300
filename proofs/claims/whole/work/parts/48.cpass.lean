set_option maxRecDepth 100000 in
set_option maxHeartbeats 4000000 in
theorem c_O_set (l : Launch) (D : va_G) (cs : Nat → ClassId) (ad : Nat → Nat → Nat) (O P : Nat → Nat → Int) (z : Nat → Int) (i : Nat) (x0 x1 x2 x3 : Int) (hi : i < 6) : Ct (S := Unit) l D (tyL cs) y_O_set b_O_set 5 none (rm 1) [.ref (ad 3 i), .int (iI x0), .int (iI x1), .int (iI x2), .int (iI x3)] (wO ad cs O P z) (fun _ => True) (fun _ => none) (fun _ => wO ad cs (up2 (up2 (up2 (up2 O i 0 x0) i 1 x1) i 2 x2) i 3 x3) P z) := by
  refine Ct.introV (by decide) (Nat.le_of_ble_eq_true rfl) (fun _ => rfl) ?_
  intro p e s m below meth c A args Q H locs X hnm hw kr ls hl
  have X : CX D (tyL cs) R_O b_O_set 5 p m c s args := X
  have hl : lv_has ls 5 [(0, .ref (ad 3 i)), (1, .int (iI x0)), (2, .int (iI x1)), (3, .int (iI x2)), (4, .int (iI x3))] := hl
  refine sy_aload_n X d_O_set_0 hl 0 rfl ?_
  refine sy_iload_n X d_O_set_1 hl 1 rfl ?_
  refine o_put X hw 0 hi (by decide) (tt_of k153 rfl) d_O_set_2 (fun H locs hw => ?_)
  refine sy_aload_n X d_O_set_5 hl 0 rfl ?_
  refine sy_iload_n X d_O_set_6 hl 2 rfl ?_
  refine o_put X hw 1 hi (by decide) (tt_of k156 rfl) d_O_set_7 (fun H locs hw => ?_)
  refine sy_aload_n X d_O_set_10 hl 0 rfl ?_
  refine sy_iload_n X d_O_set_11 hl 3 rfl ?_
  refine o_put X hw 2 hi (by decide) (tt_of k159 rfl) d_O_set_12 (fun H locs hw => ?_)
  refine sy_aload_n X d_O_set_15 hl 0 rfl ?_
  refine sy_iload X d_O_set_16 hl 4 rfl ?_
  refine o_put X hw 3 hi (by decide) (tt_of k161 rfl) d_O_set_18 (fun H locs hw => ?_)
  exact kr () _ _ _ _ d_O_set_21 hw trivial
set_option maxRecDepth 100000 in
set_option maxHeartbeats 4000000 in
theorem c_O_place (l : Launch) (D : va_G) (cs : Nat → ClassId) (ad : Nat → Nat → Nat) (O P : Nat → Nat → Int) (z : Nat → Int) (i : Nat) (x0 x1 : Int) (hi : i < 6) : Ct (S := Unit) l D (tyL cs) y_O_place b_O_place 3 none (rm 1) [.ref (ad 3 i), .int (iI x0), .int (iI x1)] (wO ad cs O P z) (fun _ => True) (fun _ => none) (fun _ => wO ad cs (up2 (up2 O i 4 x0) i 5 x1) P z) := by
  refine Ct.introV (by decide) (Nat.le_of_ble_eq_true rfl) (fun _ => rfl) ?_
  intro p e s m below meth c A args Q H locs X hnm hw kr ls hl
  have X : CX D (tyL cs) R_O b_O_place 3 p m c s args := X
  have hl : lv_has ls 3 [(0, .ref (ad 3 i)), (1, .int (iI x0)), (2, .int (iI x1))] := hl
  refine sy_aload_n X d_O_place_0 hl 0 rfl ?_
  refine sy_iload_n X d_O_place_1 hl 1 rfl ?_
  refine o_put X hw 4 hi (by decide) (tt_of k164 rfl) d_O_place_2 (fun H locs hw => ?_)
  refine sy_aload_n X d_O_place_5 hl 0 rfl ?_
  refine sy_iload_n X d_O_place_6 hl 2 rfl ?_
  refine o_put X hw 5 hi (by decide) (tt_of k166 rfl) d_O_place_7 (fun H locs hw => ?_)
  exact kr () _ _ _ _ d_O_place_10 hw trivial
set_option maxRecDepth 100000 in
set_option maxHeartbeats 4000000 in
theorem c_Q_setStep (l : Launch) (D : va_G) (cs : Nat → ClassId) (ad : Nat → Nat → Nat) (O P : Nat → Nat → Int) (z : Nat → Int) (i : Nat) (x0 x1 x2 x3 : Int) (hi : i < 4) : Ct (S := Unit) l D (tyL cs) y_Q_setStep b_Q_setStep 5 none (rm 1) [.ref (ad 4 i), .int (iI x0), .int (iI x1), .int (iI x2), .int (iI x3)] (wO ad cs O P z) (fun _ => True) (fun _ => none) (fun _ => wO ad cs O (up2 (up2 (up2 (up2 P i 0 x0) i 1 x1) i 2 x2) i 3 x3) z) := by
  refine Ct.introV (by decide) (Nat.le_of_ble_eq_true rfl) (fun _ => rfl) ?_
  intro p e s m below meth c A args Q H locs X hnm hw kr ls hl
  have X : CX D (tyL cs) R_Q b_Q_setStep 5 p m c s args := X
  have hl : lv_has ls 5 [(0, .ref (ad 4 i)), (1, .int (iI x0)), (2, .int (iI x1)), (3, .int (iI x2)), (4, .int (iI x3))] := hl
  refine sy_aload_n X d_Q_setStep_0 hl 0 rfl ?_
  refine sy_iload_n X d_Q_setStep_1 hl 1 rfl ?_
  refine q_put X hw 0 hi (by decide) (tt_of k69 rfl) d_Q_setStep_2 (fun H locs hw => ?_)
  refine sy_aload_n X d_Q_setStep_5 hl 0 rfl ?_
  refine sy_iload_n X d_Q_setStep_6 hl 2 rfl ?_
  refine q_put X hw 1 hi (by decide) (tt_of k71 rfl) d_Q_setStep_7 (fun H locs hw => ?_)
  refine sy_aload_n X d_Q_setStep_10 hl 0 rfl ?_
  refine sy_iload_n X d_Q_setStep_11 hl 3 rfl ?_
  refine q_put X hw 2 hi (by decide) (tt_of k73 rfl) d_Q_setStep_12 (fun H locs hw => ?_)
  refine sy_aload_n X d_Q_setStep_15 hl 0 rfl ?_
  refine sy_iload X d_Q_setStep_16 hl 4 rfl ?_
  refine q_put X hw 3 hi (by decide) (tt_of k75 rfl) d_Q_setStep_18 (fun H locs hw => ?_)
  exact kr () _ _ _ _ d_Q_setStep_21 hw trivial
set_option maxRecDepth 100000 in
set_option maxHeartbeats 4000000 in
theorem c_Q_setNoise (l : Launch) (D : va_G) (cs : Nat → ClassId) (ad : Nat → Nat → Nat) (O P : Nat → Nat → Int) (z : Nat → Int) (i : Nat) (x0 x1 x2 : Int) (hi : i < 4) : Ct (S := Unit) l D (tyL cs) y_Q_setNoise b_Q_setNoise 4 none (rm 1) [.ref (ad 4 i), .int (iI x0), .int (iI x1), .int (iI x2)] (wO ad cs O P z) (fun _ => True) (fun _ => none) (fun _ => wO ad cs O (up2 (up2 (up2 P i 4 x0) i 5 x1) i 6 x2) z) := by
  refine Ct.introV (by decide) (Nat.le_of_ble_eq_true rfl) (fun _ => rfl) ?_
  intro p e s m below meth c A args Q H locs X hnm hw kr ls hl
  have X : CX D (tyL cs) R_Q b_Q_setNoise 4 p m c s args := X
  have hl : lv_has ls 4 [(0, .ref (ad 4 i)), (1, .int (iI x0)), (2, .int (iI x1)), (3, .int (iI x2))] := hl
  refine sy_aload_n X d_Q_setNoise_0 hl 0 rfl ?_
  refine sy_iload_n X d_Q_setNoise_1 hl 1 rfl ?_
  refine q_put X hw 4 hi (by decide) (tt_of k77 rfl) d_Q_setNoise_2 (fun H locs hw => ?_)
  refine sy_aload_n X d_Q_setNoise_5 hl 0 rfl ?_
  refine sy_iload_n X d_Q_setNoise_6 hl 2 rfl ?_
  refine q_put X hw 5 hi (by decide) (tt_of k79 rfl) d_Q_setNoise_7 (fun H locs hw => ?_)
  refine sy_aload_n X d_Q_setNoise_10 hl 0 rfl ?_
  refine sy_iload_n X d_Q_setNoise_11 hl 3 rfl ?_
  refine q_put X hw 6 hi (by decide) (tt_of k81 rfl) d_Q_setNoise_12 (fun H locs hw => ?_)
  exact kr () _ _ _ _ d_Q_setNoise_15 hw trivial
set_option maxRecDepth 100000 in
set_option maxHeartbeats 4000000 in
theorem c_Q_copy (l : Launch) (D : va_G) (cs : Nat → ClassId) (ad : Nat → Nat → Nat) (O P : Nat → Nat → Int) (z : Nat → Int) (i j : Nat) (hi : i < 4) (hj : j < 4) (hij : j ≠ i) : Ct (S := Unit) l D (tyL cs) y_Q_copy b_Q_copy 2 none (rm 2) [.ref (ad 4 i), .ref (ad 4 j)] (wO ad cs O P z) (fun _ => True) (fun _ => none) (fun _ => wO ad cs O (up2 (up2 (up2 (up2 (up2 (up2 (up2 P i 0 (P j 0)) i 1 (P j 1)) i 2 (P j 2)) i 3 (P j 3)) i 4 (P j 4)) i 5 (P j 5)) i 6 (P j 6)) z) := by
  refine Ct.introV (by decide) (Nat.le_of_ble_eq_true rfl) (fun _ => rfl) ?_
  intro p e s m below meth c A args Q H locs X hnm hw kr ls hl
  have X : CX D (tyL cs) R_Q b_Q_copy 2 p m c s args := X
  have hl : lv_has ls 2 [(0, .ref (ad 4 i)), (1, .ref (ad 4 j))] := hl
  refine sy_aload_n X d_Q_copy_0 hl 0 rfl ?_
  refine sy_aload_n X d_Q_copy_1 hl 1 rfl ?_
  refine q_get [] X hw 0 hj (by decide) (tt_of k69 rfl) d_Q_copy_2 ?_
  refine sy_aload_n X d_Q_copy_5 hl 1 rfl ?_
  refine q_get [] X hw 1 hj (by decide) (tt_of k71 rfl) d_Q_copy_6 ?_
  refine sy_aload_n X d_Q_copy_9 hl 1 rfl ?_
  refine q_get [] X hw 2 hj (by decide) (tt_of k73 rfl) d_Q_copy_10 ?_
  refine sy_aload_n X d_Q_copy_13 hl 1 rfl ?_
  refine q_get [] X hw 3 hj (by decide) (tt_of k75 rfl) d_Q_copy_14 ?_
  refine call_Vv (Xs := []) (b := ad 4 i) (As := [.int (iI (P j 0)), .int (iI (P j 1)), .int (iI (P j 2)), .int (iI (P j 3))]) (rest := []) X lk_Q_31 (c_Q_setStep l D cs ad O P z i (P j 0) (P j 1) (P j 2) (P j 3) hi) ⟨by decide, by decide⟩ (rcv_Q hi) hw rfl hl.1 (Nat.le_of_ble_eq_true rfl) d_Q_copy_17 rfl rfl ⟨Nat.zero_le _, Nat.zero_le _⟩ (fun _ H locs _ hw => ?_)
  have hPj : (up2 (up2 (up2 (up2 P i 0 (P j 0)) i 1 (P j 1)) i 2 (P j 2)) i 3 (P j 3)) j = P j := by rw [up2_n _ hij, up2_n _ hij, up2_n _ hij, up2_n _ hij]
  refine sy_aload_n X d_Q_copy_20 hl 0 rfl ?_
  refine sy_aload_n X d_Q_copy_21 hl 1 rfl ?_
  refine q_get [] X hw 4 hj (by decide) (tt_of k77 rfl) d_Q_copy_22 ?_
  rw [hPj]
  refine sy_aload_n X d_Q_copy_25 hl 1 rfl ?_
  refine q_get [] X hw 5 hj (by decide) (tt_of k79 rfl) d_Q_copy_26 ?_
  rw [hPj]
  refine sy_aload_n X d_Q_copy_29 hl 1 rfl ?_
  refine q_get [] X hw 6 hj (by decide) (tt_of k81 rfl) d_Q_copy_30 ?_
  rw [hPj]
  refine call_Vv (Xs := []) (b := ad 4 i) (As := [.int (iI (P j 4)), .int (iI (P j 5)), .int (iI (P j 6))]) (rest := []) X lk_Q_35 (c_Q_setNoise l D cs ad O (up2 (up2 (up2 (up2 P i 0 (P j 0)) i 1 (P j 1)) i 2 (P j 2)) i 3 (P j 3)) z i (P j 4) (P j 5) (P j 6) hi) ⟨by decide, by decide⟩ (rcv_Q hi) hw rfl hl.1 (Nat.le_of_ble_eq_true rfl) d_Q_copy_33 rfl rfl ⟨Nat.zero_le _, Nat.zero_le _⟩ (fun _ H locs _ hw => ?_)
  exact kr () _ _ _ _ d_Q_copy_36 hw trivial
set_option maxRecDepth 100000 in
set_option maxHeartbeats 4000000 in
theorem c_Q_stepDeterminant (l : Launch) (D : va_G) (cs : Nat → ClassId) (ad : Nat → Nat → Nat) (O P : Nat → Nat → Int) (z : Nat → Int) (i : Nat) (hi : i < 4) : Ct (S := Unit) l D (tyL cs) y_Q_stepDeterminant b_Q_stepDeterminant 1 (some .int) (rm 1) [.ref (ad 4 i)] (wO ad cs O P z) (fun _ => True) (fun _ => some (.int (iI (P i 0 * P i 3 - P i 1 * P i 2)))) (fun _ => wO ad cs O P z) := by
  refine Ct.introI (by decide) (Nat.le_of_ble_eq_true rfl) ?_
  intro p e s m below meth c A args Q H locs X hnm hw kr ls hl
  have X : CX D (tyL cs) R_Q b_Q_stepDeterminant 1 p m c s args := X
  have hl : lv_has ls 1 [(0, .ref (ad 4 i))] := hl
  refine sy_aload_n X d_Q_stepDeterminant_0 hl 0 rfl ?_
  refine q_get [] X hw 0 hi (by decide) (tt_of k69 rfl) d_Q_stepDeterminant_1 ?_
  refine sy_aload_n X d_Q_stepDeterminant_4 hl 0 rfl ?_
  refine q_get [] X hw 3 hi (by decide) (tt_of k75 rfl) d_Q_stepDeterminant_5 ?_
  refine sy_imul X d_Q_stepDeterminant_8 ?_
  refine sy_aload_n X d_Q_stepDeterminant_9 hl 0 rfl ?_
  refine q_get [] X hw 1 hi (by decide) (tt_of k71 rfl) d_Q_stepDeterminant_10 ?_
  refine sy_aload_n X d_Q_stepDeterminant_13 hl 0 rfl ?_
  refine q_get [] X hw 2 hi (by decide) (tt_of k73 rfl) d_Q_stepDeterminant_14 ?_
  refine sy_imul X d_Q_stepDeterminant_17 ?_
  refine sy_isub X d_Q_stepDeterminant_18 ?_
  exact kr () _ _ _ _ _ d_Q_stepDeterminant_19 hw trivial rfl
set_option maxRecDepth 100000 in
set_option maxHeartbeats 4000000 in
theorem c_Q_noiseDeterminant (l : Launch) (D : va_G) (cs : Nat → ClassId) (ad : Nat → Nat → Nat) (O P : Nat → Nat → Int) (z : Nat → Int) (i : Nat) (hi : i < 4) : Ct (S := Unit) l D (tyL cs) y_Q_noiseDeterminant b_Q_noiseDeterminant 1 (some .int) (rm 1) [.ref (ad 4 i)] (wO ad cs O P z) (fun _ => True) (fun _ => some (.int (iI (P i 4 * P i 6 - P i 5 * P i 5)))) (fun _ => wO ad cs O P z) := by
  refine Ct.introI (by decide) (Nat.le_of_ble_eq_true rfl) ?_
  intro p e s m below meth c A args Q H locs X hnm hw kr ls hl
  have X : CX D (tyL cs) R_Q b_Q_noiseDeterminant 1 p m c s args := X
  have hl : lv_has ls 1 [(0, .ref (ad 4 i))] := hl
  refine sy_aload_n X d_Q_noiseDeterminant_0 hl 0 rfl ?_
  refine q_get [] X hw 4 hi (by decide) (tt_of k77 rfl) d_Q_noiseDeterminant_1 ?_
  refine sy_aload_n X d_Q_noiseDeterminant_4 hl 0 rfl ?_
  refine q_get [] X hw 6 hi (by decide) (tt_of k81 rfl) d_Q_noiseDeterminant_5 ?_
  refine sy_imul X d_Q_noiseDeterminant_8 ?_
  refine sy_aload_n X d_Q_noiseDeterminant_9 hl 0 rfl ?_
  refine q_get [] X hw 5 hi (by decide) (tt_of k79 rfl) d_Q_noiseDeterminant_10 ?_
  refine sy_aload_n X d_Q_noiseDeterminant_13 hl 0 rfl ?_
  refine q_get [] X hw 5 hi (by decide) (tt_of k79 rfl) d_Q_noiseDeterminant_14 ?_
  refine sy_imul X d_Q_noiseDeterminant_17 ?_
  refine sy_isub X d_Q_noiseDeterminant_18 ?_
  exact kr () _ _ _ _ _ d_Q_noiseDeterminant_19 hw trivial rfl
