set_option maxRecDepth 100000 in
set_option maxHeartbeats 4000000 in
theorem c_M_pair (l : Launch) (D : va_G) (cs : Nat → ClassId) (ad : Nat → Nat) (M : Nat → Nat → Int) (N : Nat → Int) (z x : Nat) (a : Int) (y : Nat) (b : Int) (t : Nat) (B1 B2 : Nat) (hz : z < 120) (hx : x < 120) (hy : y < 120) (ht : t < 120) (hzt : z ≠ t) (hzy : z ≠ y) (ha : R31 a) (hb : R31 b) (hR : Rep M N) (g1 : Bn (N x * a) B1) (g2 : Bn (N y * b) B2) (k1 : B1 < 1700) (k2 : B2 < 1700) : Ct (S := Nat → Nat → Int) l D (tyL cs) y_M_pair b_M_pair 7 none (rm 5) [.ref (ad 0), .int (iI ((z : Nat) : Int)), .int (iI ((x : Nat) : Int)), .int (iI a), .int (iI ((y : Nat) : Int)), .int (iI b), .int (iI ((t : Nat) : Int))] (wM ad cs M) (fun M1 => ∃ N1, Rep M1 N1 ∧ Sm M M1 ∧ N1 z = N x * a + N y * b ∧ ∀ j, j ≠ z → j ≠ t → N1 j = N j) (fun _ => none) (fun M1 => wM ad cs M1) := by
  refine Ct.introV (by decide) (Nat.le_of_ble_eq_true rfl) (fun _ => rfl) ?_
  intro p e s m below meth c A args Q H locs X hnm hw kr ls hl
  have X : CX D (tyL cs) R_M b_M_pair 7 p m c s args := X
  have hl : lv_has ls 7 [(0, .ref (ad 0)), (1, .int (iI ((z : Nat) : Int))), (2, .int (iI ((x : Nat) : Int))), (3, .int (iI a)), (4, .int (iI ((y : Nat) : Int))), (5, .int (iI b)), (6, .int (iI ((t : Nat) : Int)))] := hl
  refine sy_aload_n X d_M_pair_0 hl 0 rfl ?_
  refine sy_iload_n X d_M_pair_1 hl 1 rfl ?_
  refine sy_iload_n X d_M_pair_2 hl 2 rfl ?_
  refine sy_iload_n X d_M_pair_3 hl 3 rfl ?_
  refine call_Vv (Xs := []) (b := ad 0) (As := [.int (iI ((z : Nat) : Int)), .int (iI ((x : Nat) : Int)), .int (iI a)]) (rest := []) X lk_M_52 (c_M_scale l D cs ad M N z x a hz hx ha hR (Bn.fin g1 (by omega))) ⟨by decide, by decide⟩ rcv_M hw rfl hl.1 (Nat.le_of_ble_eq_true rfl) d_M_pair_4 rfl rfl ⟨Nat.zero_le _, Nat.zero_le _⟩ (fun M1 H locs p1 hw => ?_)
  refine sy_aload_n X d_M_pair_7 hl 0 rfl ?_
  refine sy_iload_n X d_M_pair_8 hl 1 rfl ?_
  refine sy_iload X d_M_pair_9 hl 4 rfl ?_
  refine sy_iload X d_M_pair_11 hl 5 rfl ?_
  refine sy_iload X d_M_pair_13 hl 6 rfl ?_
  have e1 : up1 N z (N x * a) y = N y := up1_n _ (Ne.symm hzy)
  refine call_Vv (Xs := []) (b := ad 0) (As := [.int (iI ((z : Nat) : Int)), .int (iI ((y : Nat) : Int)), .int (iI b), .int (iI ((t : Nat) : Int))]) (rest := []) X lk_M_114 (c_M_gain l D cs ad M1 (up1 N z (N x * a)) z y b t hz hy ht hzt hb p1.1 (by rw [e1]; exact Bn.fin g2 (by omega)) (by rw [e1, up1_s]; exact Bn.fin (Bn.add g1 g2) (by omega))) ⟨by decide, by decide⟩ rcv_M hw rfl hl.1 (Nat.le_of_ble_eq_true rfl) d_M_pair_15 rfl rfl ⟨Nat.zero_le _, Nat.zero_le _⟩ (fun M2 H locs p2 hw => ?_)
  exact kr _ _ _ _ _ d_M_pair_18 hw ⟨_, p2.1, p1.2.tr p2.2, by rw [up1_s, up1_s, e1], fun j h1 h2 => by rw [up1_n _ h1, up1_n _ h2, up1_n _ h1]⟩
set_option maxRecDepth 100000 in
set_option maxHeartbeats 4000000 in
theorem c_M_crossed (l : Launch) (D : va_G) (cs : Nat → ClassId) (ad : Nat → Nat) (M : Nat → Nat → Int) (N : Nat → Int) (z u v x y : Nat) (s0 : Int) (t : Nat) (B1 B2 : Nat) (hz : z < 120) (hu : u < 120) (hv : v < 120) (hx : x < 120) (hy : y < 120) (ht : t < 120) (hzt : z ≠ t) (hzx : z ≠ x) (hzy : z ≠ y) (hs : s0 = 1 ∨ s0 = -1) (hR : Rep M N) (g1 : Bn (N u * N v) B1) (g2 : Bn (N x * N y) B2) (k1 : B1 < 1700) (k2 : B2 < 1700) : Ct (S := Nat → Nat → Int) l D (tyL cs) y_M_crossed b_M_crossed 8 none (rm 5) [.ref (ad 0), .int (iI ((z : Nat) : Int)), .int (iI ((u : Nat) : Int)), .int (iI ((v : Nat) : Int)), .int (iI ((x : Nat) : Int)), .int (iI ((y : Nat) : Int)), .int (iI s0), .int (iI ((t : Nat) : Int))] (wM ad cs M) (fun M1 => ∃ N1, Rep M1 N1 ∧ Sm M M1 ∧ N1 z = N u * N v + s0 * (N x * N y) ∧ ∀ j, j ≠ z → j ≠ t → N1 j = N j) (fun _ => none) (fun M1 => wM ad cs M1) := by
  refine Ct.introV (by decide) (Nat.le_of_ble_eq_true rfl) (fun _ => rfl) ?_
  intro p e s m below meth c A args Q H locs X hnm hw kr ls hl
  have X : CX D (tyL cs) R_M b_M_crossed 8 p m c s args := X
  have hl : lv_has ls 8 [(0, .ref (ad 0)), (1, .int (iI ((z : Nat) : Int))), (2, .int (iI ((u : Nat) : Int))), (3, .int (iI ((v : Nat) : Int))), (4, .int (iI ((x : Nat) : Int))), (5, .int (iI ((y : Nat) : Int))), (6, .int (iI s0)), (7, .int (iI ((t : Nat) : Int)))] := hl
  refine sy_aload_n X d_M_crossed_0 hl 0 rfl ?_
  refine sy_iload_n X d_M_crossed_1 hl 1 rfl ?_
  refine sy_iload_n X d_M_crossed_2 hl 2 rfl ?_
  refine sy_iload_n X d_M_crossed_3 hl 3 rfl ?_
  refine call_Vv (Xs := []) (b := ad 0) (As := [.int (iI ((z : Nat) : Int)), .int (iI ((u : Nat) : Int)), .int (iI ((v : Nat) : Int))]) (rest := []) X lk_M_59 (c_M_times l D cs ad M N z u v hz hu hv hR (Bn.fin g1 (by omega))) ⟨by decide, by decide⟩ rcv_M hw rfl hl.1 (Nat.le_of_ble_eq_true rfl) d_M_crossed_4 rfl rfl ⟨Nat.zero_le _, Nat.zero_le _⟩ (fun M1 H locs p1 hw => ?_)
  refine sy_aload_n X d_M_crossed_7 hl 0 rfl ?_
  refine sy_iload_n X d_M_crossed_8 hl 1 rfl ?_
  refine sy_iload X d_M_crossed_9 hl 4 rfl ?_
  refine sy_iload X d_M_crossed_11 hl 5 rfl ?_
  refine sy_iload X d_M_crossed_13 hl 6 rfl ?_
  refine sy_iload X d_M_crossed_15 hl 7 rfl ?_
  have e1 : up1 N z (N u * N v) x = N x := up1_n _ (Ne.symm hzx)
  have e2 : up1 N z (N u * N v) y = N y := up1_n _ (Ne.symm hzy)
  refine call_Vv (Xs := []) (b := ad 0) (As := [.int (iI ((z : Nat) : Int)), .int (iI ((x : Nat) : Int)), .int (iI ((y : Nat) : Int)), .int (iI s0), .int (iI ((t : Nat) : Int))]) (rest := []) X lk_M_120 (c_M_join l D cs ad M1 (up1 N z (N u * N v)) z x y s0 t hz hx hy ht hzt hs p1.1 (by rw [e1, e2]; exact Bn.fin g2 (by omega)) (by rw [e1, e2, up1_s]; exact Bn.fin (Bn.add g1 (g2.sg hs)) (by omega))) ⟨by decide, by decide⟩ rcv_M hw rfl hl.1 (Nat.le_of_ble_eq_true rfl) d_M_crossed_17 rfl rfl ⟨Nat.zero_le _, Nat.zero_le _⟩ (fun M2 H locs p2 hw => ?_)
  exact kr _ _ _ _ _ d_M_crossed_20 hw ⟨_, p2.1, p1.2.tr p2.2, by rw [up1_s, up1_s, e1, e2], fun j h1 h2 => by rw [up1_n _ h1, up1_n _ h2, up1_n _ h1]⟩
set_option maxRecDepth 100000 in
set_option maxHeartbeats 4000000 in
theorem c_M_gains (l : Launch) (D : va_G) (cs : Nat → ClassId) (ad : Nat → Nat) (M : Nat → Nat → Int) (N : Nat → Int) (f : Nat) (h0 h1 r : Int) (B : Nat) (hf : f + 6 ≤ 96) (k0 : -9 ≤ h0 ∧ h0 ≤ 9) (k1 : -9 ≤ h1 ∧ h1 ≤ 9) (k2 : 1 ≤ r ∧ r ≤ 99) (hR : Rep M N) (hB : B = 128) (hb : ∀ i, i < 6 → Bn (N (f + i)) 128) : Ct (S := Nat → Nat → Int) l D (tyL cs) y_M_gains b_M_gains 6 none (rm 5) [.ref (ad 0), .int (iI ((f : Nat) : Int)), .int (iI h0), .int (iI h1), .int (iI r)] (wM ad cs M) (fun M1 => ∃ N1, Rep M1 N1 ∧ Sm M M1 ∧ (N1 96 = N (f + 2) * h0 + N (f + 3) * h1 ∧ N1 97 = N (f + 3) * h0 + N (f + 4) * h1 ∧ N1 98 = (N (f + 2) * h0 + N (f + 3) * h1) * h0 + (N (f + 3) * h0 + N (f + 4) * h1) * h1 + N (f + 5) * r) ∧ ∀ j, j < 96 → N1 j = N j) (fun _ => none) (fun M1 => wM ad cs M1) := by
  refine Ct.introV (by decide) (Nat.le_of_ble_eq_true rfl) (fun _ => rfl) ?_
  intro p e s m below meth c A args Q H locs X hnm hw kr ls hl
  have X : CX D (tyL cs) R_M b_M_gains 6 p m c s args := X
  have hl : lv_has ls 6 [(0, .ref (ad 0)), (1, .int (iI ((f : Nat) : Int))), (2, .int (iI h0)), (3, .int (iI h1)), (4, .int (iI r))] := hl
  have b0 : Bn h0 4 := Bn.of (k := 9) k0 (by decide)
  have b1 : Bn h1 4 := Bn.of (k := 9) k1 (by decide)
  have br : Bn r 7 := Bn.of (k := 99) (by omega) (by decide)
  obtain ⟨u0, hu0⟩ : ∃ g, N f = g := ⟨_, rfl⟩
  have bu0 : Bn u0 128 := by rw [← hu0]; exact hb 0 (by decide)
  obtain ⟨u1, hu1⟩ : ∃ g, N (f + 1) = g := ⟨_, rfl⟩
  have bu1 : Bn u1 128 := by rw [← hu1]; exact hb 1 (by decide)
  obtain ⟨u2, hu2⟩ : ∃ g, N (f + 2) = g := ⟨_, rfl⟩
  have bu2 : Bn u2 128 := by rw [← hu2]; exact hb 2 (by decide)
  obtain ⟨u3, hu3⟩ : ∃ g, N (f + 3) = g := ⟨_, rfl⟩
  have bu3 : Bn u3 128 := by rw [← hu3]; exact hb 3 (by decide)
  obtain ⟨u4, hu4⟩ : ∃ g, N (f + 4) = g := ⟨_, rfl⟩
  have bu4 : Bn u4 128 := by rw [← hu4]; exact hb 4 (by decide)
  obtain ⟨u5, hu5⟩ : ∃ g, N (f + 5) = g := ⟨_, rfl⟩
  have bu5 : Bn u5 128 := by rw [← hu5]; exact hb 5 (by decide)
  refine sy_bipush X d_M_gains_0 (by decide) ?_
  refine sy_istore (lv1 := [(5, .int (iI 100)), (0, .ref (ad 0)), (1, .int (iI ((f : Nat) : Int))), (2, .int (iI h0)), (3, .int (iI h1)), (4, .int (iI r))]) X d_M_gains_2 hl (by decide) rfl (fun ls hl => ?_)
  refine sy_aload_n X d_M_gains_4 hl 1 rfl ?_
  refine sy_bipush X d_M_gains_5 (by decide) ?_
  refine sy_iload_n X d_M_gains_7 hl 2 rfl ?_
  refine sy_iconst X d_M_gains_8 ?_
  refine sy_iadd X d_M_gains_9 ?_
  refine sy_iload_n X d_M_gains_10 hl 3 rfl ?_
  refine call_Vv (Xs := []) (b := ad 0) (As := [.int (iI 96), .int (iI (((f : Nat) : Int) + 2)), .int (iI h0)]) (rest := []) X lk_M_52 (c_M_scale l D cs ad M N 96 (f + 2) h0 (by omega) (by omega) ⟨by omega, by omega⟩ hR (by rw [hu2]; exact Bn.fin (Bn.mul bu2 b0) (by decide))) ⟨by decide, by decide⟩ rcv_M hw rfl hl.1 (Nat.le_of_ble_eq_true rfl) d_M_gains_11 rfl rfl ⟨Nat.zero_le _, Nat.zero_le _⟩ (fun M_2 H locs p_1 hw => ?_)
  obtain ⟨N1, eN1⟩ : ∃ g, g = up1 N 96 (N (f + 2) * h0) := ⟨_, rfl⟩
  rw [← eN1] at p_1
  have fr1 : ∀ j, j ≠ 96 → N1 j = N j := fun j h0 => by rw [eN1, up1_n _ h0]
  obtain ⟨w_3, ew_3⟩ : ∃ g, g = u2 * h0 := ⟨_, rfl⟩
  have hv_4 : N1 96 = w_3 := by rw [eN1, up1_s, hu2, ew_3]
  have hb_5 : Bn w_3 132 := by rw [ew_3]; exact Bn.mul bu2 b0
  refine sy_aload_n X d_M_gains_14 hl 1 rfl ?_
  refine sy_bipush X d_M_gains_15 (by decide) ?_
  refine sy_iload_n X d_M_gains_17 hl 2 rfl ?_
  refine sy_iconst X d_M_gains_18 ?_
  refine sy_iadd X d_M_gains_19 ?_
  refine sy_iload_n X d_M_gains_20 hl 4 rfl ?_
  refine sy_iload X d_M_gains_21 hl 0 rfl ?_
  have hv_6 : N1 (f + 3) = u3 := (fr1 (f + 3) (by omega)).trans (hu3)
  refine call_Vv (Xs := []) (b := ad 0) (As := [.int (iI 96), .int (iI (((f : Nat) : Int) + 3)), .int (iI h1), .int (iI 100)]) (rest := []) X lk_M_114 (c_M_gain l D cs ad M_2 N1 96 (f + 3) h1 100 (by omega) (by omega) (by omega) (by omega) ⟨by omega, by omega⟩ p_1.1 (by rw [hv_6]; exact Bn.fin (Bn.mul bu3 b1) (by decide)) (by rw [hv_4, hv_6]; exact Bn.fin (Bn.add hb_5 (Bn.mul bu3 b1)) (by decide))) ⟨by decide, by decide⟩ rcv_M hw rfl hl.1 (Nat.le_of_ble_eq_true rfl) d_M_gains_23 rfl rfl ⟨Nat.zero_le _, Nat.zero_le _⟩ (fun M_8 H locs p_7 hw => ?_)
  obtain ⟨N2, eN2⟩ : ∃ g, g = up1 (up1 N1 100 (N1 (f + 3) * h1)) 96 (N1 96 + N1 (f + 3) * h1) := ⟨_, rfl⟩
  rw [← eN2] at p_7
  have fr2 : ∀ j, j ≠ 100 → j ≠ 96 → N2 j = N1 j := fun j h0 h1 => by rw [eN2, up1_n _ h1, up1_n _ h0]
  obtain ⟨w_9, ew_9⟩ : ∃ g, g = u3 * h1 := ⟨_, rfl⟩
  have hv_10 : N2 100 = w_9 := by rw [eN2, up1_n _ (by omega), up1_s, hv_6, ew_9]
  have hb_11 : Bn w_9 132 := by rw [ew_9]; exact Bn.mul bu3 b1
  obtain ⟨w_12, ew_12⟩ : ∃ g, g = w_3 + u3 * h1 := ⟨_, rfl⟩
  have hv_13 : N2 96 = w_12 := by rw [eN2, up1_s, hv_4, hv_6, ew_12]
  have hb_14 : Bn w_12 133 := by rw [ew_12]; exact Bn.add hb_5 (Bn.mul bu3 b1)
  refine sy_aload_n X d_M_gains_26 hl 1 rfl ?_
  refine sy_bipush X d_M_gains_27 (by decide) ?_
  refine sy_iload_n X d_M_gains_29 hl 2 rfl ?_
  refine sy_iconst X d_M_gains_30 ?_
  refine sy_iadd X d_M_gains_31 ?_
  refine sy_iload_n X d_M_gains_32 hl 3 rfl ?_
  have hv_15 : N2 (f + 3) = u3 := (fr2 (f + 3) (by omega) (by omega)).trans (hv_6)
  refine call_Vv (Xs := []) (b := ad 0) (As := [.int (iI 97), .int (iI (((f : Nat) : Int) + 3)), .int (iI h0)]) (rest := []) X lk_M_52 (c_M_scale l D cs ad M_8 N2 97 (f + 3) h0 (by omega) (by omega) ⟨by omega, by omega⟩ p_7.1 (by rw [hv_15]; exact Bn.fin (Bn.mul bu3 b0) (by decide))) ⟨by decide, by decide⟩ rcv_M hw rfl hl.1 (Nat.le_of_ble_eq_true rfl) d_M_gains_33 rfl rfl ⟨Nat.zero_le _, Nat.zero_le _⟩ (fun M_17 H locs p_16 hw => ?_)
  obtain ⟨N3, eN3⟩ : ∃ g, g = up1 N2 97 (N2 (f + 3) * h0) := ⟨_, rfl⟩
  rw [← eN3] at p_16
  have fr3 : ∀ j, j ≠ 97 → N3 j = N2 j := fun j h0 => by rw [eN3, up1_n _ h0]
  obtain ⟨w_18, ew_18⟩ : ∃ g, g = u3 * h0 := ⟨_, rfl⟩
  have hv_19 : N3 97 = w_18 := by rw [eN3, up1_s, hv_15, ew_18]
  have hb_20 : Bn w_18 132 := by rw [ew_18]; exact Bn.mul bu3 b0
  refine sy_aload_n X d_M_gains_36 hl 1 rfl ?_
  refine sy_bipush X d_M_gains_37 (by decide) ?_
  refine sy_iload_n X d_M_gains_39 hl 2 rfl ?_
  refine sy_iconst X d_M_gains_40 ?_
  refine sy_iadd X d_M_gains_41 ?_
  refine sy_iload_n X d_M_gains_42 hl 4 rfl ?_
  refine sy_iload X d_M_gains_43 hl 0 rfl ?_
  have hv_21 : N3 (f + 4) = u4 := (fr3 (f + 4) (by omega)).trans ((fr2 (f + 4) (by omega) (by omega)).trans ((fr1 (f + 4) (by omega)).trans (hu4)))
  refine call_Vv (Xs := []) (b := ad 0) (As := [.int (iI 97), .int (iI (((f : Nat) : Int) + 4)), .int (iI h1), .int (iI 100)]) (rest := []) X lk_M_114 (c_M_gain l D cs ad M_17 N3 97 (f + 4) h1 100 (by omega) (by omega) (by omega) (by omega) ⟨by omega, by omega⟩ p_16.1 (by rw [hv_21]; exact Bn.fin (Bn.mul bu4 b1) (by decide)) (by rw [hv_19, hv_21]; exact Bn.fin (Bn.add hb_20 (Bn.mul bu4 b1)) (by decide))) ⟨by decide, by decide⟩ rcv_M hw rfl hl.1 (Nat.le_of_ble_eq_true rfl) d_M_gains_45 rfl rfl ⟨Nat.zero_le _, Nat.zero_le _⟩ (fun M_23 H locs p_22 hw => ?_)
  obtain ⟨N4, eN4⟩ : ∃ g, g = up1 (up1 N3 100 (N3 (f + 4) * h1)) 97 (N3 97 + N3 (f + 4) * h1) := ⟨_, rfl⟩
  rw [← eN4] at p_22
  have fr4 : ∀ j, j ≠ 100 → j ≠ 97 → N4 j = N3 j := fun j h0 h1 => by rw [eN4, up1_n _ h1, up1_n _ h0]
  obtain ⟨w_24, ew_24⟩ : ∃ g, g = u4 * h1 := ⟨_, rfl⟩
  have hv_25 : N4 100 = w_24 := by rw [eN4, up1_n _ (by omega), up1_s, hv_21, ew_24]
  have hb_26 : Bn w_24 132 := by rw [ew_24]; exact Bn.mul bu4 b1
  obtain ⟨w_27, ew_27⟩ : ∃ g, g = w_18 + u4 * h1 := ⟨_, rfl⟩
  have hv_28 : N4 97 = w_27 := by rw [eN4, up1_s, hv_19, hv_21, ew_27]
  have hb_29 : Bn w_27 133 := by rw [ew_27]; exact Bn.add hb_20 (Bn.mul bu4 b1)
  refine sy_aload_n X d_M_gains_48 hl 1 rfl ?_
  refine sy_bipush X d_M_gains_49 (by decide) ?_
  refine sy_bipush X d_M_gains_51 (by decide) ?_
  refine sy_iload_n X d_M_gains_53 hl 3 rfl ?_
  have hv_30 : N4 96 = w_12 := (fr4 96 (by omega) (by omega)).trans ((fr3 96 (by omega)).trans (hv_13))
  refine call_Vv (Xs := []) (b := ad 0) (As := [.int (iI 98), .int (iI 96), .int (iI h0)]) (rest := []) X lk_M_52 (c_M_scale l D cs ad M_23 N4 98 96 h0 (by omega) (by omega) ⟨by omega, by omega⟩ p_22.1 (by rw [hv_30]; exact Bn.fin (Bn.mul hb_14 b0) (by decide))) ⟨by decide, by decide⟩ rcv_M hw rfl hl.1 (Nat.le_of_ble_eq_true rfl) d_M_gains_54 rfl rfl ⟨Nat.zero_le _, Nat.zero_le _⟩ (fun M_32 H locs p_31 hw => ?_)
  obtain ⟨N5, eN5⟩ : ∃ g, g = up1 N4 98 (N4 96 * h0) := ⟨_, rfl⟩
  rw [← eN5] at p_31
  have fr5 : ∀ j, j ≠ 98 → N5 j = N4 j := fun j h0 => by rw [eN5, up1_n _ h0]
  obtain ⟨w_33, ew_33⟩ : ∃ g, g = w_12 * h0 := ⟨_, rfl⟩
  have hv_34 : N5 98 = w_33 := by rw [eN5, up1_s, hv_30, ew_33]
  have hb_35 : Bn w_33 137 := by rw [ew_33]; exact Bn.mul hb_14 b0
  refine sy_aload_n X d_M_gains_57 hl 1 rfl ?_
  refine sy_bipush X d_M_gains_58 (by decide) ?_
  refine sy_bipush X d_M_gains_60 (by decide) ?_
  refine sy_iload_n X d_M_gains_62 hl 4 rfl ?_
  refine sy_iload X d_M_gains_63 hl 0 rfl ?_
  have hv_36 : N5 97 = w_27 := (fr5 97 (by omega)).trans (hv_28)
  refine call_Vv (Xs := []) (b := ad 0) (As := [.int (iI 98), .int (iI 97), .int (iI h1), .int (iI 100)]) (rest := []) X lk_M_114 (c_M_gain l D cs ad M_32 N5 98 97 h1 100 (by omega) (by omega) (by omega) (by omega) ⟨by omega, by omega⟩ p_31.1 (by rw [hv_36]; exact Bn.fin (Bn.mul hb_29 b1) (by decide)) (by rw [hv_34, hv_36]; exact Bn.fin (Bn.add hb_35 (Bn.mul hb_29 b1)) (by decide))) ⟨by decide, by decide⟩ rcv_M hw rfl hl.1 (Nat.le_of_ble_eq_true rfl) d_M_gains_65 rfl rfl ⟨Nat.zero_le _, Nat.zero_le _⟩ (fun M_38 H locs p_37 hw => ?_)
  obtain ⟨N6, eN6⟩ : ∃ g, g = up1 (up1 N5 100 (N5 97 * h1)) 98 (N5 98 + N5 97 * h1) := ⟨_, rfl⟩
  rw [← eN6] at p_37
  have fr6 : ∀ j, j ≠ 100 → j ≠ 98 → N6 j = N5 j := fun j h0 h1 => by rw [eN6, up1_n _ h1, up1_n _ h0]
  obtain ⟨w_39, ew_39⟩ : ∃ g, g = w_27 * h1 := ⟨_, rfl⟩
  have hv_40 : N6 100 = w_39 := by rw [eN6, up1_n _ (by omega), up1_s, hv_36, ew_39]
  have hb_41 : Bn w_39 137 := by rw [ew_39]; exact Bn.mul hb_29 b1
  obtain ⟨w_42, ew_42⟩ : ∃ g, g = w_33 + w_27 * h1 := ⟨_, rfl⟩
  have hv_43 : N6 98 = w_42 := by rw [eN6, up1_s, hv_34, hv_36, ew_42]
  have hb_44 : Bn w_42 138 := by rw [ew_42]; exact Bn.add hb_35 (Bn.mul hb_29 b1)
  refine sy_aload_n X d_M_gains_68 hl 1 rfl ?_
  refine sy_bipush X d_M_gains_69 (by decide) ?_
  refine sy_iload_n X d_M_gains_71 hl 2 rfl ?_
  refine sy_iconst X d_M_gains_72 ?_
  refine sy_iadd X d_M_gains_73 ?_
  refine sy_iload X d_M_gains_74 hl 5 rfl ?_
  refine sy_iload X d_M_gains_76 hl 0 rfl ?_
  have hv_45 : N6 (f + 5) = u5 := (fr6 (f + 5) (by omega) (by omega)).trans ((fr5 (f + 5) (by omega)).trans ((fr4 (f + 5) (by omega) (by omega)).trans ((fr3 (f + 5) (by omega)).trans ((fr2 (f + 5) (by omega) (by omega)).trans ((fr1 (f + 5) (by omega)).trans (hu5))))))
  refine call_Vv (Xs := []) (b := ad 0) (As := [.int (iI 98), .int (iI (((f : Nat) : Int) + 5)), .int (iI r), .int (iI 100)]) (rest := []) X lk_M_114 (c_M_gain l D cs ad M_38 N6 98 (f + 5) r 100 (by omega) (by omega) (by omega) (by omega) ⟨by omega, by omega⟩ p_37.1 (by rw [hv_45]; exact Bn.fin (Bn.mul bu5 br) (by decide)) (by rw [hv_43, hv_45]; exact Bn.fin (Bn.add hb_44 (Bn.mul bu5 br)) (by decide))) ⟨by decide, by decide⟩ rcv_M hw rfl hl.1 (Nat.le_of_ble_eq_true rfl) d_M_gains_78 rfl rfl ⟨Nat.zero_le _, Nat.zero_le _⟩ (fun M_47 H locs p_46 hw => ?_)
  obtain ⟨N7, eN7⟩ : ∃ g, g = up1 (up1 N6 100 (N6 (f + 5) * r)) 98 (N6 98 + N6 (f + 5) * r) := ⟨_, rfl⟩
  rw [← eN7] at p_46
  have fr7 : ∀ j, j ≠ 100 → j ≠ 98 → N7 j = N6 j := fun j h0 h1 => by rw [eN7, up1_n _ h1, up1_n _ h0]
  obtain ⟨w_48, ew_48⟩ : ∃ g, g = u5 * r := ⟨_, rfl⟩
  have hv_49 : N7 100 = w_48 := by rw [eN7, up1_n _ (by omega), up1_s, hv_45, ew_48]
  have hb_50 : Bn w_48 135 := by rw [ew_48]; exact Bn.mul bu5 br
  obtain ⟨w_51, ew_51⟩ : ∃ g, g = w_42 + u5 * r := ⟨_, rfl⟩
  have hv_52 : N7 98 = w_51 := by rw [eN7, up1_s, hv_43, hv_45, ew_51]
  have hb_53 : Bn w_51 139 := by rw [ew_51]; exact Bn.add hb_44 (Bn.mul bu5 br)
  have hv_54 : N7 96 = w_12 := (fr7 96 (by omega) (by omega)).trans ((fr6 96 (by omega) (by omega)).trans ((fr5 96 (by omega)).trans (hv_30)))
  have hv_55 : N7 97 = w_27 := (fr7 97 (by omega) (by omega)).trans ((fr6 97 (by omega) (by omega)).trans (hv_36))
  refine kr _ _ _ _ _ d_M_gains_81 hw ⟨N7, p_46.1, ((((((((Sm.rf M).tr p_1.2).tr p_7.2).tr p_16.2).tr p_22.2).tr p_31.2).tr p_37.2).tr p_46.2), ⟨?_, ?_, ?_⟩, fun j hj => ?_⟩
  · rw [hv_54]; simp only [ew_51, ew_48, ew_42, ew_39, ew_33, ew_27, ew_24, ew_18, ew_12, ew_9, ew_3, hu0, hu1, hu2, hu3, hu4, hu5]
  · rw [hv_55]; simp only [ew_51, ew_48, ew_42, ew_39, ew_33, ew_27, ew_24, ew_18, ew_12, ew_9, ew_3, hu0, hu1, hu2, hu3, hu4, hu5]
  · rw [hv_52]; simp only [ew_51, ew_48, ew_42, ew_39, ew_33, ew_27, ew_24, ew_18, ew_12, ew_9, ew_3, hu0, hu1, hu2, hu3, hu4, hu5]
  · exact (fr7 j (by omega) (by omega)).trans ((fr6 j (by omega) (by omega)).trans ((fr5 j (by omega)).trans ((fr4 j (by omega) (by omega)).trans ((fr3 j (by omega)).trans ((fr2 j (by omega) (by omega)).trans ((fr1 j (by omega)).trans (rfl)))))))
