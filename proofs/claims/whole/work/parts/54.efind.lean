set_option maxRecDepth 100000 in
set_option maxHeartbeats 4000000 in
theorem c_E_beliefOf (l : Launch) (D : va_G) (cs : Nat → ClassId) (ad : Nat → Nat → Nat) (E O P : Nat → Nat → Int) (z : Nat → Int) (t q tt : Nat) (kd : Int) (hI : CI E O P t q) (htt : tt ≤ t) (hkd : 0 ≤ kd ∧ kd ≤ 2) : Ct (S := Nat × (Nat → Int)) l D (tyL cs) y_E_beliefOf b_E_beliefOf 4 (some (.object "ExactEstimates$Belief")) (rm 6) [.ref (ad 5 0), .int (iI kd), .int (iI ((tt : Nat) : Int))] (wE ad cs E O P z) (fun u => u.1 < 13 ∧ KeepZ z u.2 ∧ ∀ i, (i = 1 ∨ i = 2 ∨ i = 3 ∨ i = 4 ∨ i = 7 ∨ i = 8) → blB u.2 u.1 i = bvec E O P z t q kd tt i) (fun u => some (.ref (ad 2 u.1))) (fun u => wE ad cs E O P u.2) := by
  refine Ct.introA (by decide) (Nat.le_of_ble_eq_true rfl) ?_
  intro p e s m below meth c A args Q H locs X hnm hw kr ls hl
  have X : CX D (tyL cs) R_E b_E_beliefOf 4 p m c s args := X
  have hl : lv_has ls 4 [(0, .ref (ad 5 0)), (1, .int (iI kd)), (2, .int (iI ((tt : Nat) : Int)))] := hl
  obtain ⟨⟨ht, ht3, hq, hq6⟩, hp0, hp1, hob, hpa⟩ := id hI
  have hpt := hp0 tt htt
  obtain ⟨pI, hpI⟩ : ∃ n : Nat, E 1 tt = (n : Int) := ⟨(E 1 tt).toNat, by omega⟩
  refine sy_iload_n X d_E_beliefOf_0 hl 1 rfl ?_
  refine sy_if_ne (tgt := 16) X d_E_beliefOf_1 (by decide) ⟨by omega, by omega⟩ (fun c1 => ?_) (fun c1 => ?_)
  · refine sy_aload_n X d_E_beliefOf_16 hl 0 rfl ?_
    refine e_get X hw 0 (by decide) rfl (tt_of k198 rfl) d_E_beliefOf_17 ?_
    have km2 : ∀ (H : Heap) (locs : List Loc), HW D A s.heap (wE ad cs E O P z) H locs → W p l e (rm 6) s m args below meth c H locs 0 0 Q (F0 m 45 ls [.int (iI ((fI E t q tt : Nat) : Int)), .ref (ad 5 1)]) := by
      intro H locs hw
      have hfI : fI E t q tt < 10 := by
        unfold fI; split
        · have := hp0 (tt + 1) (by omega); omega
        · omega
      refine e_aldB X hw (fI E t q tt) (by omega) (by omega) d_E_beliefOf_45 ?_
      refine sy_astore_n (lv1 := [(3, .ref (ad 2 (fI E t q tt))), (0, .ref (ad 5 0)), (1, .int (iI kd)), (2, .int (iI ((tt : Nat) : Int)))]) X d_E_beliefOf_46 hl rfl (by decide) rfl (fun ls hl => ?_)
      refine sy_iload_n X d_E_beliefOf_47 hl 2 rfl ?_
      refine sy_iconst X d_E_beliefOf_48 ?_
      refine sy_icmp_ne (tgt := 54) X d_E_beliefOf_49 (by decide) ⟨by omega, by omega⟩ ⟨by omega, by omega⟩ (fun c3 => ?_) (fun c3 => ?_)
      · refine sy_aload_n X d_E_beliefOf_54 hl 1 rfl ?_
        refine sy_iload_n X d_E_beliefOf_55 hl 3 rfl ?_
        refine call_Vv (Xs := []) (b := ad 5 0) (As := [.int (iI ((tt : Nat) : Int))]) (rest := []) X lk_E_189 (c_E_lookBackTo l D cs ad E O P z t q tt hI htt) ⟨by decide, by decide⟩ (rcv_E) hw rfl hl.1 (Nat.le_of_ble_eq_true rfl) d_E_beliefOf_56 rfl rfl ⟨Nat.zero_le _, Nat.zero_le _⟩ (fun z1 H locs hlb hw => ?_)
        refine sy_aload_n X d_E_beliefOf_59 hl 1 rfl ?_
        refine e_get X hw 9 (by decide) rfl (tt_of k207 rfl) d_E_beliefOf_60 ?_
        refine sy_aload_n X d_E_beliefOf_63 hl 0 rfl ?_
        refine sy_aload_n X d_E_beliefOf_64 hl 1 rfl ?_
        refine e_get X hw 7 (by decide) rfl (tt_of k205 rfl) d_E_beliefOf_65 ?_
        refine call_Vv (Xs := XE ad cs E) (b := ad 2 12) (As := [.ref (ad 2 (fI E t q tt)), .ref (ad 2 10)]) (rest := []) X lk_E_193 (c_B_join l D cs ad O P z1 12 (fI E t q tt) 10 (by decide) (by omega) (by decide) (by omega) (by decide) (by omega)) ⟨by decide, by decide⟩ (rcv_B (by decide)) hw rfl hl.1 (Nat.le_of_ble_eq_true rfl) d_E_beliefOf_68 rfl rfl ⟨Nat.zero_le _, Nat.zero_le _⟩ (fun _ H locs _ hw => ?_)
        refine sy_aload_n X d_E_beliefOf_71 hl 1 rfl ?_
        refine e_get X hw 9 (by decide) rfl (tt_of k207 rfl) d_E_beliefOf_72 ?_
        have hjc := joinV_congr (x := blB z1 12) (x1 := fun _ => 0) (u := blB z1 (fI E t q tt)) (u1 := blB z (fI E t q tt)) (v := blB z1 10) (v1 := hsV O P q t (t - tt)) (fun i hi => hlb.2 _ (by omega)) (fun i hi => hlb.1 i hi)
        exact kr (12, setB z1 12 (joinV (blB z1 12) (blB z1 (fI E t q tt)) (blB z1 10))) _ _ _ _ _ d_E_beliefOf_75 hw ⟨(by decide : 12 < 13), fun k hk => by dsimp only; rw [setB_out (by omega)]; exact hlb.2 k (Or.inl hk), fun i h6 => by
          unfold bvec; rw [if_neg (by omega), if_neg (by omega), blB_s (by omega)]
          rcases h6 with e | e | e | e | e | e <;> subst e
          · exact hjc.1
          · exact hjc.2.1
          · exact hjc.2.2.1
          · exact hjc.2.2.2.1
          · exact hjc.2.2.2.2.1
          · exact hjc.2.2.2.2.2⟩ rfl
      · refine sy_aload_n X d_E_beliefOf_52 hl 0 rfl ?_
        exact kr (fI E t q tt, z) _ _ _ _ _ d_E_beliefOf_53 hw ⟨by omega, fun _ _ => rfl, fun i _ => by unfold bvec; rw [if_neg (by omega), if_pos (by omega)]⟩ rfl
    refine sy_iload_n X d_E_beliefOf_20 hl 2 rfl ?_
    refine sy_aload_n X d_E_beliefOf_21 hl 0 rfl ?_
    refine e_get (v := .int (iI (t : Int))) X hw 5 (by decide) (by show some (Value.int (iI (E 0 0))) = _; rw [ht]) (tt_of k203 rfl) d_E_beliefOf_22 ?_
    refine sy_icmp_ge (tgt := 41) X d_E_beliefOf_25 (by decide) ⟨by omega, by omega⟩ ⟨by omega, by omega⟩ (fun c4 => ?_) (fun c4 => ?_)
    · refine sy_aload_n X d_E_beliefOf_41 hl 0 rfl ?_
      refine call_Vi (Xs := []) (b := ad 5 0) (As := []) (rest := [.ref (ad 5 1)]) X lk_E_94 (c_E_latest l D cs ad E O P z t q ht hq) ⟨by decide, by decide⟩ (rcv_E) hw rfl hl.1 (Nat.le_of_ble_eq_true rfl) d_E_beliefOf_42 rfl rfl ⟨Nat.zero_le _, Nat.zero_le _⟩ (fun _ H locs _ hw => ?_)
      exact W_topi (by unfold fI; first | (rw [if_pos (by omega), hpJ]; omega) | (rw [if_neg (by omega)])) (km2 H locs hw)
    · have hp2 := hp0 (tt + 1) (by omega)
      have hp3 := hp1 tt (by omega)
      obtain ⟨pJ, hpJ⟩ : ∃ n : Nat, E 1 (tt + 1) = (n : Int) := ⟨(E 1 (tt + 1)).toNat, by omega⟩
      refine sy_aload_n X d_E_beliefOf_28 hl 0 rfl ?_
      refine e_get X hw 1 (by decide) rfl (tt_of k199 rfl) d_E_beliefOf_29 ?_
      refine sy_iload_n X d_E_beliefOf_32 hl 2 rfl ?_
      refine sy_iconst X d_E_beliefOf_33 ?_
      refine sy_iadd X d_E_beliefOf_34 ?_
      refine e_ald X hw (tt + 1) (by omega) (by omega) (pJ : Int) hpJ d_E_beliefOf_35 ?_
      refine sy_iconst X d_E_beliefOf_36 ?_
      refine sy_isub X d_E_beliefOf_37 ?_
      refine sy_goto (tgt := 45) X d_E_beliefOf_38 (by decide) ?_
      exact W_topi (by unfold fI; first | (rw [if_pos (by omega), hpJ]; omega) | (rw [if_neg (by omega)])) (km2 H locs hw)
  · refine sy_aload_n X d_E_beliefOf_4 hl 0 rfl ?_
    refine e_get X hw 0 (by decide) rfl (tt_of k198 rfl) d_E_beliefOf_5 ?_
    refine sy_aload_n X d_E_beliefOf_8 hl 0 rfl ?_
    refine e_get X hw 1 (by decide) rfl (tt_of k199 rfl) d_E_beliefOf_9 ?_
    refine sy_iload_n X d_E_beliefOf_12 hl 2 rfl ?_
    refine e_ald X hw tt (by omega) (by omega) (pI : Int) hpI d_E_beliefOf_13 ?_
    refine e_aldB X hw pI (by omega) (by omega) d_E_beliefOf_14 ?_
    exact kr (pI, z) _ _ _ _ _ d_E_beliefOf_15 hw ⟨by omega, fun _ _ => rfl, fun i _ => by unfold bvec; rw [if_pos (by omega), hpI, Int.toNat_natCast]⟩ rfl
set_option maxRecDepth 100000 in
set_option maxHeartbeats 4000000 in
theorem c_E_findOfObservation (l : Launch) (D : va_G) (cs : Nat → ClassId) (ad : Nat → Nat → Nat) (E O P : Nat → Nat → Int) (z : Nat → Int) (t q : Nat) (tt e0 : Int) (hI : CI E O P t q) (k1 : R31 tt) (k2 : R31 e0) : Ct (S := Int × (Nat → Int)) l D (tyL cs) y_E_findOfObservation b_E_findOfObservation 5 (some .boolean) (rm 3) [.ref (ad 5 0), .int (iI tt), .int (iI e0)] (wE ad cs E O P z) (fun u => (¬ okQ t q 3 tt e0 ∧ u = (0, z)) ∨ (okQ t q 3 tt e0 ∧ u.1 = 1 ∧ KeepZ z u.2 ∧ u.2 117 = cN E O P z t q 3 tt e0 ∧ u.2 118 = cD E O P z t q 3 tt)) (fun u => some (.int (iI u.1))) (fun u => wE ad cs E O P u.2) := by
  refine Ct.introZ (by decide) (Nat.le_of_ble_eq_true rfl) ?_
  intro p e s m below meth c A args Q H locs X hnm hw kr ls hl
  have X : CX D (tyL cs) R_E b_E_findOfObservation 5 p m c s args := X
  have hl : lv_has ls 5 [(0, .ref (ad 5 0)), (1, .int (iI tt)), (2, .int (iI e0))] := hl
  obtain ⟨⟨ht, ht3, hq, hq6⟩, hp0, hp1, hob, hpa⟩ := id hI
  have k11 := k1.1
  have k12 := k1.2
  have k21 := k2.1
  have k22 := k2.2
  refine sy_iload_n X d_E_findOfObservation_0 hl 1 rfl ?_
  refine sy_if_lt (tgt := 21) X d_E_findOfObservation_1 (by decide) ⟨by omega, by omega⟩ (fun c1 => ?_) (fun c1 => ?_)
  · refine sy_iconst X d_E_findOfObservation_21 ?_
    exact kr (0, z) _ _ _ _ _ d_E_findOfObservation_22 hw (Or.inl ⟨by omega, rfl⟩) rfl (by decide)
  · refine sy_iload_n X d_E_findOfObservation_4 hl 1 rfl ?_
    refine sy_aload_n X d_E_findOfObservation_5 hl 0 rfl ?_
    refine e_get (v := .int (iI (q : Int))) X hw 6 (by decide) (by show some (Value.int (iI (E 0 1))) = _; rw [hq]) (tt_of k204 rfl) d_E_findOfObservation_6 ?_
    refine sy_icmp_ge (tgt := 21) X d_E_findOfObservation_9 (by decide) ⟨by omega, by omega⟩ ⟨by omega, by omega⟩ (fun c2 => ?_) (fun c2 => ?_)
    · refine sy_iconst X d_E_findOfObservation_21 ?_
      exact kr (0, z) _ _ _ _ _ d_E_findOfObservation_22 hw (Or.inl ⟨by omega, rfl⟩) rfl (by decide)
    · refine sy_iload_n X d_E_findOfObservation_12 hl 2 rfl ?_
      refine sy_if_lt (tgt := 21) X d_E_findOfObservation_13 (by decide) ⟨by omega, by omega⟩ (fun c3 => ?_) (fun c3 => ?_)
      · refine sy_iconst X d_E_findOfObservation_21 ?_
        exact kr (0, z) _ _ _ _ _ d_E_findOfObservation_22 hw (Or.inl ⟨by omega, rfl⟩) rfl (by decide)
      · refine sy_iload_n X d_E_findOfObservation_16 hl 2 rfl ?_
        refine sy_iconst X d_E_findOfObservation_17 ?_
        refine sy_icmp_le (tgt := 23) X d_E_findOfObservation_18 (by decide) ⟨by omega, by omega⟩ ⟨by omega, by omega⟩ (fun c4 => ?_) (fun c4 => ?_)
        · obtain ⟨a, rfl⟩ : ∃ a : Nat, tt = (a : Int) := ⟨tt.toNat, by omega⟩
          have hoa := hob a (by omega)
          obtain ⟨⟨ok0, ok1, ok2, ok3⟩, ok5, ok6, -⟩ := hoa
          obtain ⟨b, hb⟩ : ∃ b : Nat, O a 5 = (b : Int) := ⟨(O a 5).toNat, by omega⟩
          have hok : okQ t q 3 (a : Int) e0 := by omega
          have eD : cD E O P z t q 3 (a : Int) = blB z b 4 := by unfold cD; rw [if_pos rfl, Int.toNat_natCast, hb, Int.toNat_natCast]
          refine sy_aload_n X d_E_findOfObservation_23 hl 0 rfl ?_
          refine e_get X hw 2 (by decide) rfl (tt_of k200 rfl) d_E_findOfObservation_24 ?_
          refine sy_iload_n X d_E_findOfObservation_27 hl 1 rfl ?_
          refine e_aldO X hw a (by omega) (by omega) d_E_findOfObservation_28 ?_
          refine sy_astore_n (lv1 := [(3, .ref (ad 3 a)), (0, .ref (ad 5 0)), (1, .int (iI ((a : Nat) : Int))), (2, .int (iI e0))]) X d_E_findOfObservation_29 hl rfl (by decide) rfl (fun ls hl => ?_)
          refine sy_aload_n X d_E_findOfObservation_30 hl 1 rfl ?_
          refine e_get X hw 0 (by decide) rfl (tt_of k198 rfl) d_E_findOfObservation_31 ?_
          refine sy_aload_n X d_E_findOfObservation_34 hl 0 rfl ?_
          refine o_get (XE ad cs E) X hw 5 (by omega) (by decide) (tt_of k167 rfl) d_E_findOfObservation_35 ?_
          rw [hb]
          refine e_aldB X hw b (by omega) (by omega) d_E_findOfObservation_38 ?_
          refine sy_astore (lv1 := [(4, .ref (ad 2 b)), (3, .ref (ad 3 a)), (0, .ref (ad 5 0)), (1, .int (iI ((a : Nat) : Int))), (2, .int (iI e0))]) X d_E_findOfObservation_39 hl (by decide) rfl (fun ls hl => ?_)
          refine sy_aload_n X d_E_findOfObservation_41 hl 2 rfl ?_
          refine e_get X hw 11 (by decide) rfl (tt_of k209 rfl) d_E_findOfObservation_42 ?_
          refine sy_aload X d_E_findOfObservation_45 hl 0 rfl ?_
          refine b_get (XE ad cs E) X hw 4 (by omega) (by decide) (tt_of k120 rfl) d_E_findOfObservation_47 ?_
          have hw := hw.ofE
          refine call_Vv (Xs := XE ad cs E ++ XC ad O P) (b := ad 0 118) (As := [.ref (ad 0 (9 * b + 4))]) (rest := []) X lk_E_167 (c_W_copy l D cs ad z 118 (9 * b + 4) (by omega) (by omega)) ⟨by decide, by decide⟩ (rcv_Z (by omega)) hw rfl hl.1 (Nat.le_of_ble_eq_true rfl) d_E_findOfObservation_50 rfl rfl ⟨Nat.zero_le _, Nat.zero_le _⟩ (fun _ H locs _ hw => ?_)
          have hw := hw.toE
          refine sy_iload_n X d_E_findOfObservation_53 hl 4 rfl ?_
          refine sy_if_ne (tgt := 96) X d_E_findOfObservation_54 (by decide) ⟨by omega, by omega⟩ (fun c5 => ?_) (fun c5 => ?_)
          · refine sy_aload_n X d_E_findOfObservation_96 hl 2 rfl ?_
            refine e_get X hw 10 (by decide) rfl (tt_of k208 rfl) d_E_findOfObservation_97 ?_
            refine sy_aload_n X d_E_findOfObservation_100 hl 2 rfl ?_
            refine e_get X hw 0 (by decide) rfl (tt_of k198 rfl) d_E_findOfObservation_101 ?_
            refine sy_aload_n X d_E_findOfObservation_104 hl 1 rfl ?_
            refine o_get (XE ad cs E) X hw 5 (by omega) (by decide) (tt_of k167 rfl) d_E_findOfObservation_105 ?_
            rw [hb]
            refine sy_iconst X d_E_findOfObservation_108 ?_
            refine sy_iadd X d_E_findOfObservation_109 ?_
            refine e_aldB X hw (b + 1) (by omega) (by omega) d_E_findOfObservation_110 ?_
            refine b_get (XE ad cs E) X hw 4 (by omega) (by decide) (tt_of k120 rfl) d_E_findOfObservation_111 ?_
            have hw := hw.ofE
            refine call_Vv (Xs := XE ad cs E ++ XC ad O P) (b := ad 0 117) (As := [.ref (ad 0 (9 * (b + 1) + 4))]) (rest := []) X lk_E_167 (c_W_copy l D cs ad (up1 z 118 (z (9 * b + 4))) 117 (9 * (b + 1) + 4) (by omega) (by omega)) ⟨by decide, by decide⟩ (rcv_Z (by omega)) hw rfl hl.1 (Nat.le_of_ble_eq_true rfl) d_E_findOfObservation_114 rfl rfl ⟨Nat.zero_le _, Nat.zero_le _⟩ (fun _ H locs _ hw => ?_)
            have hw := hw.toE
            refine sy_iconst X d_E_findOfObservation_117 ?_
            have eN : cN E O P z t q 3 (a : Int) e0 = blB z (b + 1) 4 := by unfold cN; rw [if_pos rfl, if_neg (by omega), Int.toNat_natCast, hb, Int.toNat_natCast]
            exact kr (1, up1 (up1 z 118 (z (9 * b + 4))) 117 ((up1 z 118 (z (9 * b + 4))) (9 * (b + 1) + 4))) _ _ _ _ _ d_E_findOfObservation_118 hw (Or.inr ⟨hok, rfl, fun k hk => by dsimp only; rw [up1_n _ (by omega), up1_n _ (by omega)], by dsimp only; rw [eN, up1_s, up1_n _ (by omega)]; rfl, by dsimp only; rw [eD, up1_n _ (by omega), up1_s]; rfl⟩) rfl (by decide)
          · refine sy_aload_n X d_E_findOfObservation_57 hl 2 rfl ?_
            refine e_get X hw 10 (by decide) rfl (tt_of k208 rfl) d_E_findOfObservation_58 ?_
            refine sy_aload X d_E_findOfObservation_61 hl 0 rfl ?_
            refine b_get (XE ad cs E) X hw 4 (by omega) (by decide) (tt_of k120 rfl) d_E_findOfObservation_63 ?_
            refine sy_aload_n X d_E_findOfObservation_66 hl 1 rfl ?_
            refine o_get (XE ad cs E) X hw 3 (by omega) (by decide) (tt_of k163 rfl) d_E_findOfObservation_67 ?_
            refine sy_aload X d_E_findOfObservation_70 hl 0 rfl ?_
            refine b_get (XE ad cs E) X hw 7 (by omega) (by decide) (tt_of k124 rfl) d_E_findOfObservation_72 ?_
            refine sy_aload_n X d_E_findOfObservation_75 hl 1 rfl ?_
            refine o_get (XE ad cs E) X hw 0 (by omega) (by decide) (tt_of k155 rfl) d_E_findOfObservation_76 ?_
            refine sy_ineg X d_E_findOfObservation_79 ?_
            refine sy_aload X d_E_findOfObservation_80 hl 0 rfl ?_
            refine b_get (XE ad cs E) X hw 8 (by omega) (by decide) (tt_of k126 rfl) d_E_findOfObservation_82 ?_
            refine sy_aload_n X d_E_findOfObservation_85 hl 1 rfl ?_
            refine o_get (XE ad cs E) X hw 1 (by omega) (by decide) (tt_of k158 rfl) d_E_findOfObservation_86 ?_
            refine sy_ineg X d_E_findOfObservation_89 ?_
            have hw := hw.ofE
            refine call_Vv (Xs := XE ad cs E ++ XC ad O P) (b := ad 0 117) (As := [.ref (ad 0 (9 * b + 4)), .int (iI (O a 3)), .ref (ad 0 (9 * b + 7)), .int (iI (-(O a 0))), .ref (ad 0 (9 * b + 8)), .int (iI (-(O a 1)))]) (rest := []) X lk_E_185 (c_W_setSum l D cs ad (up1 z 118 (z (9 * b + 4))) 117 (9 * b + 4) (O a 3) (9 * b + 7) (-(O a 0)) (9 * b + 8) (-(O a 1)) (by omega) (by omega) (by omega) (by omega) (by omega) (by omega) ⟨by omega, by omega⟩ ⟨by omega, by omega⟩ ⟨by omega, by omega⟩) ⟨by decide, by decide⟩ (rcv_Z (by omega)) hw rfl hl.1 (Nat.le_of_ble_eq_true rfl) d_E_findOfObservation_90 rfl rfl ⟨Nat.zero_le _, Nat.zero_le _⟩ (fun _ H locs _ hw => ?_)
            have hw := hw.toE
            refine sy_goto (tgt := 117) X d_E_findOfObservation_93 (by decide) ?_
            refine sy_iconst X d_E_findOfObservation_117 ?_
            have eN : cN E O P z t q 3 (a : Int) e0 = blB z b 4 * O a 3 + blB z b 7 * (-(O a 0)) + blB z b 8 * (-(O a 1)) := by unfold cN; rw [if_pos rfl, if_pos (by omega), Int.toNat_natCast, hb, Int.toNat_natCast]
            exact kr (1, up1 (up1 z 118 (z (9 * b + 4))) 117 ((up1 z 118 (z (9 * b + 4))) (9 * b + 4) * (O a 3) + (up1 z 118 (z (9 * b + 4))) (9 * b + 7) * (-(O a 0)) + (up1 z 118 (z (9 * b + 4))) (9 * b + 8) * (-(O a 1)))) _ _ _ _ _ d_E_findOfObservation_118 hw (Or.inr ⟨hok, rfl, fun k hk => by dsimp only; rw [up1_n _ (by omega), up1_n _ (by omega)], by dsimp only; rw [eN, up1_s, up1_n _ (by omega), up1_n _ (by omega), up1_n _ (by omega)]; rfl, by dsimp only; rw [eD, up1_n _ (by omega), up1_s]; rfl⟩) rfl (by decide)
        · refine sy_iconst X d_E_findOfObservation_21 ?_
          exact kr (0, z) _ _ _ _ _ d_E_findOfObservation_22 hw (Or.inl ⟨by omega, rfl⟩) rfl (by decide)
set_option maxRecDepth 100000 in
set_option maxHeartbeats 4000000 in
theorem c_E_find (l : Launch) (D : va_G) (cs : Nat → ClassId) (ad : Nat → Nat → Nat) (E O P : Nat → Nat → Int) (z : Nat → Int) (t q : Nat) (kd tt e0 : Int) (hI : CI E O P t q) (k0 : R31 kd) (k1 : R31 tt) (k2 : R31 e0) : Ct (S := Int × (Nat → Int)) l D (tyL cs) y_E_find b_E_find 4 (some .boolean) (rm 7) [.ref (ad 5 0), .int (iI kd), .int (iI tt), .int (iI e0)] (wE ad cs E O P z) (fun u => (¬ okQ t q kd tt e0 ∧ u = (0, z)) ∨ (okQ t q kd tt e0 ∧ u.1 = 1 ∧ KeepZ z u.2 ∧ u.2 117 = cN E O P z t q kd tt e0 ∧ u.2 118 = cD E O P z t q kd tt)) (fun u => some (.int (iI u.1))) (fun u => wE ad cs E O P u.2) := by
  refine Ct.introZ (by decide) (Nat.le_of_ble_eq_true rfl) ?_
  intro p e s m below meth c A args Q H locs X hnm hw kr ls hl
  have X : CX D (tyL cs) R_E b_E_find 4 p m c s args := X
  have hl : lv_has ls 4 [(0, .ref (ad 5 0)), (1, .int (iI kd)), (2, .int (iI tt)), (3, .int (iI e0))] := hl
  obtain ⟨⟨ht, ht3, hq, hq6⟩, hp0, hp1, hob, hpa⟩ := id hI
  have k01 := k0.1
  have k02 := k0.2
  have k11 := k1.1
  have k12 := k1.2
  have k21 := k2.1
  have k22 := k2.2
  refine sy_iload_n X d_E_find_0 hl 1 rfl ?_
  refine sy_iconst X d_E_find_1 ?_
  refine sy_icmp_ne (tgt := 12) X d_E_find_2 (by decide) ⟨by omega, by omega⟩ ⟨by omega, by omega⟩ (fun c1 => ?_) (fun c1 => ?_)
  · refine sy_iload_n X d_E_find_12 hl 1 rfl ?_
    refine sy_if_lt (tgt := 42) X d_E_find_13 (by decide) ⟨by omega, by omega⟩ (fun c2 => ?_) (fun c2 => ?_)
    · refine sy_iconst X d_E_find_42 ?_
      exact kr (0, z) _ _ _ _ _ d_E_find_43 hw (Or.inl ⟨by omega, rfl⟩) rfl (by decide)
    · refine sy_iload_n X d_E_find_16 hl 1 rfl ?_
      refine sy_iconst X d_E_find_17 ?_
      refine sy_icmp_gt (tgt := 42) X d_E_find_18 (by decide) ⟨by omega, by omega⟩ ⟨by omega, by omega⟩ (fun c3 => ?_) (fun c3 => ?_)
      · refine sy_iconst X d_E_find_42 ?_
        exact kr (0, z) _ _ _ _ _ d_E_find_43 hw (Or.inl ⟨by omega, rfl⟩) rfl (by decide)
      · refine sy_iload_n X d_E_find_21 hl 2 rfl ?_
        refine sy_if_lt (tgt := 42) X d_E_find_22 (by decide) ⟨by omega, by omega⟩ (fun c4 => ?_) (fun c4 => ?_)
        · refine sy_iconst X d_E_find_42 ?_
          exact kr (0, z) _ _ _ _ _ d_E_find_43 hw (Or.inl ⟨by omega, rfl⟩) rfl (by decide)
        · refine sy_iload_n X d_E_find_25 hl 2 rfl ?_
          refine sy_aload_n X d_E_find_26 hl 0 rfl ?_
          refine e_get (v := .int (iI (t : Int))) X hw 5 (by decide) (by show some (Value.int (iI (E 0 0))) = _; rw [ht]) (tt_of k203 rfl) d_E_find_27 ?_
          refine sy_icmp_gt (tgt := 42) X d_E_find_30 (by decide) ⟨by omega, by omega⟩ ⟨by omega, by omega⟩ (fun c5 => ?_) (fun c5 => ?_)
          · refine sy_iconst X d_E_find_42 ?_
            exact kr (0, z) _ _ _ _ _ d_E_find_43 hw (Or.inl ⟨by omega, rfl⟩) rfl (by decide)
          · refine sy_iload_n X d_E_find_33 hl 3 rfl ?_
            refine sy_if_lt (tgt := 42) X d_E_find_34 (by decide) ⟨by omega, by omega⟩ (fun c6 => ?_) (fun c6 => ?_)
            · refine sy_iconst X d_E_find_42 ?_
              exact kr (0, z) _ _ _ _ _ d_E_find_43 hw (Or.inl ⟨by omega, rfl⟩) rfl (by decide)
            · refine sy_iload_n X d_E_find_37 hl 3 rfl ?_
              refine sy_iconst X d_E_find_38 ?_
              refine sy_icmp_le (tgt := 44) X d_E_find_39 (by decide) ⟨by omega, by omega⟩ ⟨by omega, by omega⟩ (fun c7 => ?_) (fun c7 => ?_)
              · obtain ⟨a, rfl⟩ : ∃ a : Nat, tt = (a : Int) := ⟨tt.toNat, by omega⟩
                have hok : okQ t q kd (a : Int) e0 := by omega
                refine sy_aload_n X d_E_find_44 hl 0 rfl ?_
                refine sy_iload_n X d_E_find_45 hl 1 rfl ?_
                refine sy_iload_n X d_E_find_46 hl 2 rfl ?_
                refine call_Vr (Xs := []) (b := ad 5 0) (As := [.int (iI kd), .int (iI ((a : Nat) : Int))]) (rest := []) X lk_E_153 (c_E_beliefOf l D cs ad E O P z t q a kd hI (by omega) (by omega)) ⟨by decide, by decide⟩ (rcv_E) hw rfl hl.1 (Nat.le_of_ble_eq_true rfl) d_E_find_47 rfl rfl ⟨Nat.zero_le _, Nat.zero_le _⟩ (fun u H locs hp hw => ?_)
                obtain ⟨b, z1⟩ := u
                obtain ⟨hb13, hkz, hbv⟩ := hp
                simp only at hb13 hkz hbv hw
                refine sy_iload_n X d_E_find_50 hl 3 rfl ?_
                refine sy_aload_n X d_E_find_51 hl 0 rfl ?_
                refine e_get X hw 10 (by decide) rfl (tt_of k208 rfl) d_E_find_52 ?_
                refine sy_aload_n X d_E_find_55 hl 0 rfl ?_
                refine e_get X hw 11 (by decide) rfl (tt_of k209 rfl) d_E_find_56 ?_
                refine call_Vv (Xs := XE ad cs E) (b := ad 2 b) (As := [.int (iI e0), .ref (ad 0 117), .ref (ad 0 118)]) (rest := []) X lk_E_157 (c_B_tell l D cs ad O P z1 b e0 hb13 (by omega)) ⟨by decide, by decide⟩ (rcv_B hb13) hw rfl hl.1 (Nat.le_of_ble_eq_true rfl) d_E_find_59 rfl rfl ⟨Nat.zero_le _, Nat.zero_le _⟩ (fun _ H locs _ hw => ?_)
                refine sy_iconst X d_E_find_62 ?_
                have eN : cN E O P z t q kd (a : Int) e0 = tellN (blB z1 b) e0 := by unfold cN; rw [if_neg (by omega), Int.toNat_natCast]; exact (tellN_congr (hbv 1 (by decide)) (hbv 2 (by decide)) (hbv 3 (by decide)) (hbv 7 (by decide)) (hbv 8 (by decide))).symm
                have eD : cD E O P z t q kd (a : Int) = blB z1 b 4 := by unfold cD; rw [if_neg (by omega), Int.toNat_natCast]; exact (hbv 4 (by decide)).symm
                exact kr (1, up1 (up1 z1 118 (blB z1 b 4)) 117 (tellN (blB z1 b) e0)) _ _ _ _ _ d_E_find_63 hw (Or.inr ⟨hok, rfl, fun k hk => by dsimp only; rw [up1_n _ (by omega), up1_n _ (by omega)]; exact hkz k hk, by dsimp only; rw [eN, up1_s], by dsimp only; rw [eD, up1_n _ (by omega), up1_s]⟩) rfl (by decide)
              · refine sy_iconst X d_E_find_42 ?_
                exact kr (0, z) _ _ _ _ _ d_E_find_43 hw (Or.inl ⟨by omega, rfl⟩) rfl (by decide)
  · refine sy_aload_n X d_E_find_5 hl 0 rfl ?_
    refine sy_iload_n X d_E_find_6 hl 2 rfl ?_
    refine sy_iload_n X d_E_find_7 hl 3 rfl ?_
    refine call_Vi (Xs := []) (b := ad 5 0) (As := [.int (iI tt), .int (iI e0)]) (rest := []) X lk_E_150 (c_E_findOfObservation l D cs ad E O P z t q tt e0 hI k1 k2) ⟨by decide, by decide⟩ (rcv_E) hw rfl hl.1 (Nat.le_of_ble_eq_true rfl) d_E_find_8 rfl rfl ⟨Nat.zero_le _, Nat.zero_le _⟩ (fun u H locs hp hw => ?_)
    have hk3 : kd = 3 := by omega
    subst hk3
    have hnb : narrow .boolean (.int (iI u.1)) = .int (iI u.1) := by
      rcases hp with ⟨-, h⟩ | ⟨-, h, -⟩
      · rw [h]; exact (by decide : narrow .boolean (.int (iI 0)) = .int (iI 0))
      · rw [h]; decide
    exact kr u _ _ _ _ _ d_E_find_11 hw hp rfl hnb
