theorem setB_congr {z v w : Nat → Int} {b : Nat} (h : ∀ i, i < 9 → v i = w i) : setB z b v = setB z b w := by
  funext k; unfold setB
  by_cases hk : 9 * b ≤ k ∧ k < 9 * b + 9
  · rw [if_pos hk, if_pos hk]; exact h _ (by omega)
  · rw [if_neg hk, if_neg hk]
theorem setB_setB (z v w : Nat → Int) (b : Nat) : setB (setB z b v) b w = setB z b w := by
  funext k; unfold setB; split <;> rfl
theorem blB_s {z v : Nat → Int} {b i : Nat} (h : i < 9) : blB (setB z b v) b i = v i := setB_in h
theorem blB_n {z v : Nat → Int} {a b i : Nat} (h : i < 9) (hab : a ≠ b) : blB (setB z b v) a i = blB z a i := setB_out (by omega)
theorem scaleV_congr {x x1 u u1 : Nat → Int} {a d : Int} (hx : ∀ i, i < 9 → x i = x1 i) (hu : ∀ i, i < 9 → u i = u1 i) : ∀ i, i < 9 → scaleV x u a d i = scaleV x1 u1 a d i := fun i hi => by
  have h9 : i = 0 ∨ i = 1 ∨ i = 2 ∨ i = 3 ∨ i = 4 ∨ i = 5 ∨ i = 6 ∨ i = 7 ∨ i = 8 := by omega
  rcases h9 with e | e | e | e | e | e | e | e | e <;> subst e <;> simp only [scaleV, hx 1 (by decide), hx 2 (by decide), hx 3 (by decide), hx 5 (by decide), hx 6 (by decide), hx 7 (by decide), hx 8 (by decide), hu 0 (by decide), hu 4 (by decide)]
def onV (x u f : Nat → Int) : Nat → Int := scaleV (turnV x u (f 3) (-(f 1)) (-(f 2)) (f 0)) u (f 0 * f 3 - f 1 * f 2) 1
def backV (x u f : Nat → Int) : Nat → Int := scaleV (turnV x u (f 0) (f 1) (f 2) (f 3)) u 1 (f 0 * f 3 - f 1 * f 2)
def tellN (u : Nat → Int) (e0 : Int) : Int := if e0 = 0 then u 7 else if e0 = 1 then u 8 else if e0 = 2 then u 3 else if e0 = 3 then u 2 * -1 else u 1
set_option maxRecDepth 100000 in
set_option maxHeartbeats 4000000 in
theorem c_B_moveOn (l : Launch) (D : va_G) (cs : Nat → ClassId) (ad : Nat → Nat → Nat) (O P : Nat → Nat → Int) (z : Nat → Int) (b a i : Nat) (hb : b < 13) (ha : a < 13) (hab : a ≠ b) (hi : i < 4) (k0 : ∀ j, j < 4 → -3 ≤ P i j ∧ P i j ≤ 3) : Ct (S := Unit) l D (tyL cs) y_B_moveOn b_B_moveOn 3 none (rm 4) [.ref (ad 2 b), .ref (ad 2 a), .ref (ad 4 i)] (wO ad cs O P z) (fun _ => True) (fun _ => none) (fun _ => wO ad cs O P (setB z b (onV (blB z b) (blB z a) (P i)))) := by
  refine Ct.introV (by decide) (Nat.le_of_ble_eq_true rfl) (fun _ => rfl) ?_
  intro p e s m below meth c A args Q H locs X hnm hw kr ls hl
  have X : CX D (tyL cs) R_B b_B_moveOn 3 p m c s args := X
  have hl : lv_has ls 3 [(0, .ref (ad 2 b)), (1, .ref (ad 2 a)), (2, .ref (ad 4 i))] := hl
  have y0 := k0 0 (by decide)
  have y1 := k0 1 (by decide)
  have y2 := k0 2 (by decide)
  have y3 := k0 3 (by decide)
  have y4 := mul_rng y0 y3
  have y5 := mul_rng y1 y2
  refine sy_aload_n X d_B_moveOn_0 hl 0 rfl ?_
  refine sy_aload_n X d_B_moveOn_1 hl 1 rfl ?_
  refine sy_aload_n X d_B_moveOn_2 hl 2 rfl ?_
  refine q_get [] X hw 3 hi (by decide) (tt_of k76 rfl) d_B_moveOn_3 ?_
  refine sy_aload_n X d_B_moveOn_6 hl 2 rfl ?_
  refine q_get [] X hw 1 hi (by decide) (tt_of k72 rfl) d_B_moveOn_7 ?_
  refine sy_ineg X d_B_moveOn_10 ?_
  refine sy_aload_n X d_B_moveOn_11 hl 2 rfl ?_
  refine q_get [] X hw 2 hi (by decide) (tt_of k74 rfl) d_B_moveOn_12 ?_
  refine sy_ineg X d_B_moveOn_15 ?_
  refine sy_aload_n X d_B_moveOn_16 hl 2 rfl ?_
  refine q_get [] X hw 0 hi (by decide) (tt_of k70 rfl) d_B_moveOn_17 ?_
  refine call_Vv (Xs := []) (b := ad 2 b) (As := [.ref (ad 2 a), .int (iI (P i 3)), .int (iI (-(P i 1))), .int (iI (-(P i 2))), .int (iI (P i 0))]) (rest := []) X lk_B_101 (c_B_turn l D cs ad O P z b a (P i 3) (-(P i 1)) (-(P i 2)) (P i 0) hb ha hab (by omega) (by omega) (by omega) (by omega)) ⟨by decide, by decide⟩ (rcv_B hb) hw rfl hl.1 (Nat.le_of_ble_eq_true rfl) d_B_moveOn_20 rfl rfl ⟨Nat.zero_le _, Nat.zero_le _⟩ (fun _ H locs _ hw => ?_)
  refine sy_aload_n X d_B_moveOn_23 hl 0 rfl ?_
  refine sy_aload_n X d_B_moveOn_24 hl 1 rfl ?_
  refine sy_aload_n X d_B_moveOn_25 hl 2 rfl ?_
  refine call_Vi (Xs := []) (b := ad 4 i) (As := []) (rest := [.ref (ad 2 a), .ref (ad 2 b)]) X lk_B_105 (c_Q_stepDeterminant l D cs ad O P (setB z b (turnV (blB z b) (blB z a) (P i 3) (-(P i 1)) (-(P i 2)) (P i 0))) i hi) ⟨by decide, by decide⟩ (rcv_Q hi) hw rfl hl.1 (Nat.le_of_ble_eq_true rfl) d_B_moveOn_26 rfl rfl ⟨Nat.zero_le _, Nat.zero_le _⟩ (fun _ H locs _ hw => ?_)
  refine sy_iconst X d_B_moveOn_29 ?_
  refine call_Vv (Xs := []) (b := ad 2 b) (As := [.ref (ad 2 a), .int (iI (P i 0 * P i 3 - P i 1 * P i 2)), .int (iI 1)]) (rest := []) X lk_B_108 (c_B_moveScales l D cs ad O P (setB z b (turnV (blB z b) (blB z a) (P i 3) (-(P i 1)) (-(P i 2)) (P i 0))) b a (P i 0 * P i 3 - P i 1 * P i 2) 1 hb ha hab (by omega) (by omega)) ⟨by decide, by decide⟩ (rcv_B hb) hw rfl hl.1 (Nat.le_of_ble_eq_true rfl) d_B_moveOn_30 rfl rfl ⟨Nat.zero_le _, Nat.zero_le _⟩ (fun _ H locs _ hw => ?_)
  rw [setB_setB, setB_congr (scaleV_congr (x1 := turnV (blB z b) (blB z a) (P i 3) (-(P i 1)) (-(P i 2)) (P i 0)) (u1 := blB z a) (fun i hi => blB_s hi) (fun i hi => blB_n hi hab))] at hw
  exact kr () _ _ _ _ d_B_moveOn_33 hw trivial
set_option maxRecDepth 100000 in
set_option maxHeartbeats 4000000 in
theorem c_B_moveBack (l : Launch) (D : va_G) (cs : Nat → ClassId) (ad : Nat → Nat → Nat) (O P : Nat → Nat → Int) (z : Nat → Int) (b a i : Nat) (hb : b < 13) (ha : a < 13) (hab : a ≠ b) (hi : i < 4) (k0 : ∀ j, j < 4 → -3 ≤ P i j ∧ P i j ≤ 3) : Ct (S := Unit) l D (tyL cs) y_B_moveBack b_B_moveBack 3 none (rm 4) [.ref (ad 2 b), .ref (ad 2 a), .ref (ad 4 i)] (wO ad cs O P z) (fun _ => True) (fun _ => none) (fun _ => wO ad cs O P (setB z b (backV (blB z b) (blB z a) (P i)))) := by
  refine Ct.introV (by decide) (Nat.le_of_ble_eq_true rfl) (fun _ => rfl) ?_
  intro p e s m below meth c A args Q H locs X hnm hw kr ls hl
  have X : CX D (tyL cs) R_B b_B_moveBack 3 p m c s args := X
  have hl : lv_has ls 3 [(0, .ref (ad 2 b)), (1, .ref (ad 2 a)), (2, .ref (ad 4 i))] := hl
  have y0 := k0 0 (by decide)
  have y1 := k0 1 (by decide)
  have y2 := k0 2 (by decide)
  have y3 := k0 3 (by decide)
  have y4 := mul_rng y0 y3
  have y5 := mul_rng y1 y2
  refine sy_aload_n X d_B_moveBack_0 hl 0 rfl ?_
  refine sy_aload_n X d_B_moveBack_1 hl 1 rfl ?_
  refine sy_aload_n X d_B_moveBack_2 hl 2 rfl ?_
  refine q_get [] X hw 0 hi (by decide) (tt_of k70 rfl) d_B_moveBack_3 ?_
  refine sy_aload_n X d_B_moveBack_6 hl 2 rfl ?_
  refine q_get [] X hw 1 hi (by decide) (tt_of k72 rfl) d_B_moveBack_7 ?_
  refine sy_aload_n X d_B_moveBack_10 hl 2 rfl ?_
  refine q_get [] X hw 2 hi (by decide) (tt_of k74 rfl) d_B_moveBack_11 ?_
  refine sy_aload_n X d_B_moveBack_14 hl 2 rfl ?_
  refine q_get [] X hw 3 hi (by decide) (tt_of k76 rfl) d_B_moveBack_15 ?_
  refine call_Vv (Xs := []) (b := ad 2 b) (As := [.ref (ad 2 a), .int (iI (P i 0)), .int (iI (P i 1)), .int (iI (P i 2)), .int (iI (P i 3))]) (rest := []) X lk_B_101 (c_B_turn l D cs ad O P z b a (P i 0) (P i 1) (P i 2) (P i 3) hb ha hab (by omega) (by omega) (by omega) (by omega)) ⟨by decide, by decide⟩ (rcv_B hb) hw rfl hl.1 (Nat.le_of_ble_eq_true rfl) d_B_moveBack_18 rfl rfl ⟨Nat.zero_le _, Nat.zero_le _⟩ (fun _ H locs _ hw => ?_)
  refine sy_aload_n X d_B_moveBack_21 hl 0 rfl ?_
  refine sy_aload_n X d_B_moveBack_22 hl 1 rfl ?_
  refine sy_iconst X d_B_moveBack_23 ?_
  refine sy_aload_n X d_B_moveBack_24 hl 2 rfl ?_
  refine call_Vi (Xs := []) (b := ad 4 i) (As := []) (rest := [.int (iI 1), .ref (ad 2 a), .ref (ad 2 b)]) X lk_B_105 (c_Q_stepDeterminant l D cs ad O P (setB z b (turnV (blB z b) (blB z a) (P i 0) (P i 1) (P i 2) (P i 3))) i hi) ⟨by decide, by decide⟩ (rcv_Q hi) hw rfl hl.1 (Nat.le_of_ble_eq_true rfl) d_B_moveBack_25 rfl rfl ⟨Nat.zero_le _, Nat.zero_le _⟩ (fun _ H locs _ hw => ?_)
  refine call_Vv (Xs := []) (b := ad 2 b) (As := [.ref (ad 2 a), .int (iI 1), .int (iI (P i 0 * P i 3 - P i 1 * P i 2))]) (rest := []) X lk_B_108 (c_B_moveScales l D cs ad O P (setB z b (turnV (blB z b) (blB z a) (P i 0) (P i 1) (P i 2) (P i 3))) b a 1 (P i 0 * P i 3 - P i 1 * P i 2) hb ha hab (by omega) (by omega)) ⟨by decide, by decide⟩ (rcv_B hb) hw rfl hl.1 (Nat.le_of_ble_eq_true rfl) d_B_moveBack_28 rfl rfl ⟨Nat.zero_le _, Nat.zero_le _⟩ (fun _ H locs _ hw => ?_)
  rw [setB_setB, setB_congr (scaleV_congr (x1 := turnV (blB z b) (blB z a) (P i 0) (P i 1) (P i 2) (P i 3)) (u1 := blB z a) (fun i hi => blB_s hi) (fun i hi => blB_n hi hab))] at hw
  exact kr () _ _ _ _ d_B_moveBack_31 hw trivial
set_option maxRecDepth 100000 in
set_option maxHeartbeats 4000000 in
theorem c_B_tell (l : Launch) (D : va_G) (cs : Nat → ClassId) (ad : Nat → Nat → Nat) (O P : Nat → Nat → Int) (z : Nat → Int) (b : Nat) (e0 : Int) (hb : b < 13) (he : 0 ≤ e0 ∧ e0 ≤ 4) : Ct (S := Unit) l D (tyL cs) y_B_tell b_B_tell 4 none (rm 2) [.ref (ad 2 b), .int (iI e0), .ref (ad 0 117), .ref (ad 0 118)] (wO ad cs O P z) (fun _ => True) (fun _ => none) (fun _ => wO ad cs O P (up1 (up1 z 118 (blB z b 4)) 117 (tellN (blB z b) e0))) := by
  refine Ct.introV (by decide) (Nat.le_of_ble_eq_true rfl) (fun _ => rfl) ?_
  intro p e s m below meth c A args Q H locs X hnm hw kr ls hl
  have X : CX D (tyL cs) R_B b_B_tell 4 p m c s args := X
  have hl : lv_has ls 4 [(0, .ref (ad 2 b)), (1, .int (iI e0)), (2, .ref (ad 0 117)), (3, .ref (ad 0 118))] := hl
  refine sy_aload_n X d_B_tell_0 hl 3 rfl ?_
  refine sy_aload_n X d_B_tell_1 hl 0 rfl ?_
  refine b_get [] X hw 4 hb (by decide) (tt_of k119 rfl) d_B_tell_2 ?_
  refine call_Vv (Xs := XC ad O P) (b := ad 0 118) (As := [.ref (ad 0 (9 * b + 4))]) (rest := []) X lk_B_44 (c_W_copy l D cs ad z 118 (9 * b + 4) (by omega) (by omega)) ⟨by decide, by decide⟩ (rcv_Z (by omega)) hw rfl hl.1 (Nat.le_of_ble_eq_true rfl) d_B_tell_5 rfl rfl ⟨Nat.zero_le _, Nat.zero_le _⟩ (fun _ H locs _ hw => ?_)
  refine sy_iload_n X d_B_tell_8 hl 1 rfl ?_
  have h5 : e0 = 0 ∨ e0 = 1 ∨ e0 = 2 ∨ e0 = 3 ∨ e0 = 4 := by omega
  rcases h5 with h | h | h | h | h <;> subst h
  · refine lv_tableIn (tgt := 40) X.1.1 X.1.2.1 d_B_tell_9 (by decide) (by decide) rfl (by decide) ?_
    refine sy_aload_n X d_B_tell_40 hl 2 rfl ?_
    refine sy_aload_n X d_B_tell_41 hl 0 rfl ?_
    refine b_get [] X hw 7 hb (by decide) (tt_of k123 rfl) d_B_tell_42 ?_
    refine call_Vv (Xs := XC ad O P) (b := ad 0 117) (As := [.ref (ad 0 (9 * b + 7))]) (rest := []) X lk_B_44 (c_W_copy l D cs ad (up1 z 118 (z (9 * b + 4))) 117 (9 * b + 7) (by omega) (by omega)) ⟨by decide, by decide⟩ (rcv_Z (by omega)) hw rfl hl.1 (Nat.le_of_ble_eq_true rfl) d_B_tell_45 rfl rfl ⟨Nat.zero_le _, Nat.zero_le _⟩ (fun _ H locs _ hw => ?_)
    refine sy_goto (tgt := 93) X d_B_tell_48 (by decide) ?_
    have hzf : up1 (up1 z 118 (z (9 * b + 4))) 117 ((up1 z 118 (z (9 * b + 4))) (9 * b + 7)) = up1 (up1 z 118 (blB z b 4)) 117 (tellN (blB z b) 0) := by
      simp only [blB, tellN]
      rw [up1_n _ (by omega)]
      simp
    rw [hzf] at hw
    exact kr () _ _ _ _ d_B_tell_93 hw trivial
  · refine lv_tableIn (tgt := 51) X.1.1 X.1.2.1 d_B_tell_9 (by decide) (by decide) rfl (by decide) ?_
    refine sy_aload_n X d_B_tell_51 hl 2 rfl ?_
    refine sy_aload_n X d_B_tell_52 hl 0 rfl ?_
    refine b_get [] X hw 8 hb (by decide) (tt_of k125 rfl) d_B_tell_53 ?_
    refine call_Vv (Xs := XC ad O P) (b := ad 0 117) (As := [.ref (ad 0 (9 * b + 8))]) (rest := []) X lk_B_44 (c_W_copy l D cs ad (up1 z 118 (z (9 * b + 4))) 117 (9 * b + 8) (by omega) (by omega)) ⟨by decide, by decide⟩ (rcv_Z (by omega)) hw rfl hl.1 (Nat.le_of_ble_eq_true rfl) d_B_tell_56 rfl rfl ⟨Nat.zero_le _, Nat.zero_le _⟩ (fun _ H locs _ hw => ?_)
    refine sy_goto (tgt := 93) X d_B_tell_59 (by decide) ?_
    have hzf : up1 (up1 z 118 (z (9 * b + 4))) 117 ((up1 z 118 (z (9 * b + 4))) (9 * b + 8)) = up1 (up1 z 118 (blB z b 4)) 117 (tellN (blB z b) 1) := by
      simp only [blB, tellN]
      rw [up1_n _ (by omega)]
      simp
    rw [hzf] at hw
    exact kr () _ _ _ _ d_B_tell_93 hw trivial
  · refine lv_tableIn (tgt := 62) X.1.1 X.1.2.1 d_B_tell_9 (by decide) (by decide) rfl (by decide) ?_
    refine sy_aload_n X d_B_tell_62 hl 2 rfl ?_
    refine sy_aload_n X d_B_tell_63 hl 0 rfl ?_
    refine b_get [] X hw 3 hb (by decide) (tt_of k118 rfl) d_B_tell_64 ?_
    refine call_Vv (Xs := XC ad O P) (b := ad 0 117) (As := [.ref (ad 0 (9 * b + 3))]) (rest := []) X lk_B_44 (c_W_copy l D cs ad (up1 z 118 (z (9 * b + 4))) 117 (9 * b + 3) (by omega) (by omega)) ⟨by decide, by decide⟩ (rcv_Z (by omega)) hw rfl hl.1 (Nat.le_of_ble_eq_true rfl) d_B_tell_67 rfl rfl ⟨Nat.zero_le _, Nat.zero_le _⟩ (fun _ H locs _ hw => ?_)
    refine sy_goto (tgt := 93) X d_B_tell_70 (by decide) ?_
    have hzf : up1 (up1 z 118 (z (9 * b + 4))) 117 ((up1 z 118 (z (9 * b + 4))) (9 * b + 3)) = up1 (up1 z 118 (blB z b 4)) 117 (tellN (blB z b) 2) := by
      simp only [blB, tellN]
      rw [up1_n _ (by omega)]
      simp
    rw [hzf] at hw
    exact kr () _ _ _ _ d_B_tell_93 hw trivial
  · refine lv_tableIn (tgt := 73) X.1.1 X.1.2.1 d_B_tell_9 (by decide) (by decide) rfl (by decide) ?_
    refine sy_aload_n X d_B_tell_73 hl 2 rfl ?_
    refine sy_aload_n X d_B_tell_74 hl 0 rfl ?_
    refine b_get [] X hw 2 hb (by decide) (tt_of k117 rfl) d_B_tell_75 ?_
    refine sy_iconst X d_B_tell_78 ?_
    refine call_Vv (Xs := XC ad O P) (b := ad 0 117) (As := [.ref (ad 0 (9 * b + 2)), .int (iI (-1))]) (rest := []) X lk_B_116 (c_W_setTimes l D cs ad (up1 z 118 (z (9 * b + 4))) 117 (9 * b + 2) (-1) (by omega) (by omega) ⟨by decide, by decide⟩) ⟨by decide, by decide⟩ (rcv_Z (by omega)) hw rfl hl.1 (Nat.le_of_ble_eq_true rfl) d_B_tell_79 rfl rfl ⟨Nat.zero_le _, Nat.zero_le _⟩ (fun _ H locs _ hw => ?_)
    refine sy_goto (tgt := 93) X d_B_tell_82 (by decide) ?_
    have hzf : up1 (up1 z 118 (z (9 * b + 4))) 117 ((up1 z 118 (z (9 * b + 4))) (9 * b + 2) * -1) = up1 (up1 z 118 (blB z b 4)) 117 (tellN (blB z b) 3) := by
      simp only [blB, tellN]
      rw [up1_n _ (by omega)]
      simp
    rw [hzf] at hw
    exact kr () _ _ _ _ d_B_tell_93 hw trivial
  · refine lv_tableOut (tgt := 85) X.1.1 X.1.2.1 d_B_tell_9 (by decide) (by decide) ?_
    refine sy_aload_n X d_B_tell_85 hl 2 rfl ?_
    refine sy_aload_n X d_B_tell_86 hl 0 rfl ?_
    refine b_get [] X hw 1 hb (by decide) (tt_of k116 rfl) d_B_tell_87 ?_
    refine call_Vv (Xs := XC ad O P) (b := ad 0 117) (As := [.ref (ad 0 (9 * b + 1))]) (rest := []) X lk_B_44 (c_W_copy l D cs ad (up1 z 118 (z (9 * b + 4))) 117 (9 * b + 1) (by omega) (by omega)) ⟨by decide, by decide⟩ (rcv_Z (by omega)) hw rfl hl.1 (Nat.le_of_ble_eq_true rfl) d_B_tell_90 rfl rfl ⟨Nat.zero_le _, Nat.zero_le _⟩ (fun _ H locs _ hw => ?_)
    have hzf : up1 (up1 z 118 (z (9 * b + 4))) 117 ((up1 z 118 (z (9 * b + 4))) (9 * b + 1)) = up1 (up1 z 118 (blB z b 4)) 117 (tellN (blB z b) 4) := by
      simp only [blB, tellN]
      rw [up1_n _ (by omega)]
      simp
    rw [hzf] at hw
    exact kr () _ _ _ _ d_B_tell_93 hw trivial
